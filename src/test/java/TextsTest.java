/** Promises 37 to 39: the tape, and towns from texts. */
public final class TextsTest {
    public static void main(String[] args) {
        Due due = new Due();
        feed(due);
        wipe(due);
        textOfPeople(due);
        textOfThings(due);
        tokens(due);
        faults(due);
        tooMany(due);
        nothingOfAFault(due);
        due.end();
    }

    private static void feed(Due due) {
        due.promise(37, "feed");
        EnvyRust x = new EnvyRust();
        due.refuses(x, Due.BEYOND, "feed(0, 0)", () -> x.feed(0, 0));
        due.refuses(x, Due.BEYOND, "feed(0, 5)", () -> x.feed(0, 5));
        due.refuses(x, Due.BEYOND, "feed(0, -1)", () -> x.feed(0, -1));
        due.is("feed(loo, 3)", x.feed('?' << 24 | 'l' << 16 | 'o' << 8 | 'o', 3), 3);
        due.is("feed(k, 1)", x.feed(-256 | 'k', 1), 4);
        due.is("feed(er, 2)", x.feed('?' << 16 | 'e' << 8 | 'r', 2), 6);
        due.is("feed(;chi, 4)", x.feed(';' << 24 | 'c' << 16 | 'h' << 8 | 'i', 4), 10);
        due.is("feed(ld, 2)", x.feed('l' << 8 | 'd', 2), 12);
        due.is("text()", x.text(), 2);
        due.is("of(1, 0)", x.of(1, 0), 5);
        for (int i = 1; i <= 29; i++) {
            due.is("feed(-1, 4)", x.feed(-1, 4), 4 * i);
        }
        due.is("feed(0, 1)", x.feed(0, 1), 117);
        due.refuses(x, Due.FULL, "feed(0, 4)", () -> x.feed(0, 4));
        due.refuses(x, Due.BEYOND, "feed(0, 5)", () -> x.feed(0, 5));
        due.is("feed(0, 3)", x.feed(0, 3), 120);
        due.refuses(x, Due.FULL, "feed(0, 1)", () -> x.feed(0, 1));
        due.is("count(5)", x.count(5), 120);
    }

    private static void wipe(Due due) {
        due.promise(38, "wipe");
        EnvyRust x = new EnvyRust();
        due.is("wipe()", x.wipe(), 0);
        Due.feed(x, "thing 0");
        due.is("wipe()", x.wipe(), 7);
        due.is("count(5)", x.count(5), 0);
        due.is("wipe()", x.wipe(), 0);
        due.is("text()", x.text(), -1);
    }

    private static void row(Due due, String what, EnvyRust x, boolean ofThing, int number, int... want) {
        for (int i = 0; i < want.length; i++) {
            due.is(what + " " + number + ", what " + i, ofThing ? x.thingOf(number, i) : x.of(number, i), want[i]);
        }
    }

    private static void textOfPeople(Due due) {
        due.promise(39, "text");
        EnvyRust x = new EnvyRust();
        due.is("text", Due.read(x, "looker; modest at 1; rival walks 2; praiser likes 3 4 5 6; thief at 15 walks 15 likes 9 9 9 9"), 5);
        due.is("text", Due.read(x, "child at 0 likes 0 0 0 0;beggar walks 0 likes 0 1 2 3"), 2);
        due.is("the tape is empty", x.count(5), 0);
        row(due, "person", x, false, 0, 0, 0, 1, 1, 1, 1, 1, 0);
        row(due, "person", x, false, 1, 1, 1, 1, 1, 1, 1, 1, 0);
        row(due, "person", x, false, 2, 2, 0, 2, 1, 1, 1, 1, 0);
        row(due, "person", x, false, 3, 3, 0, 1, 3, 4, 5, 6, 0);
        row(due, "person", x, false, 4, 4, 15, 15, 9, 9, 9, 9, 0);
        row(due, "person", x, false, 5, 5, 0, 1, 0, 0, 0, 0, 0);
        row(due, "person", x, false, 6, 6, 0, 0, 0, 1, 2, 3, 0);
        due.is("count(2)", x.count(2), 7);
        due.is("count(1)", x.count(1), 0);
    }

    private static void textOfThings(Due due) {
        EnvyRust x = new EnvyRust();
        x.person(0, 0);
        x.thing(3, 3);
        due.is("text", Due.read(x, "thing 2; rival; thing 3 at 15 thick 999 paint 9 of 1 on 1; thing 0 thick 0 on 2"), 4);
        due.is("text", Due.read(x, "thing 1 at 7 paint 4; thing 1 of 0;thing 1 on 0"), 3);
        due.is("count(1)", x.count(1), 7);
        row(due, "thing", x, true, 1, 2, 0, 100, 0, -1, -1);
        row(due, "thing", x, true, 2, 3, 15, 999, 9, 1, 1);
        row(due, "thing", x, true, 3, 0, 0, 0, 0, -1, 2);
        row(due, "thing", x, true, 4, 1, 7, 100, 4, -1, -1);
        row(due, "thing", x, true, 5, 1, 0, 100, 0, 0, -1);
        row(due, "thing", x, true, 6, 1, 0, 100, 0, -1, 0);
        due.is("no fault is a finding", x.status(-1), 0);
    }

    private static void tokens(Due due) {
        EnvyRust x = new EnvyRust();
        due.is("blanks", Due.read(x, "  looker   at   3;   child  "), 2);
        due.is("no blanks", Due.read(x, "looker at3walks4likes1 2 3 4;thing1at12"), 2);
        row(due, "person", x, false, 2, 0, 3, 4, 1, 2, 3, 4);
        row(due, "thing", x, true, 0, 1, 12);
        due.is("zeros ahead", Due.read(x, "looker at 0000000000000015"), 1);
        row(due, "person", x, false, 3, 0, 15);
        fault(due, "lookerat 3", 0);
        fault(due, "looker at 3walks", 16);
        fault(due, "looker likes 1234", 13);
        fault(due, "looker at 99999999999999999999", 10);
        fault(due, "looker at 4294967296", 10);
        fault(due, "thing 18446744073709551616", 6);
    }

    private static void fault(Due due, String text, int place) {
        EnvyRust x = new EnvyRust();
        due.is("'" + text + "'", Due.read(x, text), -1 - place);
        due.is("count(5) behind '" + text + "'", x.count(5), 0);
        due.is("status(-1) behind '" + text + "'", x.status(-1), 0);
        due.is("count(1) + count(2) behind '" + text + "'", x.count(1) + x.count(2), 0);
    }

    private static void faults(Due due) {
        String[] tooEarly = {"", " ", "looker;", "looker at", "looker at ", "looker walks", "looker likes", "looker likes 1 2 3",
            "looker likes 1 2 3  ", "thing", "thing ", "thing 0 at", "thing 0 thick", "thing 0 paint", "looker;thing 0 of",
            "thing 0;thing 0 on", "thing 0; "};
        for (String text : tooEarly) {
            fault(due, text, text.length());
        }
        // Where the sign # is, is the fault (with the next sign): the sign itself is left out.
        String[] marked = {"#;", "#looke", "#lookers", "#booker", "#lookerz", "#zlooker", "looker #bt 3", "#thinga", "#Looker", "#0", "#at 3", "looker;#;", "looker;#at", "looker #looker",
            "looker #thing 0", "looker #5", "looker #?", "looker#.", "#?looker", "looker#\t", "looker#\n", "looker#\u00e9", "looker#\u0000",
            "looker at #16", "looker at #;", "looker at #x", "looker at #walks 3", "looker at 3 #at 4", "looker at 3 #4", "looker walks #16",
            "looker walks 3 #at 4", "looker likes #10 1 1 1", "looker likes 1 1 1 #10", "looker likes 1 1 1 #;", "looker likes 1 1 1 1 #1",
            "looker likes 1 1 1 1 #walks 3", "looker likes 1 1 1 1 #likes 1 1 1 1", "looker #thick 3", "looker at #-1", "looker;#",
            "thing #;", "thing #4", "thing #at 3", "thing 0 #0", "thing 0 at #16", "thing 0 thick #1000", "thing 0 thick 9 #at 3",
            "thing 0 paint #10", "thing 0 paint 1 #thick 3", "thing 0 of #0", "looker; thing 0 of #1", "looker; thing 0 of 0 #paint 3",
            "thing 0 on #0", "thing 0; thing 1 on #1", "thing 0; thing 1 on 0 #on 0", "looker; thing 0; thing 1 on 0 #of 0",
            "thing 0 #walks 3", "thing 0 #likes 1 1 1 1", "thing 0 of #0; looker", "#walks 3", "thing 0 at 3 #at 3", "looker at 3#:"};
        for (String text : marked) {
            int place = text.indexOf('#');
            fault(due, text.substring(0, place) + text.substring(place + 1), place);
        }
        EnvyRust x = Due.town("looker; child; thing 0; thing 0");
        due.is("one that isn't there", Due.read(x, "thing 0 of 2"), -12);
        due.is("itself", Due.read(x, "thing 0 on 2"), -12);
        due.is("those that are there", Due.read(x, "thing 0 of 1 on 1"), 1);
        due.is("the last one", x.thingOf(2, 4) * 10 + x.thingOf(2, 5), 11);
    }

    private static void tooMany(Due due) {
        EnvyRust x = new EnvyRust();
        due.is("9 people", Due.read(x, "child;child;child;child;child;child;child;child;child"), -1 - 48);
        due.is("count(2)", x.count(2), 0);
        due.is("8 people", Due.read(x, "child;child;child;child;child;child;child;child"), 8);
        due.is("one more", Due.read(x, " looker at 99"), -2);
        due.is("8 things", Due.read(x, "thing 0;thing 1;thing 2;thing 3;thing 0;thing 1;thing 2;thing 3"), 8);
        due.is("one more", Due.read(x, "  thing 9"), -3);
        due.is("still another word", Due.read(x, "  things"), -3);
        due.is("count(1)", x.count(1), 8);
        due.is("count(2)", x.count(2), 8);
        EnvyRust y = new EnvyRust();
        due.is("9 things", Due.read(y, "thing 0;thing 1;thing 2;thing 3;thing 0;thing 1;thing 2;thing 3;thing 0"), -1 - 64);
        due.is("a 9th behind 7", Due.read(y, "thing 0;thing 1;thing 2;thing 3;thing 0;thing 1;thing 2;looker;thing 3"), 9);
    }

    private static void nothingOfAFault(Due due) {
        EnvyRust x = Due.town("looker; thing 0; thing 1");
        String before = Due.seen(x);
        String text = "thing 2 paint 4 of 0 on 1; rival at 3; thing 3 at 5 thick 5; child walks 16";
        due.is("a fault at the end", Due.read(x, text), -1 - text.indexOf("16"));
        due.is("nothing changed", before.equals(Due.seen(x)) ? 1 : 0, 1);
        due.is("no finding", x.status(-1), 0);
        due.is("the next is as new", x.thing(1, 1), 2);
        row(due, "thing", x, true, 2, 1, 1, 100, 0, -1, -1, 0);
        due.is("the next is as new", x.person(1, 1), 1);
        row(due, "person", x, false, 1, 1, 1, 1, 1, 1, 1, 1, 0);
    }
}

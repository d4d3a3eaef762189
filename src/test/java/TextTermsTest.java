/** The sentences of Terms about texts, and of promises 37 to 39, each at its boundaries. */
public final class TextTermsTest {
    private static final String EIGHT_PEOPLE = "child;child;child;child;child;child;child;child";
    private static final String EIGHT_THINGS = "thing0;thing1;thing2;thing3;thing0;thing1;thing2;thing3";

    public static void main(String[] args) {
        Due due = new Due();
        tape(due);
        longTokens(due);
        words(due);
        numbers(due);
        sign(due);
        blanks(due);
        items(due);
        kinds(due);
        atOfPeople(due);
        walks(due);
        likes(due);
        sorts(due);
        atOfThings(due);
        thick(due);
        paint(due);
        owner(due);
        hangs(due);
        orderOfParts(due);
        faultPlace(due);
        faultsTold(due);
        endsTooEarly(due);
        feed(due);
        wipe(due);
        text(due);
        faultAnswer(due);
        due.end();
    }

    /** The text on the tape of this object has its fault there, and nothing comes of it. */
    private static void fault(Due due, EnvyRust x, String text, int place) {
        x.wipe();
        Due.feed(x, text);
        String before = Due.seen(x).replaceFirst("^((\\S+ ){5})\\d+", "$10");
        due.is("'" + text + "'", x.text(), -1 - place);
        due.same("'" + text + "'", before, Due.seen(x));
        due.is("findings behind '" + text + "'", x.status(-1), 0);
    }

    private static void fault(Due due, String text, int place) {
        fault(due, new EnvyRust(), text, place);
    }

    private static void reads(Due due, EnvyRust x, String text, int items) {
        due.is("'" + text + "'", Due.read(x, text), items);
    }

    private static void reads(Due due, String text, int items) {
        reads(due, new EnvyRust(), text, items);
    }

    /** This, and as many blanks as make it so long. */
    private static String padded(String text, int length) {
        return text + " ".repeat(length - text.length());
    }

    private static void tape(Due due) {
        due.says(0, "A TEXT is read from THE TAPE (bytes, at most 120).");
        reads(due, padded("looker at 15", 119), 1);
        reads(due, padded("looker at 15", 120), 1);
        reads(due, " ".repeat(114) + "looker", 1);
        reads(due, " ".repeat(113) + "thing 3", 1);
        reads(due, EIGHT_PEOPLE + ";" + EIGHT_THINGS, 16);
        fault(due, " ".repeat(120), 120);
        fault(due, " ".repeat(119), 119);
        fault(due, padded("looker", 119) + ";", 120);
        fault(due, padded("looker", 119) + "x", 119);
        fault(due, padded("looker", 119) + "7", 119);
        fault(due, padded("looker", 119) + "?", 119);
        fault(due, "a".repeat(120), 0);
        fault(due, "0".repeat(120), 0);
        reads(due, "thing" + "0".repeat(115), 1);
        EnvyRust x = new EnvyRust();
        Due.feed(x, padded("looker", 120));
        due.refuses(x, Due.FULL, "a 121st byte", () -> x.feed('?', 1));
        due.is("text()", x.text(), 1);
    }

    private static void longTokens(Due due) {
        due.says(0, "TOKENS, each as long as can be: ");
        fault(due, "lookerat 3", 0);
        fault(due, "looker atwalks 3", 7);
        fault(due, "looker at 3walks", 16);
        reads(due, "looker at 3walks 4", 1);
        reads(due, "looker at 15", 1);
        fault(due, "looker at 1 5", 12);
        fault(due, "looker at 155", 10);
        reads(due, "looker likes 1 2 3 4", 1);
        fault(due, "looker likes 12 3 4", 13);
        fault(due, "looker likes 1 2 34", 17);
        fault(due, "thing12", 5);
        fault(due, "thing1 2", 7);
        fault(due, "thingat 3", 0);
    }

    private static void words(Due due) {
        due.says(0, "WORDS (letters a to z), ");
        // All words of a text together: b, c, d, .. and z are in none, but begin a word.
        reads(due, "looker;modest;rival;praiser;thief;child;beggar;thing 0 at 0 thick 9 paint 0 of 0;thing 0 on 0", 9);
        fault(due, "a", 0);
        fault(due, "z", 0);
        fault(due, "lookera", 0);
        fault(due, "lookerz", 0);
        // The signs just outside of a to z end a word, and begin no token.
        fault(due, "looker`", 6);
        fault(due, "looker{", 6);
        fault(due, "`looker", 0);
        fault(due, "{looker", 0);
        fault(due, "Looker", 0);
        fault(due, "looKer", 0);
        fault(due, "lookerA", 6);
        fault(due, "lookerZ", 6);
        fault(due, "looker\u00e4", 6);
    }

    private static void numbers(Due due) {
        due.says(0, "NUMBERS (digits, 999 at most), ");
        int[][] told = {{0, 0}, {9, 9}, {998, 998}, {999, 999}};
        for (int[] row : told) {
            EnvyRust x = new EnvyRust();
            reads(due, x, "thing 0 thick " + row[0], 1);
            due.is("thick", x.thingOf(0, 2), row[1]);
        }
        fault(due, "thing 0 thick 1000", 14);
        fault(due, "thing 0 thick 9999", 14);
        fault(due, "thing 0 thick 10000000000", 14);
        fault(due, "thing 0 thick 4294967297", 14);
        fault(due, "thing 0 thick 2147483648", 14);
        fault(due, "thing 4294967296", 6);
        fault(due, "thing 18446744073709551616", 6);
        EnvyRust x = new EnvyRust();
        reads(due, x, "thing 0 thick 0000000000000000000000000999", 1);
        due.is("with 0s ahead", x.thingOf(0, 2), 999);
        fault(due, "thing 0 thick 0000000000000000000000001000", 14);
        // The signs just outside of 0 to 9 end a number, and begin no token.
        fault(due, "thing 0/", 7);
        fault(due, "thing 0:", 7);
        fault(due, "thing /0", 6);
        fault(due, "thing :0", 6);
        fault(due, "thing -1", 6);
        fault(due, "thing +1", 6);
        fault(due, "thing 0.", 7);
    }

    private static void sign(Due due) {
        due.says(0, "SIGN ; ; ");
        reads(due, "looker;child", 2);
        reads(due, "looker ; child", 2);
        // 58, 59, 60: only 59 is the sign.
        fault(due, "looker:child", 6);
        fault(due, "looker<child", 6);
        fault(due, "looker,child", 6);
        fault(due, "looker;;child", 7);
        fault(due, ";looker", 0);
        fault(due, ";", 0);
    }

    private static void blanks(Due due) {
        due.says(0, "blanks may stand between.");
        reads(due, "looker at 3 walks 4 likes 1 2 3 4 ; thing 1", 2);
        reads(due, "looker at3walks4likes1 2 3 4;thing1", 2);
        reads(due, "   looker   at   3   ;   thing   1   ", 2);
        reads(due, " looker", 1);
        reads(due, "looker ", 1);
        // 31, 32, 33: only 32 is a blank.
        fault(due, "looker\u001f", 6);
        fault(due, "looker!", 6);
        fault(due, "looker\t", 6);
        fault(due, "looker\n", 6);
        fault(due, "looker\r", 6);
        fault(due, "looker\u0000", 6);
        fault(due, "looker\u00a0", 6);
        fault(due, "loo ker", 0);
        fault(due, "looker a t 3", 7);
    }

    private static void items(Due due) {
        due.says(0, "TEXT: ITEM { ; ITEM }.");
        fault(due, "", 0);
        reads(due, "looker", 1);
        reads(due, "looker;child", 2);
        reads(due, "looker;thing 0;child", 3);
        reads(due, EIGHT_THINGS, 8);
        reads(due, EIGHT_THINGS + ";" + EIGHT_PEOPLE, 16);
        fault(due, "looker;", 7);
        fault(due, "looker;child;", 13);
        fault(due, "looker child", 7);
        fault(due, "thing 0 thing 1", 8);
        fault(due, EIGHT_PEOPLE + ";" + EIGHT_THINGS + ";", 104);
    }

    private static void kinds(Due due) {
        due.says(0, "ITEM: looker, modest, rival, praiser, thief, child or beggar, ");
        String[] words = {"looker", "modest", "rival", "praiser", "thief", "child", "beggar"};
        EnvyRust x = new EnvyRust();
        for (int kind = 0; kind <= 6; kind++) {
            String word = words[kind];
            reads(due, x, word, 1);
            due.is("the kind of a " + word, x.of(kind, 0), kind);
            fault(due, word.substring(0, word.length() - 1), 0);
            fault(due, word + "s", 0);
            fault(due, word.substring(1), 0);
            fault(due, "y" + word.substring(1), 0);
            fault(due, word.substring(0, word.length() - 1) + "y", 0);
        }
        fault(due, "person", 0);
        fault(due, "shing 0", 0);
        fault(due, "looker bt 3", 7);
        fault(due, "looker ab 3", 7);
    }

    /** One of the numbers that an item may tell: from 0 to most, what is told with and without it. */
    private static void part(Due due, String ahead, String word, int most, int without, boolean ofThing, int what) {
        int[] told = {0, 1, most - 1, most};
        for (int v : told) {
            EnvyRust x = new EnvyRust();
            reads(due, x, ahead + " " + word + " " + v, 1);
            due.is(word + " " + v, ofThing ? x.thingOf(0, what) : x.of(0, what), v);
        }
        EnvyRust x = new EnvyRust();
        reads(due, x, ahead, 1);
        due.is("without " + word, ofThing ? x.thingOf(0, what) : x.of(0, what), without);
        int place = ahead.length() + word.length() + 2;
        fault(due, ahead + " " + word + " " + (most + 1), place);
        fault(due, ahead + " " + word + " -1", place);
        fault(due, ahead + " " + word + " ;", place);
        fault(due, ahead + " " + word + " " + word, place);
        fault(due, ahead + " " + word + " 0 0", place + 2);
        fault(due, ahead + " " + word, place - 1);
        fault(due, ahead + " 0", ahead.length() + 1);
    }

    private static void atOfPeople(Due due) {
        due.says(0, "perhaps at and a NUMBER (a PLACE; 0 without), perhaps ");
        part(due, "looker", "at", 15, 0, false, 1);
        part(due, "beggar", "at", 15, 0, false, 1);
    }

    private static void walks(Due due) {
        due.says(0, "walks and a NUMBER (0 to 15), ");
        part(due, "looker", "walks", 15, 1, false, 2);
        part(due, "thief at 15", "walks", 15, 1, false, 2);
    }

    private static void likes(Due due) {
        due.says(0, "perhaps likes and four NUMBERS (0 to 9 each): a new one; ");
        int[][] rows = {{0, 0, 0, 0}, {9, 9, 9, 9}, {0, 1, 8, 9}, {9, 8, 1, 0}};
        for (int[] row : rows) {
            EnvyRust x = new EnvyRust();
            reads(due, x, "looker likes " + row[0] + " " + row[1] + " " + row[2] + " " + row[3], 1);
            for (int sort = 0; sort <= 3; sort++) {
                due.is("how it likes sort " + sort, x.of(0, 3 + sort), row[sort]);
            }
        }
        for (int sort = 0; sort <= 3; sort++) {
            EnvyRust x = new EnvyRust();
            reads(due, x, "looker", 1);
            due.is("without, sort " + sort, x.of(0, 3 + sort), 1);
            String ahead = "looker likes " + "1 ".repeat(sort);
            fault(due, ahead + "10 " + "1 ".repeat(3 - sort), ahead.length());
            fault(due, ahead, ahead.length());
            fault(due, ahead + ";", ahead.length());
            fault(due, ahead + "at 1", ahead.length());
        }
        fault(due, "looker likes 1 1 1 1 1", 21);
        reads(due, "looker at 0 walks 0 likes 0 0 0 0", 1);
    }

    private static void sorts(Due due) {
        due.says(0, "thing, a NUMBER (a SORT), ");
        for (int sort = 0; sort <= 3; sort++) {
            EnvyRust x = new EnvyRust();
            reads(due, x, "thing " + sort, 1);
            due.is("the sort", x.thingOf(0, 0), sort);
        }
        fault(due, "thing 4", 6);
        fault(due, "thing", 5);
        fault(due, "thing ;", 6);
        fault(due, "thing at 3", 6);
        fault(due, "thing thing", 6);
        fault(due, "things 0", 0);
        fault(due, "thin 0", 0);
    }

    private static void atOfThings(Due due) {
        due.says(0, "perhaps at and a NUMBER (a PLACE), ");
        part(due, "thing 3", "at", 15, 0, true, 1);
    }

    private static void thick(Due due) {
        due.says(0, "perhaps thick and a NUMBER (0 to 999), ");
        part(due, "thing 3", "thick", 999, 100, true, 2);
        part(due, "thing 3 at 4", "thick", 999, 100, true, 2);
    }

    private static void paint(Due due) {
        due.says(0, "perhaps paint and a NUMBER (0 to 9), ");
        part(due, "thing 3", "paint", 9, 0, true, 3);
        part(due, "thing 3 thick 4", "paint", 9, 0, true, 3);
    }

    private static void owner(Due due) {
        due.says(0, "perhaps of and a NUMBER (one that is there, OWNER), ");
        fault(due, "thing 0 of 0", 11);
        fault(due, "thing 0 of 0; looker", 11);
        reads(due, "looker; thing 0 of 0", 2);
        fault(due, "looker; thing 0 of 1", 19);
        reads(due, "looker; child; thing 0 of 1", 3);
        fault(due, "looker; child; thing 0 of 2", 26);
        EnvyRust x = Due.town("looker; child; rival");
        reads(due, x, "thing 0 of 0; thing 0 of 2; thing 0; thief; thing 0 of 3", 5);
        int[] owners = {0, 2, -1, 3};
        for (int thing = 0; thing < 4; thing++) {
            due.is("the owner of " + thing, x.thingOf(thing, 4), owners[thing]);
        }
        fault(due, x, "thing 0 of 4", 11);
        EnvyRust y = Due.town(EIGHT_PEOPLE);
        reads(due, y, "thing 0 of 7", 1);
        fault(due, y, "thing 0 of 8", 11);
    }

    private static void hangs(Due due) {
        due.says(0, "perhaps on and a NUMBER (a THING that is there already): a new THING.");
        fault(due, "thing 0 on 0", 11);
        reads(due, "thing 0; thing 0 on 0", 2);
        fault(due, "thing 0; thing 0 on 1", 20);
        fault(due, "thing 0; thing 0 on 2", 20);
        EnvyRust x = Due.town("thing 0; thing 0 thick 0");
        reads(due, x, "thing 0 on 1; thing 0; thing 0 on 3; thing 0 on 0; looker; thing 0 of 0 on 5", 6);
        int[] hangers = {-1, -1, 1, -1, 3, 0, 5};
        for (int thing = 0; thing < 7; thing++) {
            due.is("what " + thing + " hangs on", x.thingOf(thing, 5), hangers[thing]);
        }
        fault(due, x, "thing 0 on 7", 11);
        reads(due, x, "thing 0 on 6", 1);
        EnvyRust y = new EnvyRust();
        reads(due, y, "thing0;thing0on0;thing0on1;thing0on2;thing0on3;thing0on4;thing0on5;thing0on6", 8);
        due.is("seven up from the last", y.depth(7), 7);
    }

    private static void orderOfParts(Due due) {
        due.says(39, "THE TAPE is a TEXT, and empty then; ");
        String[] ofOne = {"at 3", "walks 3", "likes 3 3 3 3"};
        for (int a = 0; a < 3; a++) {
            for (int b = 0; b < 3; b++) {
                String text = "looker " + ofOne[a] + " " + ofOne[b];
                if (a < b) {
                    reads(due, text, 1);
                } else {
                    fault(due, text, 8 + ofOne[a].length());
                }
            }
        }
        String[] ofThing = {"at 3", "thick 3", "paint 3", "of 0", "on 0"};
        for (int a = 0; a < 5; a++) {
            for (int b = 0; b < 5; b++) {
                String text = "looker;thing 0;thing 0 " + ofThing[a] + " " + ofThing[b];
                if (a < b) {
                    reads(due, text, 3);
                } else {
                    fault(due, text, 24 + ofThing[a].length());
                }
            }
        }
        EnvyRust x = new EnvyRust();
        Due.feed(x, "looker");
        due.is("text()", x.text(), 1);
        due.is("the tape is empty", x.count(5), 0);
        due.is("and no text any more", x.text(), -1);
        due.is("it takes 120 bytes again", Due.read(x, padded("looker", 120)), 1);
    }

    private static void faultPlace(Due due) {
        due.says(0, "FAULT: the place (from 0) of the first byte of the first TOKEN that can't stand there ");
        fault(due, "x", 0);
        fault(due, " x", 1);
        fault(due, "looker x", 7);
        fault(due, "looker   xyz", 9);
        fault(due, "looker;thing 0 thick 5 walks 2", 23);
        fault(due, "looker at 99 walks 99", 10);
        fault(due, "thing 9; thing 9", 6);
        fault(due, padded("looker", 118) + "xx", 118);
        fault(due, padded("looker", 119) + "x", 119);
        EnvyRust x = new EnvyRust();
        Due.feed(x, padded("looker", 119) + "x");
        due.is("of the last byte", x.text(), -120);
        Due.feed(x, " ".repeat(120));
        due.is("behind the last byte", x.text(), -121);
        Due.feed(x, "x");
        due.is("of the first byte", x.text(), -1);
    }

    private static void faultsTold(Due due) {
        due.says(0, "(a NUMBER that isn't as told, another WORD, a byte that begins no TOKEN, the WORD of a 9th one or THING: its own), ");
        fault(due, "looker at 16", 10);
        fault(due, "looker walks 16", 13);
        fault(due, "looker likes 1 10 1 1", 15);
        fault(due, "thing 4 at 3", 6);
        fault(due, "thing 0 at 16 thick 3", 11);
        fault(due, "thing 0 thick 1000 paint 3", 14);
        fault(due, "thing 0 paint 10", 14);
        fault(due, "thing 0 of 5", 11);
        fault(due, "thing 0 on 5", 11);
        fault(due, "lookers", 0);
        fault(due, "looker thick 3", 7);
        fault(due, "thing 0 likes 3", 8);
        fault(due, "looker; at 3", 8);
        fault(due, "looker at\u00ff3", 9);
        fault(due, "looker at 3\u0001", 11);
        fault(due, "\u0080", 0);
        EnvyRust x = Due.town("child;child;child;child;child;child;child", "thing0;thing0;thing0;thing0;thing0;thing0;thing0");
        fault(due, x, "looker; child at 3", 8);
        fault(due, x, "thing 0; thing 9", 9);
        fault(due, x, "looker; thing 1; thing 2; child", 17);
        fault(due, x, "thing 1; looker; beggar; thing 1", 17);
        reads(due, x, " looker", 1);
        fault(due, x, "  looker", 2);
        fault(due, x, "thing 0; rival at 99", 9);
        reads(due, x, "thing 0", 1);
        fault(due, x, "thing 0", 0);
        fault(due, x, " thing", 1);
        fault(due, EIGHT_PEOPLE + ";modest", 48);
        fault(due, EIGHT_THINGS + ";thing 0", 56);
        fault(due, EIGHT_THINGS + ";" + EIGHT_PEOPLE + ";thing 0", 104);
    }

    private static void endsTooEarly(Due due) {
        due.says(0, "or how many bytes there are if it ends too early.");
        String[] early = {"", " ", "   ", "looker;", "looker; ", "looker at", "looker at ", "looker walks", "looker at 3 walks", "looker likes", "looker likes 1",
            "looker likes 1 2", "looker likes 1 2 3", "looker likes 1 2 3    ", "thing", "thing   ", "thing 0 at", "thing 0 thick", "thing 0 paint", "looker;thing 0 of",
            "thing 0;thing 0 on", "thing 0;"};
        for (String text : early) {
            fault(due, text, text.length());
        }
        fault(due, padded("looker at", 119), 119);
        fault(due, padded("looker at", 120), 120);
        // Just not too early.
        reads(due, "looker at 3", 1);
        reads(due, "looker likes 1 2 3 4", 1);
        reads(due, "thing 0 at 3", 1);
        // A word that is cut short ends nothing too early: it is another word.
        fault(due, "looke", 0);
        fault(due, "looker a", 7);
    }

    private static void feed(Due due) {
        due.says(37, "THE TAPE gets the n lowest bytes of a number behind it, the highest of these first (n 1 to 4): how many it has.");
        int[] bytes = {'?' << 24 | '?' << 16 | '?' << 8 | 'c', '?' << 24 | '?' << 16 | 'c' << 8 | 'h', '?' << 24 | 'c' << 16 | 'h' << 8 | 'i', 'c' << 24 | 'h' << 16 | 'i' << 8 | 'l'};
        String[] rest = {"hild", "ild", "ld", "d"};
        for (int n = 1; n <= 4; n++) {
            EnvyRust x = new EnvyRust();
            due.is("feed of " + n, x.feed(bytes[n - 1], n), n);
            due.is("count(5)", x.count(5), n);
            Due.feed(x, rest[n - 1]);
            due.is("text()", x.text(), 1);
        }
        EnvyRust y = new EnvyRust();
        for (int i = 1; i <= 120; i++) {
            due.is("byte " + i, y.feed(-1, 1), i);
        }
        EnvyRust z = new EnvyRust();
        Due.feed(z, "looker");
        due.is("a byte above 127", z.feed(0xe9, 1), 7);
        due.is("is one, and begins no token", z.text(), -7);
        due.says(37, "BEYOND: n.");
        EnvyRust x = new EnvyRust();
        due.outside(x, "feed", 1, 4, n -> x.feed('a', n));
        due.says(37, "FULL.");
        for (int n = 1; n <= 4; n++) {
            EnvyRust full = new EnvyRust();
            Due.feed(full, padded("looker", 120 - n));
            int more = n;
            for (int over = n + 1; over <= 4; over++) {
                int tooMany = over;
                due.refuses(full, Due.FULL, over + " more, but " + n, () -> full.feed(0x20202020, tooMany));
            }
            due.is("just as many", full.feed(0x20202020, more), 120);
            due.refuses(full, Due.FULL, "one more", () -> full.feed(0x20202020, 1));
            due.is("what was refused is nowhere", full.text(), 1);
        }
    }

    private static void wipe(Due due) {
        due.says(38, "THE TAPE is empty: how many it had.");
        EnvyRust x = new EnvyRust();
        due.is("of none", x.wipe(), 0);
        Due.feed(x, "x");
        due.is("of one", x.wipe(), 1);
        due.is("of none again", x.wipe(), 0);
        Due.feed(x, "x".repeat(119));
        due.is("of 119", x.wipe(), 119);
        Due.feed(x, "x".repeat(120));
        due.is("of 120", x.wipe(), 120);
        due.is("count(5)", x.count(5), 0);
        Due.feed(x, "looker");
        due.is("nothing is left of what was there", x.text(), 1);
        due.is("nor ahead of it", x.count(2), 1);
    }

    private static void text(Due due) {
        due.says(39, "all that it tells is so, item by item: how many ITEMS.");
        EnvyRust x = new EnvyRust();
        reads(due, x, "rival at 15 walks 15 likes 9 0 9 0;thing 3 at 15 thick 999 paint 9 of 0;thing 0 at 0 thick 0 paint 0 of 0 on 0", 3);
        int[] one = {2, 15, 15, 9, 0, 9, 0, 3};
        for (int what = 0; what <= 7; what++) {
            due.is("of(0, " + what + ")", x.of(0, what), one[what]);
        }
        int[][] things = {{3, 15, 999, 9, 0, -1}, {0, 0, 0, 0, 0, 0}};
        for (int what = 0; what <= 5; what++) {
            due.is("thingOf(0, " + what + ")", x.thingOf(0, what), things[0][what]);
            due.is("thingOf(1, " + what + ")", x.thingOf(1, what), things[1][what]);
        }
        EnvyRust y = new EnvyRust();
        reads(due, y, EIGHT_PEOPLE, 8);
        reads(due, y, EIGHT_THINGS, 8);
        due.is("things", y.count(1), 8);
        due.is("people", y.count(2), 8);
        due.is("sort of the last", y.thingOf(7, 0), 3);
        due.is("kind of the last", y.of(7, 0), 5);
    }

    private static void faultAnswer(Due due) {
        due.says(39, "With a FAULT: -1 less the FAULT (nothing changes but that THE TAPE is empty; no finding).");
        EnvyRust x = Due.town("looker at 4 walks 0 likes 5 5 5 5; thing 0 at 3 thick 60; thing 0 at 4 thick 50");
        String text = "child at 3 walks 0 likes 9 9 9 9; rival at 4 likes 9 9 9 9; thing 1 at 4 thick 500 paint 2 of 0 on 0; thing 0 at 4?";
        fault(due, x, text, text.length() - 1);
        due.is("nobody of it is there", x.now(4), 2);
        due.is("nobody of it wears", x.now(3), 5);
        due.is("nothing of it is owned", x.of(0, 7), 0);
        due.is("nothing of it hangs", x.fallsWith(0), 1);
        due.is("nothing of it is worth anything", x.worth(0, 3), 10);
        due.is("nothing of it is envied", x.envious(), 0);
        due.is("go(1)", x.go(1), 0);
        due.is("nobody of it wore", x.thingOf(0, 2), 60);
        due.is("the one that is there wore", x.thingOf(1, 2), 45);
        due.is("one more", x.person(0, 0), 1);
        due.is("one more", x.thing(0, 0), 2);
        int[] newOne = {0, 0, 1, 1, 1, 1, 1, 0};
        int[] newThing = {0, 0, 100, 0, -1, -1, 0};
        for (int what = 0; what <= 7; what++) {
            due.is("one more is as new: of(1, " + what + ")", x.of(1, what), newOne[what]);
        }
        x.change(1, 1, 1);
        for (int what = 0; what <= 6; what++) {
            due.is("one more is as new: thingOf(2, " + what + ")", x.thingOf(2, what), newThing[what]);
        }
        fault(due, x, "", 0);
        fault(due, x, "x", 0);
        fault(due, x, " x", 1);
        EnvyRust y = new EnvyRust();
        Due.feed(y, " ".repeat(120));
        due.is("no fault is a finding", y.text(), -121);
        due.is("status(-1)", y.status(-1), 0);
        due.is("the tape is empty", y.count(5), 0);
    }
}

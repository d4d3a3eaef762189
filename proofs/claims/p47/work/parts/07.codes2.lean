theorem mCk_all (i : Nat) (h : i < 256) : mCk i = true := sorry

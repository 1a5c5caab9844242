/** Promises 15 and 16, and of promise 7 WHICH KINDS and BEGIN: what is HEARD. */
public final class HeardTest {
    private static final Check check = new Check();

    public static void main(String[] args) {
        refusals();
        hearsUntilFull();
        whichKinds();
        kindsByWhatHeWantsNow();
        kindsAsIfNothingWereUsed();
        tellingOpenings();
        check.finish("HeardTest");
    }

    private static void refusals() {
        EndedByOthers x = Check.inRoom("a,b,c,d;sa,sb,hf");
        x.hear(0, 0, 0);
        long before = x.digest();
        int[] nothing = {-1, Integer.MIN_VALUE, Integer.MAX_VALUE, 100};
        for (int number : nothing) {
            check.due("hear(" + number + ", 0, 0)", EndedByOthers.UNKNOWN, x.hear(number, 0, 0));
            check.due("hear(0, " + number + ", 0)", EndedByOthers.UNKNOWN, x.hear(0, number, 0));
        }
        check.due("hear(3, 0, 0)", EndedByOthers.UNKNOWN, x.hear(3, 0, 0));
        check.due("hear(0, 4, 0)", EndedByOthers.UNKNOWN, x.hear(0, 4, 0));
        check.due("hear(3, 4, 6)", EndedByOthers.UNKNOWN, x.hear(3, 4, 6));
        check.due("hear(0, 0, 6)", EndedByOthers.OUTSIDE, x.hear(0, 0, 6));
        check.due("hear(0, 0, -2)", EndedByOthers.OUTSIDE, x.hear(0, 0, -2));
        check.due("hear(0, 0, MIN)", EndedByOthers.OUTSIDE, x.hear(0, 0, Integer.MIN_VALUE));
        check.due("hear(0, 0, MAX)", EndedByOthers.OUTSIDE, x.hear(0, 0, Integer.MAX_VALUE));
        check.due("digest() behind the refusals", before, x.digest());
    }

    private static void hearsUntilFull() {
        EndedByOthers x = Check.inRoom("a,b,c,d;sa,sb,hf");
        for (int i = 1; i <= 8; i++) {
            check.due("hear " + i, i, x.hear(i % 3, i % 4, i % 7 - 1));
        }
        long before = x.digest();
        check.due("hear 9", EndedByOthers.FULL, x.hear(0, 0, 0));
        check.due("hear 9, no ENDING", EndedByOthers.OUTSIDE, x.hear(0, 0, 6));
        check.due("hear 9, none", EndedByOthers.UNKNOWN, x.hear(3, 0, 6));
        check.due("digest() behind the refusals", before, x.digest());
        check.due("count(6)", 8, x.count(6));
        check.due("forget()", 8, x.forget());
        check.due("forget() again", 0, x.forget());
        check.due("count(6) then", 0, x.count(6));
        check.due("KINDS then", 31, x.about(0, 7));
        check.due("hear then", 1, x.hear(0, 0, 5));
        check.due("forget() one", 1, x.forget());
    }

    private static void kindsBehind(EndedByOthers x, int speaker, int opening, int ending, int due) {
        x.forget();
        x.hear(speaker, opening, ending);
        check.due("KINDS of " + speaker + " by " + opening + ", " + ending, due, x.about(speaker, 7));
    }

    /** 0 wants d: of OPENING 0 he is told by a (least), d (wanted), e (greatest); OPENING 1 has no d. */
    private static void whichKinds() {
        EndedByOthers x = Check.inRoom("ade,ac,d,f;pd,sb");
        kindsBehind(x, 0, 0, 0, 0);
        kindsBehind(x, 0, 0, 3, 7);
        kindsBehind(x, 0, 0, 4, 24);
        kindsBehind(x, 0, 0, -1, 0);
        kindsBehind(x, 0, 1, 0, 1);
        kindsBehind(x, 0, 1, 2, 24);
        kindsBehind(x, 0, 1, 3, 4);
        kindsBehind(x, 0, 1, -1, 2);
        kindsBehind(x, 0, 2, 3, 31);
        kindsBehind(x, 0, 3, 5, 25);
        check.due("KINDS of another", 31, x.about(1, 7));
        x.hear(0, 1, 0);
        check.due("KINDS by both", 1, x.about(0, 7));
        x.hear(1, 1, 1);
        check.due("KINDS of 0 still", 1, x.about(0, 7));
        check.due("KINDS of 1", 4, x.about(1, 7));
        x.hear(0, 2, 0);
        check.due("KINDS of 0, none", 0, x.about(0, 7));
        check.due("BEGIN for 0, none", EndedByOthers.NONE, x.about(0, 8));
        check.due("KINDS of 1 still", 4, x.about(1, 7));
    }

    private static void kindsByWhatHeWantsNow() {
        EndedByOthers x = Check.inRoom("ade,ac,d,f;sd,sb");
        x.hear(0, 0, 3);
        check.due("KINDS when he wants d", 7, x.about(0, 7));
        x.want(0, 0);
        check.due("KINDS when he wants a", 0, x.about(0, 7));
        x.want(0, 4);
        check.due("KINDS when he wants e", 0, x.about(0, 7));
        x.want(0, 3);
        check.due("KINDS when he wants d again", 7, x.about(0, 7));
    }

    private static void kindsAsIfNothingWereUsed() {
        EndedByOthers x = Check.inRoom("ab,ab,ab,ab;sa,pf");
        x.begin(0, 0);
        check.due("end(0, 1)", 1, x.end(0, 1));
        x.hear(1, 0, 1);
        check.due("KINDS by b", 24, x.about(1, 7));
        x.hear(1, 0, 0);
        check.due("KINDS by b and a", 0, x.about(1, 7));
        x.forget();
        check.due("BEGIN, as if nothing were used", 0, x.about(1, 8));
    }

    private static void beginIs(String room, int speaker, int due) {
        check.due("BEGIN for " + speaker + " in " + room, due, Check.inRoom(room).about(speaker, 8));
    }

    /** While nothing is heard: how many of the five end an OPENING alike, at worst. */
    private static void tellingOpenings() {
        // All five by a; in pairs at worst (a: one, none: one, f: one, b: two); three by b; the same.
        beginIs("a,ab,a,a;sa,sf", 1, 1);
        beginIs("f,af,ab,bc;sa,sf", 1, 2);
        beginIs("f,af,f,abc;sa,sf", 1, 3);
        beginIs("f,f,f,f;sa,sf", 1, 0);
        beginIs("af,ef,f,af;sa,sf", 1, 0);
        beginIs("a,b,c,d;sa,sf", 1, 0);
        beginIs("f,b,c,d;sa,sf", 1, 1);
        // Wanted a: s, h, t by a, c and p by the greatest: three at worst; where a does not fit, two at worst.
        beginIs("a,ab,ac,bc;sa,sf", 0, 3);
        EndedByOthers x = Check.inRoom("bf,b,af,ab;sa,sf");
        x.hear(1, 0, 5);
        check.due("KINDS that end bf by f", 31, x.about(1, 7));
        x.forget();
        x.hear(1, 1, 1);
        check.due("KINDS that end b by b", 25, x.about(1, 7));
        // Left are s, c, p: bf ends all alike by f; b all by b; af all by f; ab: s by a, c and p by b.
        check.due("BEGIN when these are left", 3, x.about(1, 8));
        x.forget();
        x.hear(1, 1, -1);
        check.due("the shy one is left", 2, x.about(1, 7));
        // He is left whether he ends it or leaves it open: all are alike.
        check.due("BEGIN for the shy one", 0, x.about(1, 8));
        x.forget();
        x.hear(1, 1, 5);
        check.due("the tyrant is left", 4, x.about(1, 7));
        check.due("BEGIN for the tyrant", 0, x.about(1, 8));
        x.forget();
        x.hear(1, 2, 5);
        check.due("all are left", 31, x.about(1, 7));
        check.due("BEGIN for all", 1 + 2, x.about(1, 8));
        // That the shy one leaves it open tells him from the others.
        EndedByOthers y = Check.inRoom("f,abf,abc,b;sa,sf");
        check.due("BEGIN", 2, y.about(1, 8));
        y.want(1, 2);
        check.due("BEGIN when he wants c", 1, y.about(1, 8));
    }
}

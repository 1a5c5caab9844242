/** Promise 14: MATCH. */
public final class MatchTest {
    private static final Check check = new Check();

    public static void main(String[] args) {
        refusals();
        none();
        mostByGivingWay();
        firstByNumbers();
        eachSentenceOnce();
        asHeWouldNow();
        check.finish("MatchTest");
    }

    private static void matchIs(EndedByOthers x, String name, int... due) {
        check.due(name + ": match(0)", due[0], x.match(0));
        for (int speaker = 0; speaker < 4; speaker++) {
            check.due(name + ": match(1" + speaker + ")", due[1 + speaker], x.match(10 + speaker));
        }
    }

    private static void refusals() {
        EndedByOthers none = new EndedByOthers();
        EndedByOthers x = Check.inRoom("a,b,c,d;sa,sb");
        int[] outside = {-1, 1, 2, 9, 14, 15, 100, Integer.MIN_VALUE, Integer.MAX_VALUE};
        for (int what : outside) {
            check.due("match(" + what + ") in no room", EndedByOthers.OUTSIDE, none.match(what));
            check.due("match(" + what + ")", EndedByOthers.OUTSIDE, x.match(what));
        }
        check.due("match(0) in no room", EndedByOthers.STATE, none.match(0));
        check.due("match(10) in no room", EndedByOthers.STATE, none.match(10));
        check.due("match(13) in no room", EndedByOthers.STATE, none.match(13));
    }

    private static void none() {
        EndedByOthers x = Check.inRoom("a,b,c,d;sa,sb");
        matchIs(x, "nothing open", 0, -1, -1, -1, -1);
        x.begin(0, 1);
        matchIs(x, "not as wanted", 0, -1, -1, -1, -1);
        EndedByOthers own = Check.inRoom("a,b,c,d;sa,hf");
        own.begin(0, 0);
        matchIs(own, "not his own, and the shy one leaves it", 0, -1, -1, -1, -1);
    }

    /** Of two only one can please 1, and he could please 0 as well: most are pleased if he ends that of 1. */
    private static void mostByGivingWay() {
        EndedByOthers x = Check.inRoom("a,b,ac,d;sa,tb,tb,ta");
        x.begin(0, 0);
        x.begin(1, 1);
        // 0 ends b by b, and 2 ends all by b: both please 1; only 3 pleases 0.
        matchIs(x, "two", 2, -1, -1, 1, 0);
        x.begin(2, 1);
        // Now 0 or 1 may please 2, and 0 or 2 may please 1.
        matchIs(x, "three", 3, -1, 2, 1, 0);
        x.begin(3, 0);
        matchIs(x, "four", 4, 3, 2, 1, 0);
        long before = x.digest();
        check.due("match() changes nothing", before, x.digest());
        check.due("count(2)", 4, x.count(2));
        EndedByOthers y = Check.inRoom("b,b,b,b;sb,sb,ta,hb");
        y.begin(3, 0);
        y.begin(0, 0);
        // 0 can only please 3; 1 and 3 can please both or one: 0 gives way.
        matchIs(y, "0 stays none", 2, -1, 0, -1, 1);
        y.begin(1, 0);
        matchIs(y, "all three", 3, 0, 1, -1, 2);
    }

    private static void firstByNumbers() {
        EndedByOthers x = Check.inRoom("a,a,a,a;sa,sa,sa");
        x.begin(2, 0);
        matchIs(x, "none ahead of all", 1, -1, 0, -1, -1);
        x.begin(1, 0);
        // 0 may end either, then 1 ends 0 or none, 2 ends 1 or none: none for 0 is possible.
        matchIs(x, "none for 0", 2, -1, 0, 1, -1);
        x.begin(0, 0);
        matchIs(x, "all", 3, 0, 2, 1, -1);
    }

    private static void eachSentenceOnce() {
        EndedByOthers x = Check.inRoom("a,a,a,a;ta,ta,ta,ta");
        x.begin(0, 0);
        matchIs(x, "one open", 1, -1, -1, -1, 0);
        x.begin(1, 0);
        matchIs(x, "two open", 2, -1, -1, 0, 1);
        x.begin(2, 0);
        matchIs(x, "three open", 3, -1, 0, 1, 2);
        x.begin(3, 0);
        matchIs(x, "four open", 4, 1, 0, 3, 2);
        x.end(0, 3);
        matchIs(x, "one ended", 3, -1, 2, 3, 1);
    }

    private static void asHeWouldNow() {
        EndedByOthers x = Check.inRoom("ab,c,d,e;sa,pf,tb");
        x.begin(0, 0);
        matchIs(x, "a fresh poet", 0, -1, -1, -1, -1);
        x.begin(2, 0);
        x.end(1, 1);
        matchIs(x, "when b is used", 1, -1, 0, -1, -1);
        x.want(0, 1);
        matchIs(x, "when he wants b", 1, -1, -1, 0, -1);
        x.want(2, 5);
        matchIs(x, "when none would", 0, -1, -1, -1, -1);
    }
}

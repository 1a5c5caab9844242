/** Promise 17: TALKS. The numbers due were reckoned apart, by another program. */
public final class TalksTest {
    private static final Check check = new Check();

    public static void main(String[] args) {
        refusals();
        poets();
        plainOnes();
        allKinds();
        fromWhatIsUsedAndWantedNow();
        check.finish("TalksTest");
    }

    private static void talksAre(EndedByOthers x, int times, int seed, int... due) {
        for (int what = 0; what < 3; what++) {
            check.due("talks(" + times + ", " + seed + ", " + what + ")", due[what], x.talks(times, seed, what));
        }
    }

    private static void refusals() {
        EndedByOthers none = new EndedByOthers();
        EndedByOthers x = Check.inRoom("a,b,c,d;sa,sb");
        int[] outside = {0, -1, 61, Integer.MIN_VALUE, Integer.MAX_VALUE};
        for (int times : outside) {
            check.due("talks(" + times + ", 1, 0)", EndedByOthers.OUTSIDE, x.talks(times, 1, 0));
            check.due("talks(" + times + ", 1, 0) in no room", EndedByOthers.OUTSIDE, none.talks(times, 1, 0));
        }
        check.due("talks(1, -1, 0)", EndedByOthers.OUTSIDE, x.talks(1, -1, 0));
        check.due("talks(1, MIN, 0)", EndedByOthers.OUTSIDE, x.talks(1, Integer.MIN_VALUE, 0));
        check.due("talks(1, 1, -1)", EndedByOthers.OUTSIDE, x.talks(1, 1, -1));
        check.due("talks(1, 1, 3)", EndedByOthers.OUTSIDE, x.talks(1, 1, 3));
        check.due("talks(1, 1, 3) in no room", EndedByOthers.OUTSIDE, none.talks(1, 1, 3));
        check.due("talks(1, 1, 2) in no room", EndedByOthers.STATE, none.talks(1, 1, 2));
        check.due("talks(60, MAX, 2) in no room", EndedByOthers.STATE, none.talks(60, Integer.MAX_VALUE, 2));
    }

    /** A POET uses up his ENDINGS as the TALKS go on. */
    private static void poets() {
        EndedByOthers x = Check.inRoom("abc,abc,abc,abc;pa,pb");
        long before = x.digest();
        talksAre(x, 1, 1, 1, 0, 662824084);
        talksAre(x, 1, 0, 0, 0, 654583775);
        talksAre(x, 2, 1, 1, 0, 368800899);
        talksAre(x, 5, 7, 3, 1, 49126646);
        talksAre(x, 60, 2147483647, 27, 2, 17220203);
        talksAre(x, 60, 0, 26, 2, 1458640444);
        talksAre(x, 10, 100, 7, 2, 934531926);
        check.due("digest() behind talks()", before, x.digest());
    }

    private static void plainOnes() {
        EndedByOthers x = Check.inRoom("a,b,cd,ef;sa,sb");
        talksAre(x, 1, 1, 1, 0, 662824084);
        talksAre(x, 5, 7, 3, 0, 49126646);
        talksAre(x, 60, 2147483647, 27, 7, 17220203);
        talksAre(x, 60, 0, 26, 6, 1458640444);
        talksAre(x, 10, 100, 7, 1, 934531926);
    }

    private static void allKinds() {
        EndedByOthers x = Check.inRoom("ab,cd,ef,abc;sa,hb,tc,pa");
        talksAre(x, 1, 1, 0, 0, 662824084);
        talksAre(x, 5, 7, 2, 0, 49126646);
        talksAre(x, 60, 2147483647, 35, 4, 17220203);
        talksAre(x, 60, 0, 38, 5, 1458640444);
        talksAre(x, 10, 100, 6, 0, 934531926);
    }

    /** talks(5, 7) ends three by SPEAKER 1: c, b, a while he is fresh. */
    private static void fromWhatIsUsedAndWantedNow() {
        EndedByOthers x = Check.inRoom("abc,abc,abc,abc;pa,pb");
        x.want(0, 2);
        talksAre(x, 5, 7, 3, 1, 49126646);
        x.begin(0, 0);
        x.end(0, 1);
        talksAre(x, 5, 7, 3, 1, 49126646);
        x.want(0, 1);
        talksAre(x, 5, 7, 3, 1, 49126646);
        x.begin(0, 0);
        check.due("end(1, 1)", 1, x.end(1, 1));
        // Now it is a, c, c.
        talksAre(x, 5, 7, 3, 0, 49126646);
        x.want(0, 2);
        talksAre(x, 5, 7, 3, 2, 49126646);
        check.due("count(2)", 0, x.count(2));
    }
}

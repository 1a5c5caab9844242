/** Promises 20 and 21: count() and digest(). */
public final class CountTest {
    private static final Check check = new Check();

    public static void main(String[] args) {
        outside();
        counts();
        digestOfNothing();
        digests();
        check.finish("CountTest");
    }

    private static void outside() {
        int[] outside = {-1, 9, 10, 100, Integer.MIN_VALUE, Integer.MAX_VALUE};
        EndedByOthers none = new EndedByOthers();
        EndedByOthers x = Check.inRoom("a,b,c,d;sa,sb");
        for (int what : outside) {
            check.due("count(" + what + ")", EndedByOthers.OUTSIDE, x.count(what));
            check.due("count(" + what + ") in no room", EndedByOthers.OUTSIDE, none.count(what));
        }
    }

    private static void countIs(EndedByOthers x, String when, int... due) {
        for (int what = 0; what < 9; what++) {
            check.due(when + ": count(" + what + ")", due[what], x.count(what));
        }
    }

    private static void counts() {
        EndedByOthers x = Check.inRoom("ab,bc,cd,de;sa,sb,tc");
        countIs(x, "at first", 3, 0, 0, 0, 0, 0, 0, 0, 1);
        x.begin(0, 0);
        x.begin(1, 1);
        x.begin(2, 2);
        x.letter('q');
        x.hear(0, 0, 1);
        x.hear(0, 0, 1);
        countIs(x, "three open", 3, 3, 3, 0, 0, 0, 2, 1, 1);
        x.end(0, 1);
        x.end(1, 0);
        countIs(x, "two ended alike", 3, 3, 1, 1, 1, 0, 2, 1, 1);
        x.end(2, 0);
        countIs(x, "three ended", 3, 3, 0, 2, 2, 0, 2, 1, 1);
        x.want(0, 1);
        x.want(0, 6);
        countIs(x, "a wants b", 3, 3, 0, 3, 2, 1, 2, 1, 1);
        x.begin(0, 3);
        x.want(2, 0);
        x.end(3, 2);
        countIs(x, "a tyrant's", 3, 4, 0, 2, 3, 2, 2, 1, 1);
        x.blank();
        Check.type(x, "a,b,c,d;sa,sb");
        countIs(x, "typed", 3, 4, 0, 2, 3, 2, 2, 13, 1);
        x.room();
        countIs(x, "another room", 2, 0, 0, 0, 0, 0, 0, 0, 2);
    }

    /** 31 to the 9 is 26439622160671; the counts of a new object are all 0. */
    private static void digestOfNothing() {
        check.due("digest() of nothing", 1021L * 26439622160671L, new EndedByOthers().digest());
        long due = 1021L * 31 + 'a';
        for (int what = 0; what < 9; what++) {
            due = due * 31 + (what == 7 ? 1 : 0);
        }
        check.due("digest() of one letter", due, Check.typed("a").digest());
    }

    /** All that the digest tells of a small room, written out. */
    private static void digests() {
        EndedByOthers x = Check.inRoom("a,b,ab,c;sa,pb");
        x.begin(0, 2);
        x.begin(1, 0);
        x.end(0, 1);
        x.want(0, 1);
        x.hear(0, 2, 0);
        x.letter('~');
        long[] due = {
            1, 2, 3, 4,
            0, 1, 0, -1, 1, 0, 1, 0, -1, 0, 1, 1, 2,
            4, 1, 2, 1, 1, 1, 1, 31, 0, 0, 1, 0, 2,
            0, 2, 1, 1, 1,
            1, 0, -1, -1, 0,
            0, -1, -1, -1, -1,
            '~',
            2, 2, 1, 1, 1, 1, 1, 1, 1,
        };
        long hash = 1021;
        for (long number : due) {
            hash = 31 * hash + number;
        }
        check.due("digest() written out", hash, x.digest());
        check.due("digest() again", hash, x.digest());
    }
}

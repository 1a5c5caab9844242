/** Promises 11 to 13: SENTENCES. */
public final class SentencesTest {
    private static final Check check = new Check();
    private static final int[] NOTHING = {-1, Integer.MIN_VALUE, Integer.MAX_VALUE, 100};

    public static void main(String[] args) {
        begins();
        beginsUntilFull();
        ends();
        tells();
        check.finish("SentencesTest");
    }

    private static void begins() {
        EndedByOthers x = Check.inRoom("a,b,c,d;sa,sb,hf");
        check.due("begin(1, 2)", 0, x.begin(1, 2));
        long before = x.digest();
        for (int number : NOTHING) {
            check.due("begin(" + number + ", 0)", EndedByOthers.UNKNOWN, x.begin(number, 0));
            check.due("begin(0, " + number + ")", EndedByOthers.UNKNOWN, x.begin(0, number));
        }
        check.due("begin(3, 0)", EndedByOthers.UNKNOWN, x.begin(3, 0));
        check.due("begin(0, 4)", EndedByOthers.UNKNOWN, x.begin(0, 4));
        check.due("begin(1, 4), one of his open", EndedByOthers.UNKNOWN, x.begin(1, 4));
        check.due("begin(1, 2), one of his open", EndedByOthers.STATE, x.begin(1, 2));
        check.due("begin(1, 0), one of his open", EndedByOthers.STATE, x.begin(1, 0));
        check.due("digest() behind the refusals", before, x.digest());
        check.due("begin(0, 0)", 1, x.begin(0, 0));
        check.due("end(0, 2), left open", EndedByOthers.NONE, x.end(0, 2));
        check.due("begin(1, 0), still open", EndedByOthers.STATE, x.begin(1, 0));
        check.due("end(0, 0)", 2, x.end(0, 0));
        check.due("begin(1, 0), none open", 2, x.begin(1, 0));
    }

    private static void beginsUntilFull() {
        EndedByOthers x = Check.inRoom("a,b,c,d;sa,sb");
        for (int sentence = 0; sentence < 7; sentence++) {
            check.due("begin " + sentence, sentence, x.begin(0, sentence % 4));
            check.due("end " + sentence, sentence % 4, x.end(sentence, 1));
        }
        check.due("begin 7", 7, x.begin(1, 3));
        long before = x.digest();
        check.due("begin 8", EndedByOthers.FULL, x.begin(0, 0));
        check.due("begin 8, one of his open", EndedByOthers.STATE, x.begin(1, 0));
        check.due("begin 8, no OPENING", EndedByOthers.UNKNOWN, x.begin(1, 4));
        check.due("digest() behind the refusals", before, x.digest());
        check.due("end(7, 0)", 3, x.end(7, 0));
        check.due("begin 8, none open", EndedByOthers.FULL, x.begin(1, 0));
        check.due("count(1)", 8, x.count(1));
        check.due("sentence(8, 0)", EndedByOthers.UNKNOWN, x.sentence(8, 0));
        check.due("end(8, 0)", EndedByOthers.UNKNOWN, x.end(8, 0));
        check.due("sentence(7, 0)", 1, x.sentence(7, 0));
    }

    private static void ends() {
        EndedByOthers x = Check.inRoom("ab,cd,ef,ac;sb,he,tf,pa");
        x.begin(0, 0);
        x.begin(1, 1);
        long before = x.digest();
        for (int number : NOTHING) {
            check.due("end(" + number + ", 1)", EndedByOthers.UNKNOWN, x.end(number, 1));
            check.due("end(0, " + number + ")", EndedByOthers.UNKNOWN, x.end(0, number));
        }
        check.due("end(2, 0)", EndedByOthers.UNKNOWN, x.end(2, 0));
        check.due("end(0, 4)", EndedByOthers.UNKNOWN, x.end(0, 4));
        check.due("end(0, 0), his own", EndedByOthers.STATE, x.end(0, 0));
        check.due("end(1, 1), his own", EndedByOthers.STATE, x.end(1, 1));
        check.due("end(0, 1), left open", EndedByOthers.NONE, x.end(0, 1));
        check.due("digest() behind the refusals", before, x.digest());
        check.due("end(0, 2)", 5, x.end(0, 2));
        check.due("end(1, 3)", 3, x.end(1, 3));
        long then = x.digest();
        check.due("end(0, 3), ended", EndedByOthers.STATE, x.end(0, 3));
        check.due("end(0, 2), ended by him", EndedByOthers.STATE, x.end(0, 2));
        check.due("end(0, 0), ended, his own", EndedByOthers.STATE, x.end(0, 0));
        check.due("end(0, 4), ended", EndedByOthers.UNKNOWN, x.end(0, 4));
        check.due("digest() behind these", then, x.digest());
        check.due("begin(3, 1)", 2, x.begin(3, 1));
        check.due("end(2, 0)", 2, x.end(2, 0));
        check.due("begin(0, 1)", 3, x.begin(0, 1));
        check.due("end(3, 3), d is used", 2, x.end(3, 3));
        check.due("about(3, 2)", 12, x.about(3, 2));
        check.due("count(2)", 0, x.count(2));
    }

    private static void sentenceIs(EndedByOthers x, int sentence, int... due) {
        for (int what = 0; what < due.length; what++) {
            check.due("sentence(" + sentence + ", " + what + ")", due[what], x.sentence(sentence, what));
        }
    }

    private static void tells() {
        EndedByOthers x = Check.inRoom("ab,cd,ef,ac;sb,he,tf,pa");
        x.begin(2, 3);
        x.begin(0, 0);
        sentenceIs(x, 0, 2, 3, -1, -1, 0, EndedByOthers.OUTSIDE);
        sentenceIs(x, 1, 0, 0, -1, -1, 0, EndedByOthers.OUTSIDE);
        sentenceIs(x, 2, EndedByOthers.UNKNOWN, EndedByOthers.UNKNOWN, EndedByOthers.UNKNOWN,
                EndedByOthers.UNKNOWN, EndedByOthers.UNKNOWN, EndedByOthers.UNKNOWN);
        for (int number : NOTHING) {
            check.due("sentence(" + number + ", 0)", EndedByOthers.UNKNOWN, x.sentence(number, 0));
            check.due("sentence(0, " + number + ")", EndedByOthers.OUTSIDE, x.sentence(0, number));
        }
        x.end(1, 3);
        sentenceIs(x, 1, 0, 0, 3, 1, 1);
        x.end(0, 0);
        sentenceIs(x, 0, 2, 3, 0, 0, 0);
        check.due("count(3)", 1, x.count(3));
        x.want(0, 4);
        sentenceIs(x, 1, 0, 0, 3, 1, 0);
        check.due("count(3) by another want", 0, x.count(3));
        x.want(2, 0);
        x.want(0, 1);
        sentenceIs(x, 0, 2, 3, 0, 0, 1);
        sentenceIs(x, 1, 0, 0, 3, 1, 1);
        check.due("count(3) by two", 2, x.count(3));
        // What the ender wants does not matter.
        x.want(3, 5);
        sentenceIs(x, 1, 0, 0, 3, 1, 1);
    }
}

/** Promises 7 (but for WHICH KINDS and BEGIN: HeardTest) to 10: the SPEAKERS. */
public final class SpeakersTest {
    private static final Check check = new Check();
    private static final int[] NOTHING = {-1, Integer.MIN_VALUE, Integer.MAX_VALUE, 100};

    public static void main(String[] args) {
        refusals();
        about();
        sure();
        sureByWhatIsUsedNow();
        casts();
        wants();
        howKindsEnd();
        poetsRunThrough();
        check.finish("SpeakersTest");
    }

    private static void refusals() {
        EndedByOthers x = Check.inRoom("a,b,c,d;sa,hb,tc");
        long before = x.digest();
        for (int what = 0; what <= 8; what++) {
            check.due("about(3, " + what + ")", EndedByOthers.UNKNOWN, x.about(3, what));
        }
        check.due("about(0, 9)", EndedByOthers.OUTSIDE, x.about(0, 9));
        check.due("about(3, 9)", EndedByOthers.UNKNOWN, x.about(3, 9));
        check.due("as(3, 0)", EndedByOthers.UNKNOWN, x.as(3, 0));
        check.due("as(0, 5)", EndedByOthers.OUTSIDE, x.as(0, 5));
        check.due("as(3, 5)", EndedByOthers.UNKNOWN, x.as(3, 5));
        check.due("want(3, 0)", EndedByOthers.UNKNOWN, x.want(3, 0));
        check.due("want(0, 6)", EndedByOthers.OUTSIDE, x.want(0, 6));
        check.due("want(3, 6)", EndedByOthers.UNKNOWN, x.want(3, 6));
        check.due("would(3, 0)", EndedByOthers.UNKNOWN, x.would(3, 0));
        check.due("would(0, 4)", EndedByOthers.UNKNOWN, x.would(0, 4));
        for (int number : NOTHING) {
            check.due("about(" + number + ", 0)", EndedByOthers.UNKNOWN, x.about(number, 0));
            check.due("about(0, " + number + ")", EndedByOthers.OUTSIDE, x.about(0, number));
            check.due("as(" + number + ", 0)", EndedByOthers.UNKNOWN, x.as(number, 0));
            check.due("as(0, " + number + ")", EndedByOthers.OUTSIDE, x.as(0, number));
            check.due("want(" + number + ", 0)", EndedByOthers.UNKNOWN, x.want(number, 0));
            check.due("want(0, " + number + ")", EndedByOthers.OUTSIDE, x.want(0, number));
            check.due("would(" + number + ", 0)", EndedByOthers.UNKNOWN, x.would(number, 0));
            check.due("would(0, " + number + ")", EndedByOthers.UNKNOWN, x.would(0, number));
        }
        check.due("digest() behind the refusals", before, x.digest());
    }

    private static void aboutIs(EndedByOthers x, int speaker, int... due) {
        for (int what = 0; what < due.length; what++) {
            check.due("about(" + speaker + ", " + what + ")", due[what], x.about(speaker, what));
        }
    }

    private static void about() {
        EndedByOthers x = Check.inRoom("ab,bc,cd,def;sa,he,tf,cb");
        aboutIs(x, 0, 0, 0, 0, -1, 0, 0);
        x.begin(0, 0);
        aboutIs(x, 0, 0, 0, 0, 0, 1, 0);
        x.begin(3, 3);
        aboutIs(x, 3, 3, 1, 0, 1, 1, 0);
        check.due("end(0, 1)", EndedByOthers.NONE, x.end(0, 1));
        aboutIs(x, 1, 1, 4, 0, -1, 0, 0);
        check.due("end(0, 2)", 5, x.end(0, 2));
        aboutIs(x, 0, 0, 0, 0, -1, 1, 0);
        aboutIs(x, 2, 2, 5, 32, -1, 0, 1);
        x.want(2, 0);
        check.due("end(1, 2)", 0, x.end(1, 2));
        aboutIs(x, 2, 2, 0, 33, -1, 0, 2);
        aboutIs(x, 3, 3, 1, 0, -1, 1, 0);
        x.begin(0, 2);
        aboutIs(x, 0, 0, 0, 0, 2, 2, 0);
        check.due("end(2, 3)", 3, x.end(2, 3));
        aboutIs(x, 3, 3, 1, 8, -1, 1, 1);
    }

    private static void sureIs(String room, int... due) {
        EndedByOthers x = Check.inRoom(room);
        for (int speaker = 0; speaker < due.length; speaker++) {
            check.due("SURE for " + speaker + " in " + room, due[speaker], x.about(speaker, 6));
        }
    }

    private static void sure() {
        sureIs("bd,b,d,bd;sb,cd", 1, 2);
        // All of the others count, not only one of them.
        sureIs("ab,ab,ab,b;sb,sa,cf", 3, -1, -1);
        // A shy one who leaves it open does not spoil it, if another one ends it so.
        sureIs("a,b,c,d;sc,hf,sf", 2, -1, -1);
        // None ends it, as all leave it open.
        sureIs("a,a,a,a;sb,hc", -1, -1);
        sureIs("a,a,a,a;ha,hb,hc", -1, -1, -1);
        // One that none ENDS is passed over; one that is ENDED by one alone is not.
        sureIs("b,c,ad,a;ha,ha,hb", 2, 2, -1);
        sureIs("c,b,ad,a;ha,hb,hb", -1, 1, 1);
        // The one who begins does not count himself.
        sureIs("ab,cd,cd,cd;tf,cb", -1, -1);
        sureIs("ab,cd,cd,cd;tb,cf", 0, -1);
        // The least of several.
        sureIs("b,ab,ab,ab;sb,tb", 0, 0);
        sureIs("f,af,f,f;sa,sa", 1, 1);
    }

    private static void sureByWhatIsUsedNow() {
        EndedByOthers x = Check.inRoom("ab,c,ab,d;sa,pf");
        check.due("SURE while the poet is fresh", -1, x.about(0, 6));
        x.begin(0, 0);
        check.due("end(0, 1)", 1, x.end(0, 1));
        check.due("SURE when the poet has used b", 0, x.about(0, 6));
        x.begin(0, 1);
        check.due("SURE with one open", 0, x.about(0, 6));
        x.want(0, 3);
        check.due("SURE by what he wants now", 3, x.about(0, 6));
    }

    private static void casts() {
        EndedByOthers x = Check.inRoom("a,b,c,d;pa,cb,tc,hd");
        EndedByOthers y = Check.inRoom("a,b,c,d;sa,sb");
        int[][] due = {{0, -1, -1, 0, 0}, {1, -1, -1, 1, -1}, {2, -1, 2, -1, -1}, {3, 3, -1, -1, -1}};
        for (int speaker = 0; speaker < 4; speaker++) {
            for (int kind = 0; kind < 5; kind++) {
                check.due("as(" + speaker + ", " + kind + ")", due[speaker][kind], x.as(speaker, kind));
            }
        }
        for (int kind = 0; kind < 5; kind++) {
            check.due("a plain one as " + kind, kind == 0 ? 1 : -1, y.as(1, kind));
        }
    }

    private static void wants() {
        EndedByOthers x = Check.inRoom("a,b,c,d;sa,sb");
        check.due("want(0, 5)", 0, x.want(0, 5));
        check.due("want(0, 0)", 5, x.want(0, 0));
        check.due("want(1, 2)", 1, x.want(1, 2));
        check.due("about(0, 1)", 0, x.about(0, 1));
        check.due("about(1, 1)", 2, x.about(1, 1));
        check.due("count(5)", 3, x.count(5));
        check.due("want(1, 2) again", 2, x.want(1, 2));
        check.due("count(5), each want() counts", 4, x.count(5));
    }

    private static void howKindsEnd() {
        EndedByOthers x = Check.inRoom("bd,c,ace,f;sd,hd,td,cd");
        int[][] due = {{3, 2, 0, 5}, {3, -1, -1, -1}, {3, 3, 3, 3}, {3, 2, 4, 5}};
        for (int speaker = 0; speaker < 4; speaker++) {
            for (int opening = 0; opening < 4; opening++) {
                check.due("would(" + speaker + ", " + opening + ")", due[speaker][opening], x.would(speaker, opening));
            }
        }
        x.want(0, 2);
        x.want(1, 2);
        x.want(2, 0);
        x.want(3, 0);
        int[][] then = {{1, 2, 2, 5}, {-1, 2, 2, -1}, {0, 0, 0, 0}, {3, 2, 4, 5}};
        for (int speaker = 0; speaker < 4; speaker++) {
            for (int opening = 0; opening < 4; opening++) {
                check.due("then would(" + speaker + ", " + opening + ")", then[speaker][opening],
                        x.would(speaker, opening));
            }
        }
    }

    private static void poetsRunThrough() {
        EndedByOthers x = Check.inRoom("abc,bc,c,def;sa,pa");
        int[] due = {2, 1, 0, 2, 2};
        for (int sentence = 0; sentence < due.length; sentence++) {
            x.begin(0, 0);
            check.due("would() of the poet, " + sentence, due[sentence], x.would(1, 0));
            check.due("would() changes nothing", due[sentence], x.would(1, 0));
            check.due("end() by the poet, " + sentence, due[sentence], x.end(sentence, 1));
        }
        check.due("would(1, 1), both used", 2, x.would(1, 1));
        check.due("would(1, 3), none used", 5, x.would(1, 3));
        check.due("about(1, 2)", 7, x.about(1, 2));
        check.due("about(1, 5)", 5, x.about(1, 5));
    }
}

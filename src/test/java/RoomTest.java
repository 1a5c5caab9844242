/** Promises 1 to 6: a new object, and the ROOM. */
public final class RoomTest {
    private static final Check check = new Check();
    private static final String LONGEST = "abc,bcd,cde,def;sa,hb,tc,cd";

    public static void main(String[] args) {
        newObject();
        letters();
        blanks();
        faults();
        faultsAtEachPlace();
        rooms();
        anotherRoom();
        fitting();
        check.finish("RoomTest");
    }

    private static void newObject() {
        EndedByOthers x = new EndedByOthers();
        for (int what = 0; what < 9; what++) {
            check.due("new count(" + what + ")", 0, x.count(what));
        }
        check.due("new fault()", 0, x.fault());
        check.due("new room()", EndedByOthers.STATE, x.room());
        check.due("new fits(0)", EndedByOthers.UNKNOWN, x.fits(0));
        check.due("new about(0, 0)", EndedByOthers.UNKNOWN, x.about(0, 0));
        check.due("new about(0, 99)", EndedByOthers.UNKNOWN, x.about(0, 99));
        check.due("new as(0, 0)", EndedByOthers.UNKNOWN, x.as(0, 0));
        check.due("new want(0, 0)", EndedByOthers.UNKNOWN, x.want(0, 0));
        check.due("new would(0, 0)", EndedByOthers.UNKNOWN, x.would(0, 0));
        check.due("new begin(0, 0)", EndedByOthers.UNKNOWN, x.begin(0, 0));
        check.due("new end(0, 0)", EndedByOthers.UNKNOWN, x.end(0, 0));
        check.due("new sentence(0, 0)", EndedByOthers.UNKNOWN, x.sentence(0, 0));
        check.due("new match(0)", EndedByOthers.STATE, x.match(0));
        check.due("new match(1)", EndedByOthers.OUTSIDE, x.match(1));
        check.due("new hear(0, 0, 0)", EndedByOthers.UNKNOWN, x.hear(0, 0, 0));
        check.due("new forget()", 0, x.forget());
        check.due("new talks(1, 0, 0)", EndedByOthers.STATE, x.talks(1, 0, 0));
        check.due("new talks(0, 0, 0)", EndedByOthers.OUTSIDE, x.talks(0, 0, 0));
        check.due("new image()", EndedByOthers.STATE, x.image());
        check.due("new restore()", EndedByOthers.STATE, x.restore());
        check.due("new blank()", 0, x.blank());
        check.due("new count(8)", 0, x.count(8));
    }

    private static void letters() {
        EndedByOthers x = new EndedByOthers();
        check.due("letter(0)", EndedByOthers.OUTSIDE, x.letter(0));
        check.due("letter(-1)", EndedByOthers.OUTSIDE, x.letter(-1));
        check.due("letter(127)", EndedByOthers.OUTSIDE, x.letter(127));
        check.due("letter(MIN)", EndedByOthers.OUTSIDE, x.letter(Integer.MIN_VALUE));
        check.due("letter(MAX)", EndedByOthers.OUTSIDE, x.letter(Integer.MAX_VALUE));
        check.due("letter(a + 65536)", EndedByOthers.OUTSIDE, x.letter('a' + 65536));
        check.due("refused letters", 0, x.count(7));
        check.due("letter(1)", 1, x.letter(1));
        check.due("letter(126)", 2, x.letter(126));
        for (int i = 3; i <= 30; i++) {
            check.due("letter " + i, i, x.letter('a'));
        }
        check.due("letter 31", EndedByOthers.FULL, x.letter('a'));
        check.due("letter 31, of no code", EndedByOthers.OUTSIDE, x.letter(127));
        check.due("letters of a full page", 30, x.count(7));
        check.due("fault of a full page", 0, x.fault());
    }

    private static void blanks() {
        EndedByOthers x = Check.typed("ab,");
        check.due("blank()", 3, x.blank());
        check.due("blank() again", 0, x.blank());
        check.due("letter behind blank()", 1, x.letter('f'));
        check.due("fault behind blank()", 1, x.fault());
        EndedByOthers y = Check.inRoom("a,a,a,a;sa,sb");
        y.begin(0, 0);
        Check.type(y, "zz");
        check.due("blank() in a room", 2, y.blank());
        check.due("the room stands", 2, y.count(0));
        check.due("the sentences stand", 1, y.count(1));
    }

    private static void faultIs(String text, int place) {
        EndedByOthers x = Check.typed(text);
        check.due("fault of " + text, place, x.fault());
        check.due("letters of " + text + " then", text.length(), x.count(7));
    }

    private static void faults() {
        faultIs("", 0);
        for (int i = 0; i <= LONGEST.length(); i++) {
            faultIs(LONGEST.substring(0, i), i);
        }
        faultIs("a,b,c,d;pf,pf", 13);
        faultIs("g", 0);
        faultIs(",", 0);
        faultIs("A", 0);
        faultIs("s", 0);
        faultIs("aa", 1);
        faultIs("ba", 1);
        faultIs("abcd", 3);
        faultIs("def,ab", 6);
        faultIs("a,,", 2);
        faultIs("a;", 1);
        faultIs("a,b;", 3);
        faultIs("a,b,c;", 5);
        faultIs("a,b,c,d,", 7);
        faultIs("a,b,c,d;;", 8);
        faultIs("a,b,c,d;a", 8);
        faultIs("a,b,c,d;x", 8);
        faultIs("a,b,c,d;ss", 9);
        faultIs("a,b,c,d;sg", 9);
        faultIs("a,b,c,d;s,", 9);
        faultIs("a,b,c,d;sab", 10);
        faultIs("a,b,c,d;sa;", 10);
        faultIs("a,b,c,d;sa,,", 11);
        faultIs("a,b,c,d;sa,hb,tc,pd,", 19);
        faultIs("a,b,c,d;sa,hb,tc,pd,cc", 19);
        faultIs("a,b,c,d;sa,hb ", 13);
        faultIs("ba,cccc", 1);
        EndedByOthers x = Check.typed("ba");
        Check.type(x, "b");
        check.due("a fault stays with more letters", 1, x.fault());
    }

    /** At each place of the longest text, each letter that may not stand there. */
    private static void faultsAtEachPlace() {
        String[] due = {
            "abcdef", "bcdef,", "cdef,", ",", "abcdef", "cdef,", "def,", ",", "abcdef", "def,", "ef,", ",",
            "abcdef", "ef;", "f;", ";", "shtcp", "abcdef", ",", "shtcp", "abcdef", ",", "shtcp", "abcdef", ",",
            "shtcp", "abcdef", "",
        };
        for (int place = 0; place < due.length; place++) {
            for (int code = 1; code <= 126; code++) {
                EndedByOthers x = Check.typed(LONGEST.substring(0, place));
                x.letter(code);
                boolean mayStand = due[place].indexOf(code) >= 0;
                check.due("fault of code " + code + " at " + place, mayStand ? place + 1 : place, x.fault());
            }
        }
    }

    private static void rooms() {
        EndedByOthers x = new EndedByOthers();
        for (int i = 0; i < LONGEST.length(); i++) {
            boolean whole = i == 21 || i == 24;
            if (!whole) {
                check.due("room() behind " + i, EndedByOthers.STATE, x.room());
                check.due("letters then", i, x.count(7));
            }
            x.letter(LONGEST.charAt(i));
        }
        check.due("rooms read before", 0, x.count(8));
        check.due("room() of four", 4, x.room());
        check.due("THE PAGE then", 0, x.count(7));
        check.due("count(0)", 4, x.count(0));
        check.due("count(8)", 1, x.count(8));
        check.due("room() of two", 2, Check.typed(LONGEST.substring(0, 21)).room());
        check.due("room() of three", 3, Check.typed(LONGEST.substring(0, 24)).room());
        check.due("room() with a comma behind", EndedByOthers.STATE, Check.typed("a,b,c,d;sa,sb,").room());
        check.due("room() with a kind behind", EndedByOthers.STATE, Check.typed("a,b,c,d;sa,sb,s").room());
        check.due("room() of one", EndedByOthers.STATE, Check.typed("a,b,c,d;sa").room());
        check.due("room() with a letter too many", EndedByOthers.STATE, Check.typed("a,b,c,d;sa,sbb").room());
        check.due("room() with a fault ahead", EndedByOthers.STATE, Check.typed("ba,b,c,d;sa,sb").room());
        int[] kinds = {0, 1, 2, 3};
        int[] wants = {0, 1, 2, 3};
        for (int speaker = 0; speaker < 4; speaker++) {
            check.due("KIND of " + speaker, kinds[speaker], x.about(speaker, 0));
            check.due("WANTED by " + speaker, wants[speaker], x.about(speaker, 1));
        }
        EndedByOthers poets = Check.inRoom("a,b,c,d;pe,pf");
        check.due("KIND of a poet", 4, poets.about(1, 0));
        check.due("WANTED by a poet", 5, poets.about(1, 1));
    }

    private static void anotherRoom() {
        EndedByOthers x = Check.inRoom("ab,b,c,d;sa,hb,tc,pd");
        x.begin(0, 0);
        x.end(0, 1);
        x.begin(1, 2);
        x.want(0, 5);
        x.hear(0, 0, 5);
        x.image();
        Check.type(x, "f,e,d,cd;ta,tb,");
        long before = x.digest();
        check.due("room() that is none", EndedByOthers.STATE, x.room());
        check.due("digest() then", before, x.digest());
        check.due("restore() is not lost by it", 2, x.restore());
        x.blank();
        Check.type(x, "f,e,d,cd;tb,tb");
        check.due("another room()", 2, x.room());
        int[] counts = {2, 0, 0, 0, 0, 0, 0, 0, 2};
        for (int what = 0; what < counts.length; what++) {
            check.due("count(" + what + ") in another room", counts[what], x.count(what));
        }
        check.due("fits(0) there", 32, x.fits(0));
        check.due("fits(3) there", 12, x.fits(3));
        check.due("about(0, 0) there", 2, x.about(0, 0));
        check.due("about(0, 1) there", 1, x.about(0, 1));
        check.due("about(1, 2) there", 0, x.about(1, 2));
        check.due("about(0, 4) there", 0, x.about(0, 4));
        check.due("about(2, 0) there", EndedByOthers.UNKNOWN, x.about(2, 0));
        check.due("sentence(0, 0) there", EndedByOthers.UNKNOWN, x.sentence(0, 0));
        check.due("restore() there", EndedByOthers.STATE, x.restore());
    }

    private static void fitting() {
        EndedByOthers x = Check.inRoom("a,bcd,af,f;sa,sb");
        int[] due = {1, 14, 33, 32};
        for (int opening = 0; opening < 4; opening++) {
            check.due("fits(" + opening + ")", due[opening], x.fits(opening));
        }
        int[] none = {-1, 4, 5, 100, Integer.MIN_VALUE, Integer.MAX_VALUE};
        for (int opening : none) {
            check.due("fits(" + opening + ")", EndedByOthers.UNKNOWN, x.fits(opening));
        }
    }
}

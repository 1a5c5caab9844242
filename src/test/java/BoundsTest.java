import java.math.BigInteger;

/** Each edge that the document names, promise by promise, each on objects of its own. RefusalsTest has what is refused. */
public final class BoundsTest {
    private static final int LAST_CALL = 512;
    private static final String LONGEST = "abc,bcd,cde,def;sa,hb,tc,cd";
    private static final String SHORTEST = "a,b,c,d;sa,sb";
    private static final Check check = new Check();

    public static void main(String[] args) {
        textsThatAreRooms();
        textsThatAreNone();
        the512thCall();
        pageFromEmptyToFull();
        faultOnAFullPage();
        roomOnAFullPage();
        lastOpeningAndLastSpeaker();
        leastAndGreatestEnding();
        poetUsesAllSix();
        oneOpenEach();
        sentencesFromNoneToEight();
        lastSentenceIsMatched();
        heardFromNoneToEight();
        imageOfNothingAndOfAll();
        drawsWrapAround();
        talksNeedNoSentence();
        countsAtTheirGreatest();
        digestWrapsAround();
        check.finish("BoundsTest");
    }

    private static void roomIs(String why, String text, int due) {
        EndedByOthers x = Check.typed(text);
        check.due("room() of " + text + ", " + why, due, x.room());
        boolean isRead = due >= 0;
        check.due("letters of " + text + " then", isRead ? 0 : text.length(), x.count(7));
        check.due("SPEAKERS of " + text + " then", isRead ? due : 0, x.count(0));
        check.due("rooms read by " + text + " then", isRead ? 1 : 0, x.count(8));
    }

    private static void textsThatAreRooms() {
        roomIs("one ENDING for each, two SPEAKERS", SHORTEST, 2);
        roomIs("three ENDINGS for each, four SPEAKERS", LONGEST, 4);
        roomIs("two ENDINGS for each, three SPEAKERS", "ab,cd,ef,af;sa,sb,sc", 3);
        roomIs("all alike", "a,a,a,a;sa,sa", 2);
        roomIs("the least and the greatest letters", "a,f,af,f;sa,sf", 2);
        roomIs("each KIND", "a,b,c,d;ha,tb,cc,pd", 4);
    }

    private static void textsThatAreNone() {
        roomIs("empty", "", EndedByOthers.STATE);
        roomIs("no ENDING for 0", ",b,c,d;sa,sb", EndedByOthers.STATE);
        roomIs("no ENDING for 1", "a,,c,d;sa,sb", EndedByOthers.STATE);
        roomIs("no ENDING for 3", "a,b,c,;sa,sb", EndedByOthers.STATE);
        roomIs("four ENDINGS for 0", "abcd,b,c,d;sa,sb", EndedByOthers.STATE);
        roomIs("four ENDINGS for 3", "a,b,c,abcd;sa,sb", EndedByOthers.STATE);
        roomIs("an ENDING below a", "`,b,c,d;sa,sb", EndedByOthers.STATE);
        roomIs("an ENDING above f", "g,b,c,d;sa,sb", EndedByOthers.STATE);
        roomIs("an ENDING twice", "aa,b,c,d;sa,sb", EndedByOthers.STATE);
        roomIs("ENDINGS that fall", "ba,b,c,d;sa,sb", EndedByOthers.STATE);
        roomIs("ENDINGS that rise and fall", "acb,b,c,d;sa,sb", EndedByOthers.STATE);
        roomIs("three OPENINGS", "a,b,c;sa,sb", EndedByOthers.STATE);
        roomIs("five OPENINGS", "a,b,c,d,e;sa,sb", EndedByOthers.STATE);
        roomIs("OPENINGS alone", "a,b,c,d", EndedByOthers.STATE);
        roomIs("no SPEAKER", "a,b,c,d;", EndedByOthers.STATE);
        roomIs("one SPEAKER", "a,b,c,d;sa", EndedByOthers.STATE);
        roomIs("five SPEAKERS", "a,b,c,d;sa,sb,sc,sd,se", EndedByOthers.STATE);
        roomIs("SPEAKERS alone", "sa,sb", EndedByOthers.STATE);
        roomIs("one who WANTS nothing", "a,b,c,d;sa,s", EndedByOthers.STATE);
        roomIs("one who WANTS two", "a,b,c,d;sa,sbc", EndedByOthers.STATE);
        roomIs("one of no KIND", "a,b,c,d;sa,b", EndedByOthers.STATE);
        roomIs("a KIND that is none", "a,b,c,d;sa,Sb", EndedByOthers.STATE);
        roomIs("one who WANTS below a", "a,b,c,d;sa,s`", EndedByOthers.STATE);
        roomIs("one who WANTS above f", "a,b,c,d;sa,sg", EndedByOthers.STATE);
        roomIs("two ';'", "a,b,c,d;;sa,sb", EndedByOthers.STATE);
        roomIs("',' behind", SHORTEST + ",", EndedByOthers.STATE);
        roomIs("';' behind", SHORTEST + ";", EndedByOthers.STATE);
        roomIs("a blank ahead", " " + SHORTEST, EndedByOthers.STATE);
        roomIs("a blank behind", SHORTEST + " ", EndedByOthers.STATE);
    }

    /** "An object is used for at most 512 calls." */
    private static void the512thCall() {
        EndedByOthers wanting = Check.inRoom(SHORTEST);
        EndedByOthers asking = Check.inRoom(SHORTEST);
        int calls = SHORTEST.length() + 1;
        int wants = 0;
        long before = Check.inRoom(SHORTEST).digest();
        for (; calls < LAST_CALL - 1; calls++) {
            check.due("want() as call " + calls, wants == 0 ? 1 : (wants - 1) % 6, wanting.want(1, wants % 6));
            check.due("match() as call " + calls, 0, asking.match(0));
            wants++;
        }
        check.due("count(5) as the 512th call", LAST_CALL - 1 - SHORTEST.length() - 1, wanting.count(5));
        check.due("digest() as the 512th call", before, asking.digest());
    }

    private static void pageFromEmptyToFull() {
        EndedByOthers x = new EndedByOthers();
        check.due("blank() of an empty page", 0, x.blank());
        check.due("the least code, below it", EndedByOthers.OUTSIDE, x.letter(0));
        check.due("the least code", 1, x.letter(1));
        check.due("the greatest code, above it", EndedByOthers.OUTSIDE, x.letter(127));
        check.due("the greatest code", 2, x.letter(126));
        for (int letters = 3; letters <= 30; letters++) {
            check.due("letter " + letters, letters, x.letter(letters));
        }
        check.due("letter 31", EndedByOthers.FULL, x.letter(1));
        check.due("blank() of a full page", 30, x.blank());
        check.due("letter behind blank()", 1, x.letter(126));
        check.due("blank() of one letter", 1, x.blank());
    }

    private static void faultOnAFullPage() {
        EndedByOthers behind = Check.typed(LONGEST + ",sa");
        check.due("letters of a full page", 30, behind.count(7));
        check.due("fault behind the longest room", 27, behind.fault());
        check.due("fault in the last letter of it", 26, Check.typed(LONGEST.substring(0, 26) + "gaaa").fault());
        check.due("fault in the first letter", 0, Check.typed(";" + LONGEST + "aa").fault());
        check.due("no fault in the longest room", 27, Check.typed(LONGEST).fault());
        check.due("no fault in an empty page", 0, new EndedByOthers().fault());
    }

    private static void roomOnAFullPage() {
        EndedByOthers x = Check.typed(LONGEST + ",sa");
        check.due("room() of a full page", EndedByOthers.STATE, x.room());
        check.due("the page stays full", EndedByOthers.FULL, x.letter('a'));
        check.due("blank() then", 30, x.blank());
        Check.type(x, SHORTEST);
        check.due("room() behind blank()", 2, x.room());
        check.due("letter behind room()", 1, x.letter('a'));
    }

    /** In rooms of two, three and four: the last SPEAKER is known to each call, the next one is not. */
    private static void lastOpeningAndLastSpeaker() {
        String[] rooms = {"a,b,c,df;sa,hd", "a,b,c,df;sa,sb,hd", "a,b,c,df;sa,sb,sc,hd"};
        for (int speakers = 2; speakers <= 4; speakers++) {
            EndedByOthers x = Check.inRoom(rooms[speakers - 2]);
            int last = speakers - 1;
            check.due("about() of the last", 1, x.about(last, 0));
            check.due("as() of the last", last, x.as(last, 1));
            check.due("would() of the last, the last OPENING", 3, x.would(last, 3));
            check.due("hear() of the last, the last OPENING", 1, x.hear(last, 3, 5));
            check.due("begin() by the last, the last OPENING", 0, x.begin(last, 3));
            check.due("want() of the last", 3, x.want(last, 5));
            x.begin(0, 3);
            check.due("end() by the last", 5, x.end(1, last));
            check.due("fits() of the last OPENING", 40, x.fits(3));
            check.due("fits() of the next", EndedByOthers.UNKNOWN, x.fits(4));
            check.due("would() of the next OPENING", EndedByOthers.UNKNOWN, x.would(last, 4));
            check.due("begin() by the next OPENING", EndedByOthers.UNKNOWN, x.begin(0, 4));
            check.due("hear() of the next OPENING", EndedByOthers.UNKNOWN, x.hear(last, 4, 5));
            check.due("about() of the next", EndedByOthers.UNKNOWN, x.about(speakers, 0));
            check.due("as() of the next", EndedByOthers.UNKNOWN, x.as(speakers, 0));
            check.due("would() of the next", EndedByOthers.UNKNOWN, x.would(speakers, 0));
            check.due("want() of the next", EndedByOthers.UNKNOWN, x.want(speakers, 0));
            check.due("hear() of the next", EndedByOthers.UNKNOWN, x.hear(speakers, 0, 0));
            check.due("begin() by the next", EndedByOthers.UNKNOWN, x.begin(speakers, 0));
            check.due("end() by the next", EndedByOthers.UNKNOWN, x.end(0, speakers));
        }
    }

    private static void leastAndGreatestEnding() {
        EndedByOthers x = Check.inRoom("af,f,a,bc;ta,tf");
        check.due("would() by a", 0, x.would(0, 1));
        check.due("would() by f", 5, x.would(1, 2));
        check.due("want(0, 5)", 0, x.want(0, 5));
        check.due("want(0, 6)", EndedByOthers.OUTSIDE, x.want(0, 6));
        check.due("want(1, 0)", 5, x.want(1, 0));
        check.due("want(1, -1)", EndedByOthers.OUTSIDE, x.want(1, -1));
        check.due("hear(0, 0, 0)", 1, x.hear(0, 0, 0));
        check.due("hear(0, 0, 5)", 2, x.hear(0, 0, 5));
        check.due("hear(0, 0, 6)", EndedByOthers.OUTSIDE, x.hear(0, 0, 6));
        check.due("hear(0, 0, NONE)", 3, x.hear(0, 0, EndedByOthers.NONE));
        check.due("hear(0, 0, -2)", EndedByOthers.OUTSIDE, x.hear(0, 0, -2));
    }

    /** "or, if he has used them all, by the greatest", for each OPENING and with all six used. */
    private static void poetUsesAllSix() {
        EndedByOthers x = Check.inRoom("abc,def,a,f;pa,pb");
        int[] due = {2, 5, 1, 4, 0, 3, 2, 5};
        int used = 0;
        for (int sentence = 0; sentence < 8; sentence++) {
            x.begin(0, sentence % 2);
            check.due("end() " + sentence + " by the poet", due[sentence], x.end(sentence, 1));
            used |= 1 << due[sentence];
            check.due("used behind " + sentence, used, x.about(1, 2));
        }
        check.due("used at last", 63, x.about(1, 2));
        check.due("ENDED at last", 8, x.about(1, 5));
        check.due("would() of one that FITS alone", 0, x.would(1, 2));
        check.due("used by the other poet", 0, x.about(0, 2));
        check.due("would() of the other poet", 2, x.would(0, 0));
    }

    /** "One has but one that is OPEN"; it is OPEN until another one ENDED it. */
    private static void oneOpenEach() {
        EndedByOthers x = Check.inRoom("a,b,c,d;sa,hf,hf,hf");
        for (int speaker = 0; speaker < 4; speaker++) {
            check.due("none open of " + speaker, EndedByOthers.NONE, x.about(speaker, 3));
            check.due("begin(" + speaker + ", 0)", speaker, x.begin(speaker, 0));
            check.due("begin(" + speaker + ", 0) again", EndedByOthers.STATE, x.begin(speaker, 0));
            check.due("open of " + speaker, speaker, x.about(speaker, 3));
        }
        check.due("all four are open", 4, x.count(2));
        check.due("end(0, 0), his own", EndedByOthers.STATE, x.end(0, 0));
        check.due("end(0, 1), left open", EndedByOthers.NONE, x.end(0, 1));
        check.due("who ended it", EndedByOthers.NONE, x.sentence(0, 2));
        check.due("by which", EndedByOthers.NONE, x.sentence(0, 3));
        check.due("ENDED by 1", 0, x.about(1, 5));
        check.due("used by 1", 0, x.about(1, 2));
        check.due("begin(0, 0), left open", EndedByOthers.STATE, x.begin(0, 0));
        check.due("end(1, 0)", 0, x.end(1, 0));
        check.due("end(1, 2), ENDED", EndedByOthers.STATE, x.end(1, 2));
        check.due("begin(1, 0) behind it", 4, x.begin(1, 0));
        check.due("open of 1 behind it", 4, x.about(1, 3));
    }

    private static void sentencesFromNoneToEight() {
        EndedByOthers x = Check.inRoom(SHORTEST);
        check.due("sentence(0, 0) of none", EndedByOthers.UNKNOWN, x.sentence(0, 0));
        check.due("end(0, 0) of none", EndedByOthers.UNKNOWN, x.end(0, 0));
        for (int sentence = 0; sentence < 8; sentence++) {
            check.due("begin " + sentence, sentence, x.begin(0, 0));
            check.due("sentence() of the last", 0, x.sentence(sentence, 0));
            check.due("sentence() of the next", EndedByOthers.UNKNOWN, x.sentence(sentence + 1, 0));
            check.due("end() of the next", EndedByOthers.UNKNOWN, x.end(sentence + 1, 1));
            check.due("open is the last", sentence, x.about(0, 3));
            if (sentence < 7) {
                check.due("end() of the last", 0, x.end(sentence, 1));
            }
        }
        check.due("a ninth, one of his open", EndedByOthers.STATE, x.begin(0, 0));
        check.due("a ninth, none of his open", EndedByOthers.FULL, x.begin(1, 0));
        check.due("end(7, 1)", 0, x.end(7, 1));
        check.due("a ninth, none open", EndedByOthers.FULL, x.begin(0, 0));
        check.due("began", 8, x.about(0, 4));
    }

    private static void lastSentenceIsMatched() {
        EndedByOthers x = Check.inRoom("a,a,a,a;ta,ta");
        for (int sentence = 0; sentence < 7; sentence++) {
            x.begin(0, 0);
            x.end(sentence, 1);
        }
        int[] none = {0, -1, -1, -1, -1};
        int[] last = {1, -1, 7, -1, -1};
        matchIs(x, "none open", none);
        x.begin(0, 0);
        matchIs(x, "the eighth open", last);
        x.end(7, 1);
        matchIs(x, "the eighth ended", none);
    }

    private static void matchIs(EndedByOthers x, String when, int[] due) {
        check.due("match(0), " + when, due[0], x.match(0));
        for (int what = 10; what <= 13; what++) {
            check.due("match(" + what + "), " + when, due[what - 9], x.match(what));
        }
    }

    private static void heardFromNoneToEight() {
        EndedByOthers x = Check.inRoom("ab,b,c,d;sa,sb");
        check.due("forget() of none", 0, x.forget());
        check.due("KINDS when nothing is heard", 31, x.about(0, 7));
        for (int heard = 1; heard <= 7; heard++) {
            check.due("hear " + heard, heard, x.hear(0, 0, 1));
        }
        check.due("KINDS behind seven", 24, x.about(0, 7));
        check.due("hear 8", 8, x.hear(0, 0, 0));
        check.due("KINDS behind eight: the last counts", 0, x.about(0, 7));
        check.due("BEGIN when none are left", EndedByOthers.NONE, x.about(0, 8));
        check.due("hear 9", EndedByOthers.FULL, x.hear(1, 0, 0));
        check.due("KINDS of the other", 31, x.about(1, 7));
        check.due("forget() of eight", 8, x.forget());
        check.due("KINDS when it is forgotten", 31, x.about(0, 7));
        check.due("hear() behind forget()", 1, x.hear(1, 0, 0));
    }

    private static void imageOfNothingAndOfAll() {
        EndedByOthers x = Check.inRoom(SHORTEST);
        check.due("restore(), none kept", EndedByOthers.STATE, x.restore());
        long atFirst = x.digest();
        check.due("image() of nothing", 0, x.image());
        fill(x);
        check.due("restore() to nothing", 0, x.restore());
        check.due("digest() of nothing", atFirst, x.digest());
        fill(x);
        long full = x.digest();
        check.due("image() of all", 8, x.image());
        x.end(7, 0);
        x.forget();
        x.want(0, 3);
        check.due("restore() to all", 8, x.restore());
        check.due("digest() of all", full, x.digest());
        check.due("begin() then", EndedByOthers.FULL, x.begin(0, 0));
        check.due("hear() then", EndedByOthers.FULL, x.hear(0, 0, 0));
        check.due("end() then", 1, x.end(7, 0));
        Check.type(x, SHORTEST);
        check.due("the same room", 2, x.room());
        check.due("restore() since", EndedByOthers.STATE, x.restore());
        check.due("begin() since", 0, x.begin(0, 0));
    }

    /** Eight SENTENCES, the last OPEN and begun by 1, and eight HEARD. */
    private static void fill(EndedByOthers x) {
        for (int sentence = 0; sentence < 7; sentence++) {
            x.begin(0, sentence % 4);
            x.end(sentence, 1);
            x.hear(0, sentence % 4, sentence % 4);
        }
        x.begin(1, 1);
        x.hear(1, 1, 1);
    }

    private static void drawsWrapAround() {
        EndedByOthers x = Check.inRoom("abc,abc,abc,abc;pa,tb,hc");
        int[] seeds = {0, 1, 2, 12345, 65535, 65536, 1 << 30, Integer.MAX_VALUE - 1, Integer.MAX_VALUE};
        int[] times = {1, 2, 59, 60};
        for (int seed : seeds) {
            for (int time : times) {
                check.due("the SEED behind " + time + " from " + seed, seedBehind(seed, 3 * time), x.talks(time, seed, 2));
            }
        }
        check.due("no time", EndedByOthers.OUTSIDE, x.talks(0, 0, 2));
        check.due("61 times", EndedByOthers.OUTSIDE, x.talks(61, 0, 2));
        check.due("a SEED below 0", EndedByOthers.OUTSIDE, x.talks(1, -1, 2));
        check.due("what below 0", EndedByOthers.OUTSIDE, x.talks(1, 0, -1));
        check.due("what above 2", EndedByOthers.OUTSIDE, x.talks(1, 0, 3));
    }

    private static int seedBehind(int seed, int draws) {
        BigInteger next = BigInteger.valueOf(seed);
        for (int draw = 0; draw < draws; draw++) {
            next = next.multiply(BigInteger.valueOf(1103515245L)).add(BigInteger.valueOf(12345L));
            next = next.mod(BigInteger.TWO.pow(31));
        }
        return next.intValueExact();
    }

    /** TALKS are as they would be: more than eight are ENDED, though all SENTENCES are begun and both have one OPEN. */
    private static void talksNeedNoSentence() {
        EndedByOthers x = Check.inRoom("a,b,cd,ef;sa,sb");
        int[] due = {26, 6, 1458640444};
        talksAre(x, "in a new room", due);
        for (int sentence = 0; sentence < 6; sentence++) {
            x.begin(0, 0);
            x.end(sentence, 1);
        }
        x.begin(0, 1);
        x.begin(1, 1);
        long before = x.digest();
        talksAre(x, "when all is full", due);
        check.due("digest() behind talks()", before, x.digest());
    }

    private static void talksAre(EndedByOthers x, String when, int[] due) {
        for (int what = 0; what < 3; what++) {
            check.due("talks(60, 0, " + what + ") " + when, due[what], x.talks(60, 0, what));
        }
    }

    private static void countsAtTheirGreatest() {
        EndedByOthers x = Check.inRoom("a,b,c,d;ta,tb,tc,td");
        for (int sentence = 0; sentence < 8; sentence++) {
            x.begin(sentence % 4, 0);
            x.want((sentence + 1) % 4, sentence % 6);
            x.end(sentence, (sentence + 1) % 4);
            x.hear(sentence % 4, 0, 0);
        }
        check.due("unlike ENDINGS", 6, x.count(4));
        for (int speaker = 0; speaker < 4; speaker++) {
            x.want(speaker, 0);
        }
        for (int i = 0; i < 30; i++) {
            x.letter('a');
        }
        int[] due = {4, 8, 0, 2, 6, 12, 8, 30, 1};
        for (int what = 0; what < due.length; what++) {
            check.due("count(" + what + ") at last", due[what], x.count(what));
        }
        check.due("count(9)", EndedByOthers.OUTSIDE, x.count(9));
        check.due("count(-1)", EndedByOthers.OUTSIDE, x.count(-1));
        EndedByOthers pleased = Check.inRoom("a,a,a,a;sa,sa");
        fill(pleased);
        pleased.end(7, 0);
        check.due("all as WANTED", 8, pleased.count(3));
    }

    /** "as longs, wrapping": with nothing, with a full page, and with all at its greatest, from what the calls tell. */
    private static void digestWrapsAround() {
        EndedByOthers x = new EndedByOthers();
        check.due("digest() of nothing", told(x), x.digest());
        for (int i = 0; i < 30; i++) {
            x.letter(126);
        }
        BigInteger hash = BigInteger.valueOf(1021);
        for (int i = 0; i < 39; i++) {
            int number = i < 30 ? 126 : i == 37 ? 30 : 0;
            hash = hash.multiply(BigInteger.valueOf(31)).add(BigInteger.valueOf(number));
        }
        check.due("digest() of a full page", hash.longValue(), x.digest());
        x.blank();
        Check.type(x, LONGEST);
        x.room();
        check.due("digest() of a new room", told(x), x.digest());
        fill(x);
        check.due("digest() when all is full", told(x), x.digest());
    }

    private static long told(EndedByOthers x) {
        long hash = 1021;
        int speakers = x.count(0);
        for (int opening = 0; speakers > 0 && opening < 4; opening++) {
            hash = 31 * hash + x.fits(opening);
        }
        for (int speaker = 0; speaker < speakers; speaker++) {
            for (int what = 0; what < 9; what++) {
                hash = 31 * hash + x.about(speaker, what);
            }
            for (int opening = 0; opening < 4; opening++) {
                hash = 31 * hash + x.would(speaker, opening);
            }
        }
        for (int i = 0; i < 5 * x.count(1); i++) {
            hash = 31 * hash + x.sentence(i / 5, i % 5);
        }
        for (int what = 9; speakers > 0 && what < 14; what++) {
            hash = 31 * hash + x.match(what == 9 ? 0 : what);
        }
        for (int what = 0; what < 9; what++) {
            hash = 31 * hash + x.count(what);
        }
        return hash;
    }
}

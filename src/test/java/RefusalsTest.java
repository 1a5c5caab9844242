import java.util.ArrayList;
import java.util.List;
import java.util.function.Supplier;
import java.util.function.ToIntFunction;

/** "Refusals, of several the first as told by each call ..; they change nothing": each of them, in each state, alone. */
public final class RefusalsTest {
    private static final Check check = new Check();
    private static final int[] NO_NUMBERS = {-1, -2, -101, 8, 9, 14, 100, Integer.MIN_VALUE, Integer.MAX_VALUE};

    private record Refusal(String call, int due, ToIntFunction<EndedByOthers> answer) { }

    public static void main(String[] args) {
        withoutARoom("new", EndedByOthers::new);
        withoutARoom("typed", () -> Check.typed("ab,b,c,d;sa"));
        withoutARoom("of a full page", () -> fullPage(new EndedByOthers()));
        inARoom("fresh", RefusalsTest::fresh, false);
        inARoom("with some open", RefusalsTest::someOpen, true);
        inARoom("with an image", RefusalsTest::withAnImage, true);
        inARoom("full", RefusalsTest::full, true);
        whenNoneIsKept();
        whenFull();
        theImageStays();
        check.finish("RefusalsTest");
    }

    private static EndedByOthers fresh() {
        return Check.inRoom("ab,cd,ef,ac;sb,he,tf,pa");
    }

    private static EndedByOthers fullPage(EndedByOthers x) {
        for (int i = 0; i < 30; i++) {
            x.letter('a');
        }
        return x;
    }

    /** SENTENCE 0 of 0 is ENDED by 3, SENTENCE 1 of 1 is OPEN. */
    private static EndedByOthers someOpen() {
        EndedByOthers x = fresh();
        x.begin(0, 0);
        x.begin(1, 1);
        x.end(0, 3);
        x.hear(2, 1, 5);
        x.letter('a');
        return x;
    }

    private static EndedByOthers withAnImage() {
        EndedByOthers x = someOpen();
        x.image();
        x.forget();
        x.want(0, 5);
        x.begin(2, 0);
        return x;
    }

    private static EndedByOthers full() {
        EndedByOthers x = someOpen();
        for (int sentence = 2; sentence < 8; sentence++) {
            x.begin(0, sentence % 4);
            x.end(sentence, 2);
            x.hear(3, sentence % 4, sentence % 6);
        }
        x.hear(0, 0, -1);
        return fullPage(x);
    }

    private static void hold(String state, Supplier<EndedByOthers> made, List<Refusal> refusals) {
        for (Refusal refusal : refusals) {
            EndedByOthers x = made.get();
            long before = x.digest();
            check.due(refusal.call + ", " + state, refusal.due, refusal.answer.applyAsInt(x));
            check.due("digest() behind " + refusal.call + ", " + state, before, x.digest());
        }
    }

    private static void addOfAnyState(List<Refusal> all) {
        int outside = EndedByOthers.OUTSIDE;
        int unknown = EndedByOthers.UNKNOWN;
        for (int code : new int[] {0, -1, 127, 128, 256 + 'a', 65536 + 'a', Integer.MIN_VALUE, Integer.MAX_VALUE}) {
            all.add(new Refusal("letter(" + code + ")", outside, x -> x.letter(code)));
        }
        all.add(new Refusal("room()", EndedByOthers.STATE, EndedByOthers::room));
        for (int no : NO_NUMBERS) {
            all.add(new Refusal("fits(" + no + ")", unknown, x -> x.fits(no)));
            all.add(new Refusal("about(" + no + ", 0)", unknown, x -> x.about(no, 0)));
            all.add(new Refusal("about(" + no + ", 9)", unknown, x -> x.about(no, 9)));
            all.add(new Refusal("as(" + no + ", 0)", unknown, x -> x.as(no, 0)));
            all.add(new Refusal("as(" + no + ", 5)", unknown, x -> x.as(no, 5)));
            all.add(new Refusal("want(" + no + ", 0)", unknown, x -> x.want(no, 0)));
            all.add(new Refusal("want(" + no + ", 6)", unknown, x -> x.want(no, 6)));
            all.add(new Refusal("would(" + no + ", 0)", unknown, x -> x.would(no, 0)));
            all.add(new Refusal("would(0, " + no + ")", unknown, x -> x.would(0, no)));
            all.add(new Refusal("begin(" + no + ", 0)", unknown, x -> x.begin(no, 0)));
            all.add(new Refusal("begin(1, " + no + ")", unknown, x -> x.begin(1, no)));
            all.add(new Refusal("end(" + no + ", 0)", unknown, x -> x.end(no, 0)));
            all.add(new Refusal("end(0, " + no + ")", unknown, x -> x.end(0, no)));
            all.add(new Refusal("sentence(" + no + ", 0)", unknown, x -> x.sentence(no, 0)));
            all.add(new Refusal("sentence(" + no + ", 5)", unknown, x -> x.sentence(no, 5)));
            all.add(new Refusal("hear(" + no + ", 0, 0)", unknown, x -> x.hear(no, 0, 0)));
            all.add(new Refusal("hear(0, " + no + ", 0)", unknown, x -> x.hear(0, no, 0)));
            all.add(new Refusal("hear(" + no + ", 4, 6)", unknown, x -> x.hear(no, 4, 6)));
        }
        for (int what : new int[] {-1, 1, 9, 14, 100, Integer.MIN_VALUE, Integer.MAX_VALUE}) {
            all.add(new Refusal("match(" + what + ")", outside, x -> x.match(what)));
        }
        for (int what : new int[] {-1, 9, 100, Integer.MIN_VALUE, Integer.MAX_VALUE}) {
            all.add(new Refusal("count(" + what + ")", outside, x -> x.count(what)));
            all.add(new Refusal("talks(1, 0, " + what + ")", outside, x -> x.talks(1, 0, what)));
        }
        all.add(new Refusal("talks(1, 0, 3)", outside, x -> x.talks(1, 0, 3)));
        for (int times : new int[] {0, -1, 61, Integer.MIN_VALUE, Integer.MAX_VALUE}) {
            all.add(new Refusal("talks(" + times + ", 0, 0)", outside, x -> x.talks(times, 0, 0)));
        }
        all.add(new Refusal("talks(1, -1, 0)", outside, x -> x.talks(1, -1, 0)));
        all.add(new Refusal("talks(1, MIN, 0)", outside, x -> x.talks(1, Integer.MIN_VALUE, 0)));
    }

    private static void withoutARoom(String state, Supplier<EndedByOthers> made) {
        List<Refusal> all = new ArrayList<>();
        addOfAnyState(all);
        int unknown = EndedByOthers.UNKNOWN;
        for (int number = 0; number < 4; number++) {
            int any = number;
            all.add(new Refusal("fits(" + any + ")", unknown, x -> x.fits(any)));
            all.add(new Refusal("about(" + any + ", 0)", unknown, x -> x.about(any, 0)));
            all.add(new Refusal("as(" + any + ", 0)", unknown, x -> x.as(any, 0)));
            all.add(new Refusal("want(" + any + ", 0)", unknown, x -> x.want(any, 0)));
            all.add(new Refusal("would(" + any + ", 0)", unknown, x -> x.would(any, 0)));
            all.add(new Refusal("begin(" + any + ", 0)", unknown, x -> x.begin(any, 0)));
            all.add(new Refusal("end(0, " + any + ")", unknown, x -> x.end(0, any)));
            all.add(new Refusal("sentence(" + any + ", 0)", unknown, x -> x.sentence(any, 0)));
            all.add(new Refusal("hear(" + any + ", 0, 0)", unknown, x -> x.hear(any, 0, 0)));
            all.add(new Refusal("match(1" + any + ")", EndedByOthers.STATE, x -> x.match(10 + any)));
        }
        all.add(new Refusal("match(0)", EndedByOthers.STATE, x -> x.match(0)));
        all.add(new Refusal("talks(1, 0, 0)", EndedByOthers.STATE, x -> x.talks(1, 0, 0)));
        all.add(new Refusal("talks(60, MAX, 2)", EndedByOthers.STATE, x -> x.talks(60, Integer.MAX_VALUE, 2)));
        all.add(new Refusal("image()", EndedByOthers.STATE, EndedByOthers::image));
        all.add(new Refusal("restore()", EndedByOthers.STATE, EndedByOthers::restore));
        hold(state, made, all);
    }

    private static void inARoom(String state, Supplier<EndedByOthers> made, boolean isBegun) {
        List<Refusal> all = new ArrayList<>();
        addOfAnyState(all);
        int outside = EndedByOthers.OUTSIDE;
        for (int no : NO_NUMBERS) {
            boolean isWhat = no == 8;
            if (!isWhat) {
                all.add(new Refusal("about(0, " + no + ")", outside, x -> x.about(0, no)));
            }
            all.add(new Refusal("as(0, " + no + ")", outside, x -> x.as(0, no)));
            all.add(new Refusal("want(0, " + no + ")", outside, x -> x.want(0, no)));
            boolean leftOpen = no == EndedByOthers.NONE;
            if (!leftOpen) {
                all.add(new Refusal("hear(0, 0, " + no + ")", outside, x -> x.hear(0, 0, no)));
            }
            if (isBegun) {
                all.add(new Refusal("sentence(0, " + no + ")", outside, x -> x.sentence(0, no)));
            }
        }
        if (isBegun) {
            addOfSomeOpen(all);
        }
        hold(state, made, all);
    }

    private static void addOfSomeOpen(List<Refusal> all) {
        int state = EndedByOthers.STATE;
        for (int speaker = 0; speaker < 4; speaker++) {
            int any = speaker;
            all.add(new Refusal("end(0, " + any + "), ENDED", state, x -> x.end(0, any)));
            all.add(new Refusal("begin(1, " + any + "), one of his open", state, x -> x.begin(1, any)));
        }
        all.add(new Refusal("end(1, 1), his own", state, x -> x.end(1, 1)));
        all.add(new Refusal("end(0, 4), ENDED", EndedByOthers.UNKNOWN, x -> x.end(0, 4)));
        all.add(new Refusal("begin(1, 4), one of his open", EndedByOthers.UNKNOWN, x -> x.begin(1, 4)));
        all.add(new Refusal("begin(4, 0)", EndedByOthers.UNKNOWN, x -> x.begin(4, 0)));
        all.add(new Refusal("sentence(0, 5)", EndedByOthers.OUTSIDE, x -> x.sentence(0, 5)));
    }

    private static void whenFull() {
        List<Refusal> all = new ArrayList<>();
        int full = EndedByOthers.FULL;
        all.add(new Refusal("letter(a)", full, x -> x.letter('a')));
        all.add(new Refusal("letter(1)", full, x -> x.letter(1)));
        all.add(new Refusal("letter(126)", full, x -> x.letter(126)));
        all.add(new Refusal("begin(0, 0)", full, x -> x.begin(0, 0)));
        all.add(new Refusal("begin(3, 3)", full, x -> x.begin(3, 3)));
        all.add(new Refusal("begin(1, 0), one of his open", EndedByOthers.STATE, x -> x.begin(1, 0)));
        all.add(new Refusal("hear(0, 0, 0)", full, x -> x.hear(0, 0, 0)));
        all.add(new Refusal("hear(3, 3, NONE)", full, x -> x.hear(3, 3, EndedByOthers.NONE)));
        all.add(new Refusal("hear(0, 0, 6)", EndedByOthers.OUTSIDE, x -> x.hear(0, 0, 6)));
        all.add(new Refusal("sentence(8, 0)", EndedByOthers.UNKNOWN, x -> x.sentence(8, 0)));
        all.add(new Refusal("end(8, 0)", EndedByOthers.UNKNOWN, x -> x.end(8, 0)));
        hold("full", RefusalsTest::full, all);
    }

    private static void whenNoneIsKept() {
        Refusal refusal = new Refusal("restore(), none kept", EndedByOthers.STATE, EndedByOthers::restore);
        hold("fresh", RefusalsTest::fresh, List.of(refusal));
        hold("with some open", RefusalsTest::someOpen, List.of(refusal));
        hold("full", RefusalsTest::full, List.of(refusal));
    }

    /** What a digest does not tell: behind refusals of each kind the IMAGE is as it was kept. */
    private static void theImageStays() {
        EndedByOthers x = withAnImage();
        long now = x.digest();
        x.restore();
        long kept = x.digest();
        EndedByOthers y = withAnImage();
        List<Refusal> all = new ArrayList<>();
        addOfSomeOpen(all);
        all.add(new Refusal("letter(0)", EndedByOthers.OUTSIDE, z -> z.letter(0)));
        all.add(new Refusal("room()", EndedByOthers.STATE, EndedByOthers::room));
        all.add(new Refusal("want(0, 6)", EndedByOthers.OUTSIDE, z -> z.want(0, 6)));
        all.add(new Refusal("hear(0, 0, 6)", EndedByOthers.OUTSIDE, z -> z.hear(0, 0, 6)));
        all.add(new Refusal("talks(0, 0, 0)", EndedByOthers.OUTSIDE, z -> z.talks(0, 0, 0)));
        for (Refusal refusal : all) {
            check.due(refusal.call + ", one behind the other", refusal.due, refusal.answer.applyAsInt(y));
        }
        check.due("digest() behind them all", now, y.digest());
        check.due("restore() behind them all", 2, y.restore());
        check.due("digest() of the image", kept, y.digest());
    }
}

/**
 * A room in which no one may end his own sentence: whoever begins to speak is finished by another.
 * Every refusal is an answer below -100, and changes nothing.
 */
public final class EndedByOthers {
    public static final int NONE = -1, UNKNOWN = -101, OUTSIDE = -102, STATE = -103, FULL = -104;

    private static final int OPENINGS = 4;
    private static final int ENDINGS = 6;
    private static final int MOST_FITTING = 3;
    private static final int FEWEST_SPEAKERS = 2;
    private static final int MOST_SPEAKERS = 4;
    private static final int MOST_SENTENCES = 8;
    private static final int MOST_HEARD = 8;
    private static final int MOST_LETTERS = 30;
    private static final int GREATEST_CODE = 126;
    private static final int MOST_TALKS = 60;

    private static final int SPEAKER = 0;
    private static final int SHY = 1;
    private static final int TYRANT = 2;
    private static final int CHILD = 3;
    private static final int POET = 4;
    private static final int KINDS = 5;
    private static final String KIND_LETTERS = "shtcp";
    private static final int NOTHING_USED = 0;

    private static final int ABOUT_TELLS = 9;
    private static final int SENTENCE_TELLS = 5;
    private static final int COUNT_TELLS = 9;
    private static final int TALKS_TELL = 3;
    private static final int FIRST_MATCHED = 10;

    private final Page page;
    private final Reader reader;
    private final Room room;
    private final Scene scene;
    private final Scene image;
    private final Matching matching;
    private final Trial trial;
    private boolean imageKept;
    private int roomsRead;

    public EndedByOthers() {
        page = new Page();
        reader = new Reader();
        room = new Room();
        scene = new Scene();
        image = new Scene();
        matching = new Matching();
        trial = new Trial();
        imageKept = false;
        roomsRead = 0;
    }

    // ---- the room

    public int letter(int code) {
        if (code < 1 || code > GREATEST_CODE) {
            return OUTSIDE;
        }
        if (page.length >= MOST_LETTERS) {
            return FULL;
        }
        page.add(code);
        return page.length;
    }

    public int blank() {
        int letters = page.length;
        page.length = 0;
        return letters;
    }

    public int fault() {
        return reader.read(page);
    }

    public int room() {
        if (reader.read(page) < page.length || !reader.hasWholeRoom()) {
            return STATE;
        }
        room.copyFrom(reader.draft);
        scene.start(room.wants);
        imageKept = false;
        roomsRead++;
        page.length = 0;
        return room.speakers;
    }

    public int fits(int opening) {
        return room.speakers > 0 && isOpening(opening) ? room.fitting[opening] : UNKNOWN;
    }

    // ---- speakers

    public int about(int speaker, int what) {
        if (!isSpeaker(speaker)) {
            return UNKNOWN;
        }
        switch (what) {
            case 0:
                return room.kinds[speaker];
            case 1:
                return scene.wants[speaker];
            case 2:
                return scene.usedBy(speaker);
            case 3:
                return scene.openOf(speaker);
            case 4:
                return scene.howManyBegunBy(speaker);
            case 5:
                return scene.howManyEndedBy(speaker);
            case 6:
                return sureOpening(speaker);
            case 7:
                return possibleKinds(speaker);
            case 8:
                return tellingOpening(speaker, possibleKinds(speaker));
            default:
                return OUTSIDE;
        }
    }

    public int as(int speaker, int kind) {
        if (!isSpeaker(speaker)) {
            return UNKNOWN;
        }
        if (kind < 0 || kind >= KINDS) {
            return OUTSIDE;
        }
        return isOfKind(room.kinds[speaker], kind) ? speaker : NONE;
    }

    public int want(int speaker, int ending) {
        if (!isSpeaker(speaker)) {
            return UNKNOWN;
        }
        if (!isEnding(ending)) {
            return OUTSIDE;
        }
        int before = scene.wants[speaker];
        scene.wants[speaker] = ending;
        scene.changes++;
        return before;
    }

    public int would(int speaker, int opening) {
        if (!isSpeaker(speaker) || !isOpening(opening)) {
            return UNKNOWN;
        }
        return endingNow(speaker, opening);
    }

    // ---- sentences

    public int begin(int speaker, int opening) {
        if (!isSpeaker(speaker) || !isOpening(opening)) {
            return UNKNOWN;
        }
        if (scene.openOf(speaker) != NONE) {
            return STATE;
        }
        if (scene.sentences >= MOST_SENTENCES) {
            return FULL;
        }
        return scene.addSentence(speaker, opening);
    }

    public int end(int sentence, int speaker) {
        if (!isSentence(sentence) || !isSpeaker(speaker)) {
            return UNKNOWN;
        }
        if (!scene.isOpen(sentence) || scene.beginners[sentence] == speaker) {
            return STATE;
        }
        int ending = endingNow(speaker, scene.openings[sentence]);
        if (ending != NONE) {
            scene.enders[sentence] = speaker;
            scene.endings[sentence] = ending;
        }
        return ending;
    }

    public int sentence(int sentence, int what) {
        if (!isSentence(sentence)) {
            return UNKNOWN;
        }
        switch (what) {
            case 0:
                return scene.beginners[sentence];
            case 1:
                return scene.openings[sentence];
            case 2:
                return scene.enders[sentence];
            case 3:
                return scene.endings[sentence];
            case 4:
                return scene.isAsWanted(sentence) ? 1 : 0;
            default:
                return OUTSIDE;
        }
    }

    // ---- what would be

    public int match(int what) {
        boolean asksHowMany = what == 0;
        boolean asksWhich = what >= FIRST_MATCHED && what < FIRST_MATCHED + MOST_SPEAKERS;
        if (!asksHowMany && !asksWhich) {
            return OUTSIDE;
        }
        if (room.speakers == 0) {
            return STATE;
        }
        findPleasing();
        matching.solve();
        return asksHowMany ? matching.ended : matching.picks[what - FIRST_MATCHED];
    }

    // ---- what is heard

    public int hear(int speaker, int opening, int ending) {
        if (!isSpeaker(speaker) || !isOpening(opening)) {
            return UNKNOWN;
        }
        if (!isEnding(ending) && ending != NONE) {
            return OUTSIDE;
        }
        if (scene.heard >= MOST_HEARD) {
            return FULL;
        }
        scene.addHeard(speaker, opening, ending);
        return scene.heard;
    }

    public int forget() {
        int heard = scene.heard;
        scene.heard = 0;
        return heard;
    }

    public int talks(int times, int seed, int what) {
        if (times < 1 || times > MOST_TALKS || seed < 0 || what < 0 || what >= TALKS_TELL) {
            return OUTSIDE;
        }
        if (room.speakers == 0) {
            return STATE;
        }
        trial.run(room, scene, times, seed);
        switch (what) {
            case 0:
                return trial.ended;
            case 1:
                return trial.asWanted;
            default:
                return (int) trial.seed;
        }
    }

    // ---- what is told of all

    public int image() {
        if (room.speakers == 0) {
            return STATE;
        }
        image.copyFrom(scene);
        imageKept = true;
        return image.sentences;
    }

    public int restore() {
        if (!imageKept) {
            return STATE;
        }
        scene.copyFrom(image);
        return scene.sentences;
    }

    public int count(int what) {
        switch (what) {
            case 0:
                return room.speakers;
            case 1:
                return scene.sentences;
            case 2:
                return scene.howManyOpen();
            case 3:
                return scene.howManyAsWanted();
            case 4:
                return scene.howManyUnlikeEndings();
            case 5:
                return scene.changes;
            case 6:
                return scene.heard;
            case 7:
                return page.length;
            case 8:
                return roomsRead;
            default:
                return OUTSIDE;
        }
    }

    public long digest() {
        long hash = 1021L;
        for (int opening = 0; room.speakers > 0 && opening < OPENINGS; opening++) {
            hash = mixed(hash, room.fitting[opening]);
        }
        for (int speaker = 0; speaker < room.speakers; speaker++) {
            for (int what = 0; what < ABOUT_TELLS; what++) {
                hash = mixed(hash, about(speaker, what));
            }
            for (int opening = 0; opening < OPENINGS; opening++) {
                hash = mixed(hash, endingNow(speaker, opening));
            }
        }
        for (int sentence = 0; sentence < scene.sentences; sentence++) {
            for (int what = 0; what < SENTENCE_TELLS; what++) {
                hash = mixed(hash, sentence(sentence, what));
            }
        }
        if (room.speakers > 0) {
            hash = mixed(hash, match(0));
            for (int speaker = 0; speaker < MOST_SPEAKERS; speaker++) {
                hash = mixed(hash, match(FIRST_MATCHED + speaker));
            }
        }
        for (int place = 0; place < page.length; place++) {
            hash = mixed(hash, page.codes[place]);
        }
        for (int what = 0; what < COUNT_TELLS; what++) {
            hash = mixed(hash, count(what));
        }
        return hash;
    }

    private static long mixed(long hash, long number) {
        return 31L * hash + number;
    }

    // ---- what a number names

    private boolean isSpeaker(int speaker) {
        return speaker >= 0 && speaker < room.speakers;
    }

    private boolean isSentence(int sentence) {
        return sentence >= 0 && sentence < scene.sentences;
    }

    private static boolean isOpening(int opening) {
        return opening >= 0 && opening < OPENINGS;
    }

    private static boolean isEnding(int ending) {
        return ending >= 0 && ending < ENDINGS;
    }

    // ---- how the kinds end

    private static boolean isOfKind(int own, int kind) {
        return kind == SPEAKER || kind == own || (kind == CHILD && own == POET);
    }

    /** By which ENDING one of a KIND ENDS an OPENING that these bits FIT; NONE: he leaves it OPEN. */
    private static int endingBy(int kind, int fitting, int wanted, int used) {
        int fresh = fitting & ~used;
        switch (kind) {
            case SHY:
                return has(fitting, wanted) ? wanted : NONE;
            case TYRANT:
                return wanted;
            case CHILD:
                return greatest(fitting);
            case POET:
                return greatest(fresh != 0 ? fresh : fitting);
            default:
                return has(fitting, wanted) ? wanted : least(fitting);
        }
    }

    private int endingNow(int speaker, int opening) {
        return endingBy(room.kinds[speaker], room.fitting[opening], scene.wants[speaker], scene.usedBy(speaker));
    }

    private static boolean has(int bits, int place) {
        return (bits & (1 << place)) != 0;
    }

    private static int least(int bits) {
        for (int ending = 0; ending < ENDINGS; ending++) {
            if ((bits & (1 << ending)) != 0) {
                return ending;
            }
        }
        return NONE;
    }

    private static int greatest(int bits) {
        for (int ending = ENDINGS - 1; ending >= 0; ending--) {
            if ((bits & (1 << ending)) != 0) {
                return ending;
            }
        }
        return NONE;
    }

    // ---- SURE

    private int sureOpening(int speaker) {
        for (int opening = 0; opening < OPENINGS; opening++) {
            if (isSure(speaker, opening)) {
                return opening;
            }
        }
        return NONE;
    }

    private boolean isSure(int speaker, int opening) {
        boolean oneEnds = false;
        for (int other = 0; other < room.speakers; other++) {
            int ending = other == speaker ? NONE : endingNow(other, opening);
            if (ending != NONE && ending != scene.wants[speaker]) {
                return false;
            }
            oneEnds = oneEnds || ending != NONE;
        }
        return oneEnds;
    }

    // ---- WHICH KINDS, and BEGIN

    private int possibleKinds(int speaker) {
        int kinds = 0;
        for (int kind = 0; kind < KINDS; kind++) {
            if (agreesWithHeard(speaker, kind)) {
                kinds |= 1 << kind;
            }
        }
        return kinds;
    }

    private boolean agreesWithHeard(int speaker, int kind) {
        for (int i = 0; i < scene.heard; i++) {
            if (scene.heardSpeakers[i] == speaker) {
                int fitting = room.fitting[scene.heardOpenings[i]];
                if (endingBy(kind, fitting, scene.wants[speaker], NOTHING_USED) != scene.heardEndings[i]) {
                    return false;
                }
            }
        }
        return true;
    }

    private int tellingOpening(int speaker, int kinds) {
        if (kinds == 0) {
            return NONE;
        }
        int best = NONE;
        int fewest = KINDS + 1;
        for (int opening = 0; opening < OPENINGS; opening++) {
            int left = mostKindsLeft(speaker, opening, kinds);
            if (left < fewest) {
                fewest = left;
                best = opening;
            }
        }
        return best;
    }

    /** That he leaves it OPEN tells of his KIND as an ENDING does, so it counts as one more way. */
    private int mostKindsLeft(int speaker, int opening, int kinds) {
        int fitting = room.fitting[opening];
        int wanted = scene.wants[speaker];
        int most = 0;
        for (int way = NONE; way < ENDINGS; way++) {
            int left = 0;
            for (int kind = 0; kind < KINDS; kind++) {
                if (has(kinds, kind) && endingBy(kind, fitting, wanted, NOTHING_USED) == way) {
                    left++;
                }
            }
            most = Math.max(most, left);
        }
        return most;
    }

    // ---- MATCH

    private void findPleasing() {
        for (int speaker = 0; speaker < MOST_SPEAKERS; speaker++) {
            matching.pleasing[speaker] = 0;
            for (int sentence = 0; isSpeaker(speaker) && sentence < scene.sentences; sentence++) {
                if (wouldPlease(speaker, sentence)) {
                    matching.pleasing[speaker] |= 1 << sentence;
                }
            }
        }
    }

    private boolean wouldPlease(int speaker, int sentence) {
        int beginner = scene.beginners[sentence];
        return scene.isOpen(sentence) && beginner != speaker
                && endingNow(speaker, scene.openings[sentence]) == scene.wants[beginner];
    }

    /** THE PAGE. */
    private static final class Page {
        final int[] codes = new int[MOST_LETTERS];
        int length = 0;

        void add(int code) {
            if (length < MOST_LETTERS) {
                codes[length] = code;
                length++;
            }
        }
    }

    /** THE ROOM as its text tells it; it has no SPEAKERS until one was read. */
    private static final class Room {
        final int[] fitting = new int[OPENINGS];
        final int[] kinds = new int[MOST_SPEAKERS];
        final int[] wants = new int[MOST_SPEAKERS];
        int speakers = 0;

        void clear() {
            for (int opening = 0; opening < OPENINGS; opening++) {
                fitting[opening] = 0;
            }
            speakers = 0;
        }

        void copyFrom(Room other) {
            System.arraycopy(other.fitting, 0, fitting, 0, OPENINGS);
            System.arraycopy(other.kinds, 0, kinds, 0, MOST_SPEAKERS);
            System.arraycopy(other.wants, 0, wants, 0, MOST_SPEAKERS);
            speakers = other.speakers;
        }
    }

    /** Reads THE PAGE letter by letter into a draft of a ROOM. */
    private static final class Reader {
        final Room draft = new Room();
        int opening = 0;
        int lettersOfPart = 0;
        int lastCode = 0;

        /** The place of the first letter that no ROOM has there; the PAGE's length, if there is none. */
        int read(Page page) {
            draft.clear();
            opening = 0;
            startPart();
            for (int place = 0; place < page.length; place++) {
                if (!takes(page.codes[place])) {
                    return place;
                }
            }
            return page.length;
        }

        boolean hasWholeRoom() {
            return draft.speakers >= FEWEST_SPEAKERS && lettersOfPart == 2;
        }

        private boolean takes(int code) {
            return opening < OPENINGS ? takesInOpening(code) : takesInSpeaker(code);
        }

        private boolean takesInOpening(int code) {
            int separator = opening < OPENINGS - 1 ? ',' : ';';
            if (lettersOfPart > 0 && code == separator) {
                opening++;
                startPart();
                return true;
            }
            if (lettersOfPart >= MOST_FITTING || !isEnding(code - 'a') || code <= lastCode) {
                return false;
            }
            draft.fitting[opening] |= 1 << (code - 'a');
            lettersOfPart++;
            lastCode = code;
            return true;
        }

        private boolean takesInSpeaker(int code) {
            switch (lettersOfPart) {
                case 0:
                    return takesKind(KIND_LETTERS.indexOf((char) code));
                case 1:
                    return takesWant(code - 'a');
                default:
                    return takesNextSpeaker(code);
            }
        }

        private boolean takesKind(int kind) {
            if (kind < 0 || draft.speakers >= MOST_SPEAKERS) {
                return false;
            }
            draft.kinds[draft.speakers] = kind;
            lettersOfPart++;
            return true;
        }

        private boolean takesWant(int ending) {
            if (!isEnding(ending) || draft.speakers >= MOST_SPEAKERS) {
                return false;
            }
            draft.wants[draft.speakers] = ending;
            draft.speakers++;
            lettersOfPart++;
            return true;
        }

        private boolean takesNextSpeaker(int code) {
            if (code != ',' || draft.speakers >= MOST_SPEAKERS) {
                return false;
            }
            startPart();
            return true;
        }

        private void startPart() {
            lettersOfPart = 0;
            lastCode = 0;
        }
    }

    /** All that an IMAGE keeps. What one used is told by the SENTENCES that he ENDED. */
    private static final class Scene {
        final int[] wants = new int[MOST_SPEAKERS];
        final int[] beginners = new int[MOST_SENTENCES];
        final int[] openings = new int[MOST_SENTENCES];
        final int[] enders = new int[MOST_SENTENCES];
        final int[] endings = new int[MOST_SENTENCES];
        int sentences = 0;
        final int[] heardSpeakers = new int[MOST_HEARD];
        final int[] heardOpenings = new int[MOST_HEARD];
        final int[] heardEndings = new int[MOST_HEARD];
        int heard = 0;
        int changes = 0;

        void start(int[] firstWants) {
            System.arraycopy(firstWants, 0, wants, 0, MOST_SPEAKERS);
            sentences = 0;
            heard = 0;
            changes = 0;
        }

        void copyFrom(Scene other) {
            System.arraycopy(other.wants, 0, wants, 0, MOST_SPEAKERS);
            System.arraycopy(other.beginners, 0, beginners, 0, MOST_SENTENCES);
            System.arraycopy(other.openings, 0, openings, 0, MOST_SENTENCES);
            System.arraycopy(other.enders, 0, enders, 0, MOST_SENTENCES);
            System.arraycopy(other.endings, 0, endings, 0, MOST_SENTENCES);
            System.arraycopy(other.heardSpeakers, 0, heardSpeakers, 0, MOST_HEARD);
            System.arraycopy(other.heardOpenings, 0, heardOpenings, 0, MOST_HEARD);
            System.arraycopy(other.heardEndings, 0, heardEndings, 0, MOST_HEARD);
            sentences = other.sentences;
            heard = other.heard;
            changes = other.changes;
        }

        int addSentence(int speaker, int opening) {
            int added = sentences;
            if (added < MOST_SENTENCES) {
                beginners[added] = speaker;
                openings[added] = opening;
                enders[added] = NONE;
                endings[added] = NONE;
                sentences++;
            }
            return added;
        }

        void addHeard(int speaker, int opening, int ending) {
            if (heard < MOST_HEARD) {
                heardSpeakers[heard] = speaker;
                heardOpenings[heard] = opening;
                heardEndings[heard] = ending;
                heard++;
            }
        }

        boolean isOpen(int sentence) {
            return enders[sentence] == NONE;
        }

        boolean isAsWanted(int sentence) {
            return !isOpen(sentence) && endings[sentence] == wants[beginners[sentence]];
        }

        int openOf(int speaker) {
            for (int sentence = 0; sentence < sentences; sentence++) {
                if (beginners[sentence] == speaker && isOpen(sentence)) {
                    return sentence;
                }
            }
            return NONE;
        }

        int usedBy(int speaker) {
            int used = 0;
            for (int sentence = 0; sentence < sentences; sentence++) {
                if (enders[sentence] == speaker) {
                    used |= 1 << endings[sentence];
                }
            }
            return used;
        }

        int howManyBegunBy(int speaker) {
            int begun = 0;
            for (int sentence = 0; sentence < sentences; sentence++) {
                begun += beginners[sentence] == speaker ? 1 : 0;
            }
            return begun;
        }

        int howManyEndedBy(int speaker) {
            int ended = 0;
            for (int sentence = 0; sentence < sentences; sentence++) {
                ended += enders[sentence] == speaker ? 1 : 0;
            }
            return ended;
        }

        int howManyOpen() {
            return howManyEndedBy(NONE);
        }

        int howManyAsWanted() {
            int pleased = 0;
            for (int sentence = 0; sentence < sentences; sentence++) {
                pleased += isAsWanted(sentence) ? 1 : 0;
            }
            return pleased;
        }

        int howManyUnlikeEndings() {
            int used = 0;
            for (int speaker = 0; speaker < MOST_SPEAKERS; speaker++) {
                used |= usedBy(speaker);
            }
            return Integer.bitCount(used);
        }
    }

    /** Who should END which SENTENCE, when of each SPEAKER it is known which he would END as WANTED. */
    private static final class Matching {
        final int[] pleasing = new int[MOST_SPEAKERS];
        final int[] picks = new int[MOST_SPEAKERS];
        int ended = 0;

        void solve() {
            ended = mostFrom(pleasing, 0, 0);
            int taken = 0;
            for (int speaker = 0; speaker < MOST_SPEAKERS; speaker++) {
                picks[speaker] = firstBestPick(speaker, taken);
                if (picks[speaker] != NONE) {
                    taken |= 1 << picks[speaker];
                }
            }
        }

        private int firstBestPick(int speaker, int taken) {
            int most = mostFrom(pleasing, speaker, taken);
            if (mostFrom(pleasing, speaker + 1, taken) == most) {
                return NONE;
            }
            int free = pleasing[speaker] & ~taken;
            for (int sentence = 0; sentence < MOST_SENTENCES; sentence++) {
                if (has(free, sentence) && 1 + mostFrom(pleasing, speaker + 1, taken | (1 << sentence)) == most) {
                    return sentence;
                }
            }
            return NONE;
        }

        /** How many this SPEAKER and those behind him can END, if these are taken; four levels deep at most. */
        private static int mostFrom(int[] pleasing, int speaker, int taken) {
            if (speaker < 0 || speaker >= pleasing.length) {
                return 0;
            }
            int most = mostFrom(pleasing, speaker + 1, taken);
            int free = pleasing[speaker] & ~taken;
            for (int sentence = 0; sentence < MOST_SENTENCES; sentence++) {
                if (has(free, sentence)) {
                    most = Math.max(most, 1 + mostFrom(pleasing, speaker + 1, taken | (1 << sentence)));
                }
            }
            return most;
        }
    }

    /** TALKS as they would be: nothing of the SCENE changes by them. */
    private static final class Trial {
        final int[] used = new int[MOST_SPEAKERS];
        long seed = 0;
        int ended = 0;
        int asWanted = 0;

        void run(Room room, Scene scene, int times, int firstSeed) {
            seed = firstSeed;
            ended = 0;
            asWanted = 0;
            for (int speaker = 0; speaker < MOST_SPEAKERS; speaker++) {
                used[speaker] = scene.usedBy(speaker);
            }
            for (int time = 0; time < times; time++) {
                talkOnce(room, scene);
            }
        }

        private void talkOnce(Room room, Scene scene) {
            int beginner = draw(room.speakers);
            int opening = draw(OPENINGS);
            int ender = draw(room.speakers);
            if (ender == beginner) {
                return;
            }
            int ending = endingBy(room.kinds[ender], room.fitting[opening], scene.wants[ender], used[ender]);
            if (ending == NONE) {
                return;
            }
            used[ender] |= 1 << ending;
            ended++;
            asWanted += ending == scene.wants[beginner] ? 1 : 0;
        }

        private int draw(int howMany) {
            seed = (1103515245L * seed + 12345L) % 2147483648L;
            return howMany < 1 ? 0 : (int) (seed / 65536L % howMany);
        }
    }
}

import java.util.ArrayList;
import java.util.List;
import java.util.TreeSet;
import java.util.regex.Matcher;
import java.util.regex.Pattern;

/** The document once more, by other means: patterns, sets and trying everything. ModelTest holds the class against it. */
final class Model {
    private static final int NONE = -1, UNKNOWN = -101, OUTSIDE = -102, STATE = -103, FULL = -104;
    private static final String FITTING = "(?=[a-f])a?b?c?d?e?f?(?<![a-f]{4})";
    private static final Pattern WHOLE = Pattern.compile(
            FITTING + "," + FITTING + "," + FITTING + "," + FITTING + ";[shtcp][a-f](,[shtcp][a-f]){1,3}");

    private record Sentence(int beginner, int opening, int ender, int ending) { }

    private record Heard(int speaker, int opening, int ending) { }

    private static final class Kept {
        List<Integer> wants = new ArrayList<>();
        List<TreeSet<Integer>> used = new ArrayList<>();
        List<Sentence> sentences = new ArrayList<>();
        List<Heard> heard = new ArrayList<>();
        int changes = 0;

        Kept copy() {
            Kept copy = new Kept();
            copy.wants.addAll(wants);
            for (TreeSet<Integer> set : used) {
                copy.used.add(new TreeSet<>(set));
            }
            copy.sentences.addAll(sentences);
            copy.heard.addAll(heard);
            copy.changes = changes;
            return copy;
        }
    }

    private String page = "";
    private final List<TreeSet<Integer>> fits = new ArrayList<>();
    private final List<Integer> kinds = new ArrayList<>();
    private Kept kept = new Kept();
    private Kept image = null;
    private int rooms = 0;

    int letter(int code) {
        if (code < 1 || code > 126) {
            return OUTSIDE;
        }
        if (page.length() == 30) {
            return FULL;
        }
        page += (char) code;
        return page.length();
    }

    int blank() {
        int had = page.length();
        page = "";
        return had;
    }

    /** A text is the head of a ROOM, if the matcher runs out of letters before it says no. */
    int fault() {
        for (int i = 1; i <= page.length(); i++) {
            Matcher matcher = WHOLE.matcher(page.substring(0, i));
            if (!matcher.matches() && !matcher.hitEnd()) {
                return i - 1;
            }
            if (!matcher.matches() && !canGoOn(page.substring(0, i))) {
                return i - 1;
            }
        }
        return page.length();
    }

    private static boolean canGoOn(String head) {
        String[] tails = {"", "a", "b", "c", "d", "e", "f", "f,", "f;", ",", ";", "s", "sa"};
        String[] rests = {"", ",a,a,a;sa,sa", ",a,a;sa,sa", ",a;sa,sa", ";sa,sa", "sa,sa", "a,sa", ",sa", "sa", "a,a,a;sa,sa",
            "a,a;sa,sa", "a;sa,sa"};
        for (String tail : tails) {
            for (String rest : rests) {
                if (WHOLE.matcher(head + tail + rest).matches()) {
                    return true;
                }
            }
        }
        return false;
    }

    int room() {
        if (!WHOLE.matcher(page).matches()) {
            return STATE;
        }
        fits.clear();
        kinds.clear();
        kept = new Kept();
        image = null;
        String[] halves = page.split(";");
        for (String part : halves[0].split(",")) {
            TreeSet<Integer> set = new TreeSet<>();
            part.chars().forEach(c -> set.add(c - 'a'));
            fits.add(set);
        }
        for (String part : halves[1].split(",")) {
            kinds.add("shtcp".indexOf(part.charAt(0)));
            kept.wants.add(part.charAt(1) - 'a');
            kept.used.add(new TreeSet<>());
        }
        page = "";
        rooms++;
        return kinds.size();
    }

    private static int bits(TreeSet<Integer> set) {
        return set.stream().mapToInt(e -> 1 << e).sum();
    }

    private boolean noOpening(int opening) {
        return opening < 0 || opening > 3;
    }

    private boolean noSpeaker(int speaker) {
        return speaker < 0 || speaker >= kinds.size();
    }

    int fits(int opening) {
        return kinds.isEmpty() || noOpening(opening) ? UNKNOWN : bits(fits.get(opening));
    }

    private int ends(int kind, int opening, int wanted, TreeSet<Integer> used) {
        TreeSet<Integer> set = fits.get(opening);
        if (kind == 0) {
            return set.contains(wanted) ? wanted : set.first();
        }
        if (kind == 1) {
            return set.contains(wanted) ? wanted : NONE;
        }
        if (kind == 2) {
            return wanted;
        }
        TreeSet<Integer> fresh = new TreeSet<>(set);
        if (kind == 4) {
            fresh.removeAll(used);
        }
        return fresh.isEmpty() ? set.last() : fresh.last();
    }

    private int endsNow(int speaker, int opening) {
        return ends(kinds.get(speaker), opening, kept.wants.get(speaker), kept.used.get(speaker));
    }

    int about(int speaker, int what) {
        if (noSpeaker(speaker)) {
            return UNKNOWN;
        }
        List<Sentence> all = kept.sentences;
        return switch (what) {
            case 0 -> kinds.get(speaker);
            case 1 -> kept.wants.get(speaker);
            case 2 -> bits(kept.used.get(speaker));
            case 3 -> openOf(speaker);
            case 4 -> (int) all.stream().filter(s -> s.beginner == speaker).count();
            case 5 -> (int) all.stream().filter(s -> s.ender == speaker).count();
            case 6 -> sure(speaker);
            case 7 -> bits(whichKinds(speaker, kept.heard));
            case 8 -> begins(speaker);
            default -> OUTSIDE;
        };
    }

    private int openOf(int speaker) {
        for (int i = 0; i < kept.sentences.size(); i++) {
            if (kept.sentences.get(i).beginner == speaker && kept.sentences.get(i).ender == NONE) {
                return i;
            }
        }
        return NONE;
    }

    private int sure(int speaker) {
        for (int opening = 0; opening < 4; opening++) {
            TreeSet<Integer> ways = new TreeSet<>();
            for (int other = 0; other < kinds.size(); other++) {
                if (other != speaker) {
                    ways.add(endsNow(other, opening));
                }
            }
            ways.remove(NONE);
            if (ways.size() == 1 && ways.contains(kept.wants.get(speaker))) {
                return opening;
            }
        }
        return NONE;
    }

    private TreeSet<Integer> whichKinds(int speaker, List<Heard> heard) {
        TreeSet<Integer> left = new TreeSet<>(List.of(0, 1, 2, 3, 4));
        for (Heard one : heard) {
            if (one.speaker == speaker) {
                left.removeIf(k -> ends(k, one.opening, kept.wants.get(speaker), new TreeSet<>()) != one.ending);
            }
        }
        return left;
    }

    /** By hearing one more, each way in turn. */
    private int begins(int speaker) {
        if (whichKinds(speaker, kept.heard).isEmpty()) {
            return NONE;
        }
        int best = 0;
        int bestWorst = 99;
        for (int opening = 0; opening < 4; opening++) {
            int worst = 0;
            for (int ending = NONE; ending < 6; ending++) {
                List<Heard> then = new ArrayList<>(kept.heard);
                then.add(new Heard(speaker, opening, ending));
                worst = Math.max(worst, whichKinds(speaker, then).size());
            }
            if (worst < bestWorst) {
                bestWorst = worst;
                best = opening;
            }
        }
        return best;
    }

    int as(int speaker, int kind) {
        if (noSpeaker(speaker)) {
            return UNKNOWN;
        }
        if (kind < 0 || kind > 4) {
            return OUTSIDE;
        }
        List<List<Integer>> all = List.of(List.of(0), List.of(0, 1), List.of(0, 2), List.of(0, 3), List.of(0, 3, 4));
        return all.get(kinds.get(speaker)).contains(kind) ? speaker : NONE;
    }

    int want(int speaker, int ending) {
        if (noSpeaker(speaker)) {
            return UNKNOWN;
        }
        if (ending < 0 || ending > 5) {
            return OUTSIDE;
        }
        kept.changes++;
        return kept.wants.set(speaker, ending);
    }

    int would(int speaker, int opening) {
        return noSpeaker(speaker) || noOpening(opening) ? UNKNOWN : endsNow(speaker, opening);
    }

    int begin(int speaker, int opening) {
        if (noSpeaker(speaker) || noOpening(opening)) {
            return UNKNOWN;
        }
        if (openOf(speaker) != NONE) {
            return STATE;
        }
        if (kept.sentences.size() == 8) {
            return FULL;
        }
        kept.sentences.add(new Sentence(speaker, opening, NONE, NONE));
        return kept.sentences.size() - 1;
    }

    private boolean noSentence(int sentence) {
        return sentence < 0 || sentence >= kept.sentences.size();
    }

    int end(int sentence, int speaker) {
        if (noSentence(sentence) || noSpeaker(speaker)) {
            return UNKNOWN;
        }
        Sentence open = kept.sentences.get(sentence);
        if (open.ender != NONE || open.beginner == speaker) {
            return STATE;
        }
        int ending = endsNow(speaker, open.opening);
        if (ending != NONE) {
            kept.sentences.set(sentence, new Sentence(open.beginner, open.opening, speaker, ending));
            kept.used.get(speaker).add(ending);
        }
        return ending;
    }

    private boolean asWanted(Sentence s) {
        return s.ending != NONE && s.ending == kept.wants.get(s.beginner);
    }

    int sentence(int sentence, int what) {
        if (noSentence(sentence)) {
            return UNKNOWN;
        }
        Sentence s = kept.sentences.get(sentence);
        return switch (what) {
            case 0 -> s.beginner;
            case 1 -> s.opening;
            case 2 -> s.ender;
            case 3 -> s.ending;
            case 4 -> asWanted(s) ? 1 : 0;
            default -> OUTSIDE;
        };
    }

    /** Every way that four may pick, in the order of the numbers; the first of the best stands. */
    int match(int what) {
        if (what != 0 && (what < 10 || what > 13)) {
            return OUTSIDE;
        }
        if (kinds.isEmpty()) {
            return STATE;
        }
        int[] best = {NONE, NONE, NONE, NONE};
        int most = 0;
        for (int way = 0; way < 9 * 9 * 9 * 9; way++) {
            int[] picks = {way / 729 - 1, way / 81 % 9 - 1, way / 9 % 9 - 1, way % 9 - 1};
            int ended = howMany(picks);
            if (ended > most) {
                most = ended;
                best = picks;
            }
        }
        return what == 0 ? most : best[what - 10];
    }

    private int howMany(int[] picks) {
        TreeSet<Integer> ended = new TreeSet<>();
        for (int speaker = 0; speaker < 4; speaker++) {
            int pick = picks[speaker];
            if (pick != NONE && (noSpeaker(speaker) || noSentence(pick) || !ended.add(pick) || !pleases(speaker, pick))) {
                return NONE;
            }
        }
        return ended.size();
    }

    private boolean pleases(int speaker, int pick) {
        Sentence s = kept.sentences.get(pick);
        return s.ender == NONE && s.beginner != speaker && endsNow(speaker, s.opening) == kept.wants.get(s.beginner);
    }

    int hear(int speaker, int opening, int ending) {
        if (noSpeaker(speaker) || noOpening(opening)) {
            return UNKNOWN;
        }
        if (ending < -1 || ending > 5) {
            return OUTSIDE;
        }
        if (kept.heard.size() == 8) {
            return FULL;
        }
        kept.heard.add(new Heard(speaker, opening, ending));
        return kept.heard.size();
    }

    int forget() {
        int had = kept.heard.size();
        kept.heard.clear();
        return had;
    }

    int talks(int times, int seed, int what) {
        if (times < 1 || times > 60 || seed < 0 || what < 0 || what > 2) {
            return OUTSIDE;
        }
        if (kinds.isEmpty()) {
            return STATE;
        }
        Kept trial = kept.copy();
        int[] told = {0, 0, 0};
        int next = seed;
        for (int i = 0; i < times; i++) {
            int[] draws = new int[3];
            int[] of = {kinds.size(), 4, kinds.size()};
            for (int d = 0; d < 3; d++) {
                next = (next * 1103515245 + 12345) & 0x7fffffff;
                draws[d] = (next >>> 16) % of[d];
            }
            int ender = draws[2];
            int ending = ends(kinds.get(ender), draws[1], trial.wants.get(ender), trial.used.get(ender));
            if (draws[0] != ender && ending != NONE) {
                trial.used.get(ender).add(ending);
                told[0]++;
                told[1] += ending == trial.wants.get(draws[0]) ? 1 : 0;
            }
        }
        told[2] = next;
        return told[what];
    }

    int image() {
        if (kinds.isEmpty()) {
            return STATE;
        }
        image = kept.copy();
        return image.sentences.size();
    }

    int restore() {
        if (image == null) {
            return STATE;
        }
        kept = image.copy();
        return kept.sentences.size();
    }

    int count(int what) {
        List<Sentence> all = kept.sentences;
        return switch (what) {
            case 0 -> kinds.size();
            case 1 -> all.size();
            case 2 -> (int) all.stream().filter(s -> s.ender == NONE).count();
            case 3 -> (int) all.stream().filter(this::asWanted).count();
            case 4 -> (int) all.stream().filter(s -> s.ender != NONE).map(s -> s.ending).distinct().count();
            case 5 -> kept.changes;
            case 6 -> kept.heard.size();
            case 7 -> page.length();
            case 8 -> rooms;
            default -> OUTSIDE;
        };
    }

    long digest() {
        List<Integer> told = new ArrayList<>();
        fits.forEach(set -> told.add(bits(set)));
        for (int speaker = 0; speaker < kinds.size(); speaker++) {
            for (int what = 0; what <= 8; what++) {
                told.add(about(speaker, what));
            }
            for (int opening = 0; opening < 4; opening++) {
                told.add(would(speaker, opening));
            }
        }
        for (Sentence s : kept.sentences) {
            told.addAll(List.of(s.beginner, s.opening, s.ender, s.ending, asWanted(s) ? 1 : 0));
        }
        if (!kinds.isEmpty()) {
            for (int what : new int[] {0, 10, 11, 12, 13}) {
                told.add(match(what));
            }
        }
        page.chars().forEach(told::add);
        for (int what = 0; what <= 8; what++) {
            told.add(count(what));
        }
        long hash = 1021;
        for (int number : told) {
            hash = hash * 31 + number;
        }
        return hash;
    }
}

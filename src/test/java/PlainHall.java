import java.util.ArrayList;
import java.util.Collections;
import java.util.HashMap;
import java.util.LinkedHashSet;
import java.util.List;
import java.util.Map;
import java.util.Set;
import java.util.TreeSet;

/** The document once more, written apart from RengaHall with lists and sets, to compare answers. */
final class PlainHall {
    private static final class Word {
        int sounds;
        int season;
        final Set<Integer> signs = new TreeSet<>();
    }

    private static final class Link {
        List<Integer> words = new ArrayList<>();
        int poet;
        boolean hidden;
        boolean mended;
        final Map<Integer, Integer> points = new HashMap<>();
    }

    private final List<Word> words = new ArrayList<>();
    private final Set<List<Integer>> calls = new LinkedHashSet<>();
    private int poets;
    private List<Integer> draft = new ArrayList<>();
    private List<Link> offers = new ArrayList<>();
    private List<Link> links = new ArrayList<>();
    private List<List<List<Integer>>> copies = new ArrayList<>();
    private int[] seats;
    private int span;
    private final int[] sounds = new int[2];
    private int why = -1;
    private int cause;

    int word(int sounds, int season, int signs) {
        range(sounds >= 1 && sounds <= 12 && season >= -1 && season <= 3 && signs >= 0 && signs <= 1023);
        state(words.size() < 40);
        Word word = new Word();
        word.sounds = sounds;
        word.season = season;
        for (int sign = 0; sign <= 9; sign++) {
            if ((signs / (1 << sign)) % 2 == 1) {
                word.signs.add(sign);
            }
        }
        words.add(word);
        return words.size() - 1;
    }

    int call(int word, int other) {
        there(isWord(word) && isWord(other));
        range(word != other);
        boolean is = calls.contains(List.of(word, other));
        calls.add(List.of(word, other));
        calls.add(List.of(other, word));
        return is ? 1 : 0;
    }

    int poet() {
        state(poets < 6);
        return poets++;
    }

    int begin(int links, int span, int first, int second) {
        range(links >= 2 && links <= 36 && span >= 0 && span <= 10);
        range(first >= 2 && first <= 40 && second >= 2 && second <= 40);
        state(seats == null || this.links.isEmpty() || this.links.size() == seats.length);
        seats = new int[links];
        this.span = span;
        sounds[0] = first;
        sounds[1] = second;
        this.links = new ArrayList<>();
        offers = new ArrayList<>();
        copies = new ArrayList<>();
        return 0;
    }

    int seat(int link, int what) {
        there(seats != null && link >= links.size() && link < seats.length);
        range(what >= 0 && what <= 2);
        state(offers.isEmpty());
        int before = seats[link];
        seats[link] = what;
        return before;
    }

    int add(int word) {
        there(isWord(word));
        state(draft.size() < 6);
        draft.add(word);
        return draft.size();
    }

    int clear() {
        int size = draft.size();
        draft = new ArrayList<>();
        return size;
    }

    int offer(int poet) {
        there(poet >= 0 && poet < poets);
        state(isOpen() && offers.size() < 4);
        int fault = fault(draft, links.size(), poet);
        if (fault != 0) {
            why = cause;
            return -fault;
        }
        Link offer = new Link();
        offer.poet = poet;
        offer.words = draft;
        draft = new ArrayList<>();
        offers.add(offer);
        return offers.size() - 1;
    }

    int why() {
        return why;
    }

    int choose(int offer) {
        there(offer >= 0 && offer < offers.size());
        links.add(offers.get(offer));
        offers = new ArrayList<>();
        return links.size() - 1;
    }

    int mend(int place, int word) {
        there(!links.isEmpty());
        Link latest = links.get(links.size() - 1);
        there(place >= 0 && place < latest.words.size() && isWord(word));
        state(offers.isEmpty());
        List<Integer> mended = new ArrayList<>(latest.words);
        mended.set(place, word);
        int fault = fault(mended, links.size() - 1, -1);
        if (fault != 0) {
            why = cause;
            return -fault;
        }
        latest.words = mended;
        latest.mended = true;
        return 0;
    }

    int give(int judge, int link, int points) {
        there(judge >= 0 && judge <= 3 && isLink(link));
        range(points >= 0 && points <= 10);
        Integer before = links.get(link).points.put(judge, points);
        return before == null ? -1 : before;
    }

    int copy(int of) {
        there(isText(of));
        state(seats != null && copies.size() < 8);
        copies.add(text(of));
        return copies.size() - 1;
    }

    int write(int copy, int link, int place, int word) {
        there(copy >= 0 && copy < copies.size());
        there(link >= 0 && link < copies.get(copy).size());
        there(place >= 0 && place < copies.get(copy).get(link).size() && isWord(word));
        return copies.get(copy).get(link).set(place, word);
    }

    int hide(int link, boolean is) {
        there(isLink(link));
        boolean before = links.get(link).hidden;
        links.get(link).hidden = is;
        return before ? 1 : 0;
    }

    int links() {
        return links.size();
    }

    int offers() {
        return offers.size();
    }

    int ofLink(int link, int what) {
        there(isLink(link));
        range(what >= 0 && what <= 5);
        Link it = links.get(link);
        int signs = 0;
        for (int sign : signs(it.words)) {
            signs += 1 << sign;
        }
        int[] answers = {it.hidden ? -1 : it.poet, season(it.words), signs, it.words.size(),
            run(link), it.mended ? 1 : 0};
        return answers[what];
    }

    int wordAt(int link, int place) {
        there(isLink(link) && place >= 0 && place < links.get(link).words.size());
        return links.get(link).words.get(place);
    }

    int faultAnew(int link) {
        there(isLink(link));
        return fault(links.get(link).words, link, links.get(link).poet);
    }

    int chances(int poet) {
        there(poet >= 0 && poet < poets);
        return isOpen() ? rows(poet).size() : 0;
    }

    /** The rows of one or two words that the poet could offer now. */
    List<List<Integer>> rows(int poet) {
        List<List<Integer>> rows = new ArrayList<>();
        for (int first = 0; first < words.size(); first++) {
            for (int second = -1; second < words.size(); second++) {
                List<Integer> row = second < 0 ? List.of(first) : List.of(first, second);
                if (isOpen() && fault(row, links.size(), poet) == 0) {
                    rows.add(row);
                }
            }
        }
        return rows;
    }

    int prize() {
        Map<Integer, List<Integer>> given = new HashMap<>();
        for (Link link : links) {
            for (int points : link.points.values()) {
                given.computeIfAbsent(link.poet, p -> new ArrayList<>()).add(points);
            }
        }
        return greatestMean(given);
    }

    int far(int copy, int other) {
        there(isText(copy) && isText(other));
        state(seats != null);
        return far(text(copy), text(other));
    }

    int source(int copy) {
        there(copy >= 0 && copy < copies.size());
        int best = Integer.MAX_VALUE;
        int source = -2;
        for (int other = -1; other < copies.size(); other++) {
            if (other != copy && far(text(copy), text(other)) < best) {
                best = far(text(copy), text(other));
                source = other;
            }
        }
        return source;
    }

    int hand(int link) {
        there(isLink(link));
        Map<Integer, List<Integer>> like = new HashMap<>();
        for (int other = 0; other < links.size(); other++) {
            if (other == link || links.get(other).hidden) {
                continue;
            }
            Set<Integer> both = new TreeSet<>(links.get(link).words);
            both.retainAll(links.get(other).words);
            Set<Integer> signs = signs(links.get(link).words);
            signs.retainAll(signs(links.get(other).words));
            like.computeIfAbsent(links.get(other).poet, p -> new ArrayList<>())
                    .add(3 * both.size() + signs.size());
        }
        return greatestMean(like);
    }

    int wordCount() {
        return words.size();
    }

    int poetCount() {
        return poets;
    }

    int copyCount() {
        return copies.size();
    }

    int length() {
        return seats == null ? 0 : seats.length;
    }

    boolean isOpen() {
        return seats != null && links.size() < seats.length;
    }

    private static int greatestMean(Map<Integer, List<Integer>> numbers) {
        int best = -1;
        double mean = -1;
        for (int poet = 0; poet < 6; poet++) {
            if (numbers.containsKey(poet)) {
                long sum = 0;
                for (int number : numbers.get(poet)) {
                    sum += number;
                }
                double its = (double) sum / numbers.get(poet).size();
                // Means of so few numbers that are unlike are further apart than this.
                if (its > mean + 1e-9) {
                    best = poet;
                    mean = its;
                }
            }
        }
        return best;
    }

    private static int far(List<List<Integer>> text, List<List<Integer>> other) {
        int far = 0;
        for (int link = 0; link < Math.max(text.size(), other.size()); link++) {
            List<Integer> one = link < text.size() ? text.get(link) : List.of();
            List<Integer> two = link < other.size() ? other.get(link) : List.of();
            for (int place = 0; place < Math.max(one.size(), two.size()); place++) {
                boolean both = place < one.size() && place < two.size();
                if (!both || !one.get(place).equals(two.get(place))) {
                    far++;
                }
            }
        }
        return far;
    }

    /** A copy of the text, which shares nothing with it. */
    private List<List<Integer>> text(int text) {
        List<List<Integer>> all = new ArrayList<>();
        if (text >= 0) {
            for (List<Integer> link : copies.get(text)) {
                all.add(new ArrayList<>(link));
            }
            return all;
        }
        for (Link link : links) {
            all.add(new ArrayList<>(link.words));
        }
        return all;
    }

    private int season(List<Integer> row) {
        for (int word : row) {
            if (words.get(word).season != -1) {
                return words.get(word).season;
            }
        }
        return -1;
    }

    private Set<Integer> signs(List<Integer> row) {
        Set<Integer> signs = new TreeSet<>();
        for (int word : row) {
            signs.addAll(words.get(word).signs);
        }
        return signs;
    }

    private Set<Integer> commonSubjects(List<Integer> row, List<Integer> other) {
        Set<Integer> common = signs(row);
        common.retainAll(signs(other));
        common.remove(8);
        common.remove(9);
        return common;
    }

    private int run(int link) {
        int season = season(links.get(link).words);
        if (season == -1) {
            return 0;
        }
        boolean goesOn = link > 0 && season(links.get(link - 1).words) == season;
        return goesOn ? 1 + run(link - 1) : 1;
    }

    private int fault(List<Integer> row, int number, int poet) {
        int has = 0;
        for (int word : row) {
            has += words.get(word).sounds;
        }
        if (has != sounds[number % 2]) {
            return fault(1, has);
        }
        for (int word : row) {
            if (words.get(word).season != -1 && words.get(word).season != season(row)) {
                return fault(2, row.indexOf(word));
            }
        }
        for (int place = 0; place < row.size(); place++) {
            boolean isAgain = row.indexOf(row.get(place)) < place;
            for (int back = 1; back <= span && back <= number; back++) {
                isAgain |= links.get(number - back).words.contains(row.get(place));
            }
            if (isAgain) {
                return fault(3, place);
            }
        }
        return number == 0 ? faultOfSeat(row, number) : faultBehind(row, number, poet);
    }

    private int faultBehind(List<Integer> row, int number, int poet) {
        Link ahead = links.get(number - 1);
        if (poet == ahead.poet) {
            return fault(4, poet);
        }
        boolean joins = !commonSubjects(row, ahead.words).isEmpty();
        for (int word : row) {
            for (int other : ahead.words) {
                joins |= calls.contains(List.of(word, other));
            }
        }
        if (!joins) {
            return fault(5, number - 1);
        }
        if (number >= 2) {
            Set<Integer> common = commonSubjects(row, links.get(number - 2).words);
            if (!common.isEmpty()) {
                return fault(6, Collections.min(common));
            }
        }
        int season = season(row);
        int before = season(ahead.words);
        boolean isLong = before == 0 || before == 2;
        if (before != -1 && season != before && isLong && run(number - 1) < 3) {
            return fault(7, before);
        }
        if (before != -1 && season == before && run(number - 1) >= (isLong ? 5 : 3)) {
            return fault(7, before);
        }
        for (int back = 1; back <= 4 && back <= number; back++) {
            boolean isLike = season(links.get(number - back).words) == season;
            if (season != -1 && season != before && isLike) {
                return fault(7, season);
            }
        }
        return faultOfSeat(row, number);
    }

    private int faultOfSeat(List<Integer> row, int number) {
        for (int what = 1; what <= 2; what++) {
            if (signs(row).contains(7 + what) != (seats[number] == what)) {
                return fault(8, what);
            }
        }
        return 0;
    }

    private int fault(int fault, int itsCause) {
        cause = itsCause;
        return fault;
    }

    private boolean isWord(int word) {
        return word >= 0 && word < words.size();
    }

    private boolean isLink(int link) {
        return link >= 0 && link < links.size();
    }

    private boolean isText(int text) {
        return text >= -1 && text < copies.size();
    }

    private static void there(boolean is) {
        if (!is) {
            throw new IndexOutOfBoundsException();
        }
    }

    private static void range(boolean is) {
        if (!is) {
            throw new IllegalArgumentException();
        }
    }

    private static void state(boolean is) {
        if (!is) {
            throw new IllegalStateException();
        }
    }
}

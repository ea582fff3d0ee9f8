import java.util.Arrays;
import java.util.List;

/**
 * Long runs of calls by chance, the same ones each time, on RengaHall and on PlainHall: all
 * answers and exceptions must be alike, at most 512 calls an object.
 */
public final class LongRunTest {
    private static final int RUNS = 400;
    private static final int CALLS = 512;
    private static final String[] CHANGES = {"word", "call", "poet", "begin", "seat", "add",
        "clear", "offer", "choose", "mend", "give", "copy", "write", "hide"};
    private static final String[] QUESTIONS = {"why", "links", "offers", "ofLink", "wordAt",
        "faultAnew", "chances", "prize", "far", "source", "hand"};

    /** What is counted over all runs: refused offers by their faults 1 to 8, and these. */
    private static final int MENDS_REFUSED = 9, POEMS_FINISHED = 10, LATE_LINKS = 11, TALLIES = 12;

    private final RengaHall hall = new RengaHall();
    private final PlainHall plain = new PlainHall();
    private final StringBuilder told = new StringBuilder();
    private final int kind;
    private long seed;
    private int calls;
    private long last;

    private LongRunTest(int run) {
        kind = run % 4;
        seed = 7919L * run + 17;
    }

    public static void main(String[] args) {
        int[] tally = new int[TALLIES];
        for (int run = 0; run < RUNS; run++) {
            LongRunTest test = new LongRunTest(run);
            if (!test.isAlike(tally)) {
                System.out.println("LongRunTest: run " + run + " is not alike:\n" + test.told);
                System.exit(1);
            }
        }
        // A run that never meets a fault or a late link would tell nothing of them.
        for (int fault = 1; fault <= 8; fault++) {
            need(tally[fault] > 20, "fault " + fault + " was met " + tally[fault] + " times");
        }
        need(tally[MENDS_REFUSED] > 20, "mending was refused " + tally[MENDS_REFUSED] + " times");
        need(tally[POEMS_FINISHED] > 20, "poems were finished " + tally[POEMS_FINISHED] + " times");
        need(tally[LATE_LINKS] > 200, "links behind the 8th were made " + tally[LATE_LINKS] + " times");
        System.out.println("LongRunTest: " + RUNS + " runs are alike");
    }

    private static void need(boolean is, String text) {
        if (!is) {
            System.out.println("LongRunTest: too seldom: " + text);
            System.exit(1);
        }
    }

    private int below(int bound) {
        seed = seed * 6364136223846793005L + 1442695040888963407L;
        return (int) ((seed >>> 33) % bound);
    }

    /** Mostly from least to most, seldom outside. */
    private int about(int least, int most) {
        int by = below(40);
        if (by == 0) {
            return least - 1;
        }
        if (by == 1) {
            return most + 1;
        }
        if (by == 2) {
            return below(2) == 0 ? Integer.MIN_VALUE : Integer.MAX_VALUE;
        }
        return most < least ? least : least + below(most - least + 1);
    }

    private boolean isAlike(int[] tally) {
        boolean isAlike = prepare();
        while (isAlike && calls < CALLS) {
            int by = below(10);
            if (by < 3) {
                isAlike = goOn(tally);
            } else if (by == 3) {
                isAlike = tryRow(tally);
            } else if (by < 6) {
                isAlike = step(CHANGES[below(CHANGES.length)], tally);
            } else {
                isAlike = step(QUESTIONS[below(QUESTIONS.length)], tally);
            }
        }
        return isAlike;
    }

    private boolean prepare() {
        boolean isAlike = true;
        int poets = 1 + below(4);
        for (int poet = 0; poet < poets; poet++) {
            isAlike &= same("poet");
        }
        int words = 15 + below(20);
        for (int word = 0; word < words; word++) {
            isAlike &= someWord();
        }
        for (int pair = 0; pair < words * 4; pair++) {
            isAlike &= same("call", below(words), below(words));
        }
        return isAlike && someBegin();
    }

    private boolean someWord() {
        int season = below(kind + 2) == 0 ? below(4) : kind == 1 ? 0 : -1;
        int signs = below(3) == 0 ? 1 << below(8) : 0;
        if (below(8) == 0) {
            signs |= 1 << 8 + below(2);
        }
        return same("word", below(3) == 0 ? 5 : 2 + below(2), season, signs);
    }

    private boolean someBegin() {
        int links = below(3) == 0 ? 36 : 2 + below(12);
        return same("begin", links, below(3) == 0 ? below(11) : below(3), 5, 5 + below(2) * 2);
    }

    /** Offers a row that can be offered, and chooses it, if there is one. */
    private boolean goOn(int[] tally) {
        if (!plain.isOpen()) {
            tally[POEMS_FINISHED]++;
            return someBegin();
        }
        int poet = below(plain.poetCount());
        List<List<Integer>> rows = plain.rows(poet);
        if (rows.isEmpty() || calls + 6 > CALLS) {
            return step("word", tally);
        }
        boolean isAlike = same("clear");
        for (int word : rows.get(below(rows.size()))) {
            isAlike &= same("add", word);
        }
        isAlike &= same("offer", poet);
        if (below(3) > 0) {
            isAlike &= same("choose", below(plain.offers()));
        }
        if (plain.links() > 8) {
            tally[LATE_LINKS]++;
        }
        return isAlike;
    }

    /** Offers some words that have nearly as many sounds as links mostly have. */
    private boolean tryRow(int[] tally) {
        boolean isAlike = same("clear");
        for (int size = 1 + below(3); size > 0; size--) {
            isAlike &= same("add", below(plain.wordCount()));
        }
        return isAlike && step("offer", tally);
    }

    private boolean step(String name, int[] tally) {
        boolean isAlike = same(name, arguments(name));
        if (name.equals("offer") && last < 0 && last >= -8) {
            tally[(int) -last]++;
        }
        if (name.equals("mend") && last < 0 && last >= -8) {
            tally[MENDS_REFUSED]++;
        }
        return isAlike;
    }

    private int[] arguments(String name) {
        int word = about(0, plain.wordCount() - 1);
        int link = about(0, plain.links() - 1);
        int copy = about(0, plain.copyCount() - 1);
        switch (name) {
            case "word": return new int[] {about(1, 12), about(-1, 3), about(0, 1023)};
            case "call": return new int[] {word, about(0, plain.wordCount() - 1)};
            case "begin": return new int[] {about(2, 36), about(0, 10), about(2, 40), about(2, 40)};
            case "seat": return new int[] {about(plain.links(), plain.length() - 1), about(0, 2)};
            case "add": return new int[] {word};
            case "offer": case "chances": return new int[] {about(0, plain.poetCount() - 1)};
            case "choose": return new int[] {about(0, plain.offers() - 1)};
            case "mend": return new int[] {about(0, 1), word};
            case "give": return new int[] {about(0, 3), link, about(0, 10)};
            case "copy": return new int[] {about(-1, plain.copyCount() - 1)};
            case "write": return new int[] {copy, link, about(0, 1), word};
            case "hide": return new int[] {link, below(2)};
            case "ofLink": return new int[] {link, about(0, 5)};
            case "wordAt": return new int[] {link, about(0, 1)};
            case "faultAnew": case "hand": return new int[] {link};
            case "far": return new int[] {about(-1, plain.copyCount() - 1), copy};
            case "source": return new int[] {copy};
            default: return new int[0];
        }
    }

    /**
     * Whether both answer the call alike; an exception is a number far below all answers. What
     * an object answers behind its 512th call is free, so that it is not called any more.
     */
    private boolean same(String name, int... a) {
        if (calls >= CALLS) {
            return true;
        }
        calls++;
        long got;
        try {
            got = ofHall(name, a);
        } catch (RuntimeException e) {
            got = number(e);
        }
        long due;
        try {
            due = ofPlain(name, a);
        } catch (RuntimeException e) {
            due = number(e);
        }
        last = due;
        told.append(name).append(Arrays.toString(a)).append(" answered ").append(got);
        told.append(", due is ").append(due).append('\n');
        return got == due;
    }

    private static long number(RuntimeException e) {
        if (e.getClass() == IndexOutOfBoundsException.class) {
            return -1001;
        }
        if (e.getClass() == IllegalArgumentException.class) {
            return -1002;
        }
        return e.getClass() == IllegalStateException.class ? -1003 : -1004;
    }

    private long ofHall(String name, int[] a) {
        switch (name) {
            case "word": return hall.word(a[0], a[1], a[2]);
            case "call": return hall.call(a[0], a[1]) ? 1 : 0;
            case "poet": return hall.poet();
            case "begin": hall.begin(a[0], a[1], a[2], a[3]); return 0;
            case "seat": return hall.seat(a[0], a[1]);
            case "add": return hall.add(a[0]);
            case "clear": return hall.clear();
            case "offer": return hall.offer(a[0]);
            case "why": return hall.why();
            case "choose": return hall.choose(a[0]);
            case "mend": return hall.mend(a[0], a[1]);
            case "give": return hall.give(a[0], a[1], a[2]);
            case "copy": return hall.copy(a[0]);
            case "write": return hall.write(a[0], a[1], a[2], a[3]);
            case "hide": return hall.hide(a[0], a[1] == 1) ? 1 : 0;
            case "links": return hall.links();
            case "offers": return hall.offers();
            case "ofLink": return hall.ofLink(a[0], a[1]);
            case "wordAt": return hall.wordAt(a[0], a[1]);
            case "faultAnew": return hall.faultAnew(a[0]);
            case "chances": return hall.chances(a[0]);
            case "prize": return hall.prize();
            case "far": return hall.far(a[0], a[1]);
            case "source": return hall.source(a[0]);
            default: return hall.hand(a[0]);
        }
    }

    private long ofPlain(String name, int[] a) {
        switch (name) {
            case "word": return plain.word(a[0], a[1], a[2]);
            case "call": return plain.call(a[0], a[1]);
            case "poet": return plain.poet();
            case "begin": return plain.begin(a[0], a[1], a[2], a[3]);
            case "seat": return plain.seat(a[0], a[1]);
            case "add": return plain.add(a[0]);
            case "clear": return plain.clear();
            case "offer": return plain.offer(a[0]);
            case "why": return plain.why();
            case "choose": return plain.choose(a[0]);
            case "mend": return plain.mend(a[0], a[1]);
            case "give": return plain.give(a[0], a[1], a[2]);
            case "copy": return plain.copy(a[0]);
            case "write": return plain.write(a[0], a[1], a[2], a[3]);
            case "hide": return plain.hide(a[0], a[1] == 1);
            case "links": return plain.links();
            case "offers": return plain.offers();
            case "ofLink": return plain.ofLink(a[0], a[1]);
            case "wordAt": return plain.wordAt(a[0], a[1]);
            case "faultAnew": return plain.faultAnew(a[0]);
            case "chances": return plain.chances(a[0]);
            case "prize": return plain.prize();
            case "far": return plain.far(a[0], a[1]);
            case "source": return plain.source(a[0]);
            default: return plain.hand(a[0]);
        }
    }
}

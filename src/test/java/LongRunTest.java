import java.util.List;

/**
 * Long runs of calls by chance, the same ones each time, on RengaHall and on PlainHall: all
 * answers and exceptions must be alike, at most 512 calls an object.
 */
public final class LongRunTest {
    private static final int RUNS = 400;
    private static final String[] CHANGES = {"word", "call", "poet", "begin", "seat", "add",
        "clear", "offer", "choose", "mend", "give", "copy", "write", "hide"};
    private static final String[] QUESTIONS = {"why", "links", "offers", "ofLink", "wordAt",
        "faultAnew", "chances", "prize", "far", "source", "hand"};

    /** What is counted over all runs: refused offers by their faults 1 to 8, and these. */
    private static final int MENDS_REFUSED = 9, POEMS_FINISHED = 10, LATE_LINKS = 11, TALLIES = 12;

    private final Both both = new Both();
    private final PlainHall plain = both.plain;
    private final int kind;
    private long seed;

    private LongRunTest(int run) {
        kind = run % 4;
        seed = 7919L * run + 17;
    }

    public static void main(String[] args) {
        int[] tally = new int[TALLIES];
        for (int run = 0; run < RUNS; run++) {
            LongRunTest test = new LongRunTest(run);
            if (!test.isAlike(tally)) {
                System.out.println("LongRunTest: run " + run + " is not alike:\n" + test.both.told());
                System.exit(1);
            }
        }
        // A run that never meets a fault or a late link would tell nothing of them.
        for (int fault = 1; fault <= 8; fault++) {
            need(tally[fault] > 20, "fault " + fault + " was met " + tally[fault] + " times");
        }
        need(tally[MENDS_REFUSED] > 20, "mending was refused " + tally[MENDS_REFUSED] + " times");
        need(tally[POEMS_FINISHED] > 20, "poems were finished " + tally[POEMS_FINISHED] + " times");
        need(tally[LATE_LINKS] > 200, "links behind the 8th were made " + tally[LATE_LINKS] + " times");
        System.out.println("LongRunTest: " + RUNS + " runs are alike");
    }

    private static void need(boolean is, String text) {
        if (!is) {
            System.out.println("LongRunTest: too seldom: " + text);
            System.exit(1);
        }
    }

    private int below(int bound) {
        seed = seed * 6364136223846793005L + 1442695040888963407L;
        return (int) ((seed >>> 33) % bound);
    }

    /** Mostly from least to most, seldom outside. */
    private int about(int least, int most) {
        int by = below(40);
        if (by == 0) {
            return least - 1;
        }
        if (by == 1) {
            return most + 1;
        }
        if (by == 2) {
            return below(2) == 0 ? Integer.MIN_VALUE : Integer.MAX_VALUE;
        }
        return most < least ? least : least + below(most - least + 1);
    }

    private boolean isAlike(int[] tally) {
        boolean isAlike = prepare();
        while (isAlike && both.calls() < Both.CALLS) {
            int by = below(10);
            if (by < 3) {
                isAlike = goOn(tally);
            } else if (by == 3) {
                isAlike = tryRow(tally);
            } else if (by < 6) {
                isAlike = step(CHANGES[below(CHANGES.length)], tally);
            } else {
                isAlike = step(QUESTIONS[below(QUESTIONS.length)], tally);
            }
        }
        return isAlike;
    }

    private boolean prepare() {
        boolean isAlike = true;
        int poets = 1 + below(4);
        for (int poet = 0; poet < poets; poet++) {
            isAlike &= both.same("poet");
        }
        int words = 15 + below(20);
        for (int word = 0; word < words; word++) {
            isAlike &= someWord();
        }
        for (int pair = 0; pair < words * 4; pair++) {
            isAlike &= both.same("call", below(words), below(words));
        }
        return isAlike && someBegin();
    }

    private boolean someWord() {
        int season = below(kind + 2) == 0 ? below(4) : kind == 1 ? 0 : -1;
        int signs = below(3) == 0 ? 1 << below(8) : 0;
        if (below(8) == 0) {
            signs |= 1 << 8 + below(2);
        }
        return both.same("word", below(3) == 0 ? 5 : 2 + below(2), season, signs);
    }

    private boolean someBegin() {
        int links = below(3) == 0 ? 36 : 2 + below(12);
        return both.same("begin", links, below(3) == 0 ? below(11) : below(3), 5, 5 + below(2) * 2);
    }

    /** Offers a row that can be offered, and chooses it, if there is one. */
    private boolean goOn(int[] tally) {
        if (!plain.isOpen()) {
            tally[POEMS_FINISHED]++;
            return someBegin();
        }
        int poet = below(plain.poetCount());
        List<List<Integer>> rows = plain.rows(poet);
        if (rows.isEmpty() || both.calls() + 6 > Both.CALLS) {
            return step("word", tally);
        }
        boolean isAlike = both.same("clear");
        for (int word : rows.get(below(rows.size()))) {
            isAlike &= both.same("add", word);
        }
        isAlike &= both.same("offer", poet);
        if (below(3) > 0) {
            isAlike &= both.same("choose", below(plain.offers()));
        }
        if (plain.links() > 8) {
            tally[LATE_LINKS]++;
        }
        return isAlike;
    }

    /** Offers some words that have nearly as many sounds as links mostly have. */
    private boolean tryRow(int[] tally) {
        boolean isAlike = both.same("clear");
        for (int size = 1 + below(3); size > 0; size--) {
            isAlike &= both.same("add", below(plain.wordCount()));
        }
        return isAlike && step("offer", tally);
    }

    private boolean step(String name, int[] tally) {
        boolean isAlike = both.same(name, arguments(name));
        if (name.equals("offer") && both.last() < 0 && both.last() >= -8) {
            tally[(int) -both.last()]++;
        }
        if (name.equals("mend") && both.last() < 0 && both.last() >= -8) {
            tally[MENDS_REFUSED]++;
        }
        return isAlike;
    }

    private int[] arguments(String name) {
        int word = about(0, plain.wordCount() - 1);
        int link = about(0, plain.links() - 1);
        int copy = about(0, plain.copyCount() - 1);
        switch (name) {
            case "word": return new int[] {about(1, 12), about(-1, 3), about(0, 1023)};
            case "call": return new int[] {word, about(0, plain.wordCount() - 1)};
            case "begin": return new int[] {about(2, 36), about(0, 10), about(2, 40), about(2, 40)};
            case "seat": return new int[] {about(plain.links(), plain.length() - 1), about(0, 2)};
            case "add": return new int[] {word};
            case "offer": case "chances": return new int[] {about(0, plain.poetCount() - 1)};
            case "choose": return new int[] {about(0, plain.offers() - 1)};
            case "mend": return new int[] {about(0, 1), word};
            case "give": return new int[] {about(0, 3), link, about(0, 10)};
            case "copy": return new int[] {about(-1, plain.copyCount() - 1)};
            case "write": return new int[] {copy, link, about(0, 1), word};
            case "hide": return new int[] {link, below(2)};
            case "ofLink": return new int[] {link, about(0, 5)};
            case "wordAt": return new int[] {link, about(0, 1)};
            case "faultAnew": case "hand": return new int[] {link};
            case "far": return new int[] {about(-1, plain.copyCount() - 1), copy};
            case "source": return new int[] {copy};
            default: return new int[0];
        }
    }
}

import java.util.ArrayList;
import java.util.List;
import java.util.function.Consumer;

/**
 * "Questions change nothing", "a call that throws an exception changes nothing", and each other
 * call changes what the document says of it and nothing else: behind one call more in each of some
 * states, all that can be told of a hall is compared with PlainHall, which was asked alike.
 */
public final class ChangesTest {
    private static final int NONE = RengaHall.NONE;
    private static final int WORDS = 10, POETS = 3, COPIES = 3;
    private static final Expect t = new Expect("ChangesTest");

    private static final String[] QUESTIONS = {"why", "links", "offers", "ofLink 0 0", "ofLink 1 0",
        "ofLink 0 1", "ofLink 1 1", "ofLink 0 2", "ofLink 1 2", "ofLink 0 3", "ofLink 1 3",
        "ofLink 0 4", "ofLink 1 4", "ofLink 0 5", "ofLink 1 5", "wordAt 0 0", "wordAt 1 0",
        "faultAnew 0", "faultAnew 1", "chances 0", "chances 1", "chances 2", "prize", "far -1 -1",
        "far -1 0", "far 0 1", "far 2 -1", "source 0", "source 1", "source 2", "hand 0", "hand 1"};

    private static final String[] CHANGES = {"word 6 2 5", "call 7 9", "call 0 1", "poet",
        "begin 3 0 5 7", "seat 0 2", "seat 2 2", "seat 3 0", "add 9", "clear", "offer 0", "offer 1",
        "offer 2", "choose 0", "choose 1", "choose 2", "mend 0 5", "mend 0 1", "mend 0 9",
        "give 2 0 5", "give 3 1 4", "give 0 0 3", "copy -1", "copy 1", "copy 2", "write 0 0 0 9",
        "write 1 1 0 5", "write 2 1 0 4", "hide 0 1", "hide 0 0", "hide 1 1", "hide 1 0"};

    /** Each throws an exception in all states, be it one or another. */
    private static final String[] THROWING = {"word 0 0 0", "word 13 0 0", "word 1 -2 0", "word 1 4 0",
        "word 1 0 -1", "word 1 0 1024", "call 40 0", "call 0 40", "call -1 0", "call 0 -1", "call 1 1",
        "begin 1 2 6 6", "begin 37 2 6 6", "begin 3 -1 6 6", "begin 3 11 6 6", "begin 3 2 1 6",
        "begin 3 2 41 6", "begin 3 2 6 1", "begin 3 2 6 41", "seat -1 0", "seat 4 0", "seat 3 3",
        "seat 3 -1", "add 40", "add -1", "offer 6", "offer -1", "choose 4", "choose -1", "mend 6 0",
        "mend -1 0", "mend 0 40", "mend 0 -1", "give 4 0 1", "give -1 0 1", "give 0 4 1",
        "give 0 -1 1", "give 0 0 11", "give 0 0 -1", "copy 8", "copy -2", "write 8 0 0 0",
        "write -1 0 0 0", "write 0 4 0 0", "write 0 -1 0 0", "write 0 0 6 0", "write 0 0 -1 0",
        "write 0 0 0 40", "write 0 0 0 -1", "hide 4 1", "hide -1 0", "ofLink 4 0", "ofLink -1 0",
        "ofLink 0 6", "ofLink 0 -1", "wordAt 4 0", "wordAt -1 0", "wordAt 0 6", "wordAt 0 -1",
        "faultAnew 4", "faultAnew -1", "chances 6", "chances -1", "far 8 0", "far -2 0", "far 0 8",
        "far 0 -2", "source 8", "source -1", "hand 4", "hand -1"};

    private final String state;
    private final Consumer<Both> maker;

    private ChangesTest(String state, Consumer<Both> maker) {
        this.state = state;
        this.maker = maker;
    }

    public static void main(String[] args) {
        List<ChangesTest> states = new ArrayList<>();
        states.add(new ChangesTest("new hall", both -> { }));
        states.add(new ChangesTest("hall without a poem", ChangesTest::stock));
        states.add(new ChangesTest("poem without links", ChangesTest::begun));
        states.add(new ChangesTest("poem with offers", ChangesTest::withOffers));
        states.add(new ChangesTest("poem without offers", ChangesTest::withLinks));
        states.add(new ChangesTest("poem whose latest link is hidden", ChangesTest::withHidden));
        states.add(new ChangesTest("full hall", ChangesTest::full));
        states.add(new ChangesTest("full hall, latest link hidden", ChangesTest::fullWithHidden));
        states.add(new ChangesTest("finished poem", ChangesTest::finished));
        states.add(new ChangesTest("finished poem as it was made", ChangesTest::asMade));
        for (ChangesTest it : states) {
            it.questionsChangeNothing();
            it.throwingCallsChangeNothing();
            it.callsChangeNothingElse();
        }
        t.end();
    }

    private void questionsChangeNothing() {
        for (String call : QUESTIONS) {
            behind(call);
        }
    }

    private void throwingCallsChangeNothing() {
        for (String call : THROWING) {
            Both both = new Both();
            maker.accept(both);
            make(both, call);
            t.is(state + ", " + call + " throws", both.hasThrown(), true);
            behind(call);
        }
    }

    private void callsChangeNothingElse() {
        for (String call : CHANGES) {
            behind(call);
        }
    }

    /** What a hall is can't be told by questions alone: other calls tell the rest, each once. */
    private void behind(String call) {
        compare(call, ChangesTest::questions);
        compare(call, ChangesTest::offers);
        compare(call, ChangesTest::otherOffers);
        compare(call, ChangesTest::seats);
        compare(call, ChangesTest::points);
        compare(call, ChangesTest::draft);
        compare(call, ChangesTest::draftOfANewPoem);
        compare(call, ChangesTest::wordsAndPoets);
        compare(call, ChangesTest::calls);
        compare(call, ChangesTest::rowsOfOneWord);
        compare(call, ChangesTest::seasonsAndSigns);
        compare(call, ChangesTest::mending);
        compare(call, ChangesTest::nextLinks);
    }

    private void compare(String call, Consumer<Both> rest) {
        Both both = new Both();
        maker.accept(both);
        make(both, call);
        rest.accept(both);
        t.is(state + ", " + call + ": within 512 calls", both.calls() < Both.CALLS, true);
        t.same(state + ", behind " + call, both.unlike(), "");
    }

    private static void make(Both both, String call) {
        String[] parts = call.split(" ");
        int[] arguments = new int[parts.length - 1];
        for (int i = 0; i < arguments.length; i++) {
            arguments[i] = Integer.parseInt(parts[i + 1]);
        }
        both.same(parts[0], arguments);
    }

    private static void makeAll(Both both, String... calls) {
        for (String call : calls) {
            make(both, call);
        }
    }

    /** Ten words, three poets, and two words in the draft: 5 sounds with the MOON. */
    private static void stock(Both both) {
        makeAll(both, "word 5 1 1", "word 7 -1 2", "word 5 -1 256", "word 7 2 4", "word 5 3 272",
                "word 7 1 34", "word 4 -1 8", "word 1 -1 256", "word 3 0 512", "word 2 -1 64");
        makeAll(both, "call 0 1", "call 1 2", "call 1 4", "call 0 5", "call 5 2", "call 5 4",
                "call 5 6", "call 1 6", "call 2 3", "call 2 8", "call 4 8");
        makeAll(both, "poet", "poet", "poet", "add 7", "add 6");
    }

    private static void begun(Both both) {
        stock(both);
        makeAll(both, "begin 4 1 5 7", "seat 0 1", "seat 2 1", "seat 3 2", "copy -1");
        makeAll(both, "clear", "add 3", "offer 2", "clear", "add 2", "offer 0", "add 4", "offer 1");
        makeAll(both, "add 7", "add 6");
    }

    /** Two links, the first one hidden, the other one mended, with points and copies. */
    private static void withLinks(Both both) {
        stock(both);
        makeAll(both, "begin 4 1 5 7", "seat 2 1", "seat 3 2");
        twoLinks(both);
        make(both, "hide 0 1");
    }

    private static void withOffers(Both both) {
        withLinks(both);
        makeAll(both, "clear", "add 2", "offer 0", "add 4", "offer 2", "add 6", "add 7", "offer 0");
        makeAll(both, "add 7", "add 6");
    }

    /** Three links, of which the latest one is hidden and not mended. */
    private static void withHidden(Both both) {
        withLinks(both);
        makeAll(both, "clear", "add 2", "offer 0", "choose 0", "hide 2 1", "add 8", "add 6");
    }

    private static void full(Both both) {
        withOffers(both);
        make(both, "offer 2");
        fill(both);
    }

    private static void fullWithHidden(Both both) {
        withHidden(both);
        makeAll(both, "offer 1", "add 8", "add 6", "offer 2", "add 6", "add 8", "offer 2");
        makeAll(both, "add 6", "add 8", "offer 1");
        fill(both);
    }

    /** Up to 40 words, 6 poets, 6 words in the draft and 8 copies. */
    private static void fill(Both both) {
        makeAll(both, "add 0", "add 1", "add 3", "add 4", "add 5", "add 6");
        makeAll(both, "poet", "poet", "poet");
        for (int word = WORDS; word < 40; word++) {
            make(both, "word 11 -1 0");
        }
        for (int copy = COPIES; copy < 8; copy++) {
            both.same("copy", copy - COPIES);
        }
    }

    /** Of two links the second one is hidden. */
    private static void finished(Both both) {
        stock(both);
        make(both, "begin 2 1 5 7");
        twoLinks(both);
        make(both, "hide 1 1");
    }

    /** Two links, of which none is hidden and none mended. */
    private static void asMade(Both both) {
        stock(both);
        makeAll(both, "call 0 2", "begin 2 1 5 9", "seat 1 1", "clear", "add 0", "offer 2", "choose 0");
        makeAll(both, "add 2", "add 6", "offer 1", "choose 0", "add 7", "add 6");
    }

    private static void twoLinks(Both both) {
        makeAll(both, "clear", "add 0", "offer 0", "choose 0", "add 1", "offer 1", "choose 0");
        makeAll(both, "copy -1", "mend 0 5", "mend 0 9", "copy -1", "copy 0");
        makeAll(both, "write 1 1 0 3", "write 2 0 0 4", "write 2 1 0 6");
        makeAll(both, "give 0 0 3", "give 1 0 0", "give 3 1 10", "add 7", "add 6");
    }

    /** All questions twice: what one changes, the next ones or those of the other time tell. */
    private static void questions(Both both) {
        for (int time = 0; time < 2; time++) {
            makeAll(both, "why", "links", "offers", "prize");
            for (int poet = 0; poet <= POETS; poet++) {
                both.same("chances", poet);
            }
            for (int link = 0; link < both.plain.links(); link++) {
                link(both, link);
                both.same("faultAnew", link);
                both.same("hand", link);
            }
            for (int copy = 0; copy <= COPIES; copy++) {
                both.same("source", copy);
                for (int other = NONE; other < copy; other++) {
                    both.same("far", copy, other);
                }
            }
        }
    }

    private static void link(Both both, int link) {
        for (int what = 0; what <= 5; what++) {
            both.same("ofLink", link, what);
        }
        for (int place = 0; place <= 2; place++) {
            both.same("wordAt", link, place);
        }
    }

    private static void latest(Both both) {
        link(both, both.plain.links() - 1);
    }

    private static void offers(Both both) {
        make(both, "choose 0");
        latest(both);
    }

    private static void otherOffers(Both both) {
        make(both, "choose 2");
        make(both, "choose 1");
        latest(both);
    }

    private static void seats(Both both) {
        make(both, "choose 0");
        for (int link = 0; link <= 4; link++) {
            both.same("seat", link, 0);
        }
    }

    private static void points(Both both) {
        for (int link = 0; link <= 2; link++) {
            for (int judge = 0; judge < 4; judge++) {
                both.same("give", judge, link, 0);
            }
        }
    }

    private static void draft(Both both) {
        for (int poet = 0; poet < POETS; poet++) {
            both.same("offer", poet);
            make(both, "why");
        }
        make(both, "clear");
        both.same("choose", both.plain.offers() - 1);
        latest(both);
    }

    /** The draft of a finished or a begun poem is told by a new one, which has no seats. */
    private static void draftOfANewPoem(Both both) {
        make(both, "begin 2 0 5 5");
        make(both, "seat 0 1");
        makeAll(both, "offer 0", "why", "clear", "choose 0");
        latest(both);
    }

    private static void wordsAndPoets(Both both) {
        makeAll(both, "word 1 -1 0", "word 1 -1 0", "poet", "clear", "add 9", "add 11");
    }

    private static void calls(Both both) {
        for (int word = 0; word < WORDS; word++) {
            for (int other = 0; other < word; other++) {
                both.same("call", word, other);
            }
        }
    }

    private static void rowsOfOneWord(Both both) {
        make(both, "choose 0");
        for (int word = 0; word < WORDS; word++) {
            make(both, "clear");
            both.same("add", word);
            both.same("offer", word % 2 * 2);
            make(both, "why");
        }
    }

    /** Seasons by rows that are mixed, and both by links, if a new poem can be begun. */
    private static void seasonsAndSigns(Both both) {
        makeAll(both, "begin 2 0 12 12", "clear", "add 0", "add 3", "offer 0", "why");
        makeAll(both, "clear", "add 3", "add 4", "offer 0", "why", "clear", "add 4", "add 5", "offer 0");
        makeAll(both, "why", "begin 2 0 8 8", "clear", "add 8", "add 0", "offer 0", "why", "clear");
        makeAll(both, "begin 2 0 5 7", "add 0", "offer 0", "choose 0", "add 1", "offer 1", "choose 0");
        twoOfThem(both);
        makeAll(both, "begin 2 0 5 7", "seat 0 1", "add 2", "offer 0", "choose 0", "add 3", "offer 1");
        make(both, "choose 0");
        twoOfThem(both);
        makeAll(both, "begin 2 0 5 7", "seat 0 1", "add 4", "offer 0", "choose 0", "add 5", "offer 1");
        make(both, "choose 0");
        twoOfThem(both);
        makeAll(both, "begin 2 0 5 7", "seat 0 1", "seat 1 2", "add 6", "add 7", "offer 0", "choose 0");
        makeAll(both, "add 8", "add 6", "offer 1", "choose 0");
        twoOfThem(both);
        makeAll(both, "begin 2 0 5 7", "seat 0 2", "add 8", "add 9", "offer 0", "choose 0");
        twoOfThem(both);
    }

    private static void twoOfThem(Both both) {
        makeAll(both, "ofLink 0 1", "ofLink 0 2", "ofLink 1 1", "ofLink 1 2");
    }

    private static void mending(Both both) {
        make(both, "choose 0");
        for (int word = 0; word < WORDS; word++) {
            both.same("mend", 0, word);
            make(both, "why");
            both.same("mend", 1, word);
            make(both, "why");
        }
        latest(both);
    }

    /** Links up to the end of the poem, then a new one: with words again, as the span lets them. */
    private static void nextLinks(Both both) {
        makeAll(both, "choose 0", "clear", "add 2", "offer 0", "choose 0", "clear", "add 2", "add 9");
        makeAll(both, "offer 2", "why", "clear", "add 5", "offer 2", "why", "clear", "add 8", "add 6");
        makeAll(both, "offer 1", "why", "choose 0", "mend 1 7", "why", "mend 0 8", "ofLink 3 1");
        makeAll(both, "links", "prize", "hand 0", "hand 1", "begin 3 2 7 5", "chances 0", "chances 2");
        makeAll(both, "clear", "add 1", "offer 0", "choose 0", "clear", "add 0", "offer 0", "why");
    }
}

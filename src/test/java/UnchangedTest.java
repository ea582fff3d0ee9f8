import java.util.function.Consumer;

/** A call that throws changes nothing, and neither does a question. */
public final class UnchangedTest {
    private static final int NONE = RengaHall.NONE;
    private static final Expect t = new Expect("UnchangedTest");
    private static final String due = told(hall());

    public static void main(String[] args) {
        wrongWords();
        wrongPoemCalls();
        wrongCallsForJudgesCopiesHands();
        wrongQuestions();
        questions();
        fullHall();
        t.end();
    }

    /** In the midst of a poem: 3 of 6 links, 2 offers, 2 words in the draft, 2 copies. */
    private static RengaHall hall() {
        RengaHall hall = Halls.plain(6, 6);
        Halls.link(hall, 0, 0);
        Halls.link(hall, 1, 1);
        Halls.link(hall, 0, 2);
        hall.mend(0, 3);
        hall.give(1, 2, 4);
        hall.give(2, 1, 5);
        hall.hide(0, true);
        hall.copy(NONE);
        hall.copy(0);
        hall.write(1, 1, 0, 5);
        hall.seat(5, 2);
        Halls.offer(hall, 0, 4);
        Halls.offer(hall, 1, 4);
        Halls.offer(hall, 1, 5);
        hall.add(1);
        hall.add(0);
        return hall;
    }

    /** All that questions tell, then what other calls tell of the draft, the offers and seats. */
    private static String told(RengaHall hall) {
        StringBuilder all = new StringBuilder(Halls.all(hall, 2, 2));
        all.append("\nsize ").append(hall.add(2)).append(" refused ").append(hall.offer(1));
        all.append(' ').append(hall.why()).append(" size ").append(hall.clear());
        all.append(" link ").append(hall.choose(1)).append(' ').append(hall.wordAt(3, 0));
        for (int link = 4; link < 6; link++) {
            all.append(" seat ").append(hall.seat(link, 0));
        }
        for (int judge = 0; judge < 4; judge++) {
            all.append(" points");
            for (int link = 0; link < 4; link++) {
                all.append(' ').append(hall.give(judge, link, 0));
            }
        }
        all.append(" calls ").append(hall.call(0, 5));
        all.append(" word ").append(hall.word(1, NONE, 0)).append(" poet ").append(hall.poet());
        return all.toString();
    }

    private static void throwing(String what, Class<? extends RuntimeException> e,
            Consumer<RengaHall> call) {
        RengaHall hall = hall();
        t.refuses(what, e, () -> call.accept(hall));
        t.same("behind " + what, told(hall), due);
    }

    private static void noSuch(String what, Consumer<RengaHall> call) {
        throwing(what, IndexOutOfBoundsException.class, call);
    }

    private static void outOfRange(String what, Consumer<RengaHall> call) {
        throwing(what, IllegalArgumentException.class, call);
    }

    private static void notNow(String what, Consumer<RengaHall> call) {
        throwing(what, IllegalStateException.class, call);
    }

    private static void wrongWords() {
        outOfRange("word, sounds", h -> h.word(13, 0, 0));
        outOfRange("word, season", h -> h.word(1, 4, 0));
        outOfRange("word, signs", h -> h.word(1, 0, 1024));
        noSuch("call, word", h -> h.call(6, 0));
        noSuch("call, other", h -> h.call(0, 6));
        outOfRange("call, the same", h -> h.call(3, 3));
    }

    private static void wrongPoemCalls() {
        outOfRange("begin, links", h -> h.begin(37, 0, 5, 5));
        outOfRange("begin, second", h -> h.begin(4, 0, 5, 41));
        notNow("begin", h -> h.begin(4, 0, 5, 5));
        noSuch("seat, link", h -> h.seat(2, 1));
        outOfRange("seat, what", h -> h.seat(4, 3));
        notNow("seat", h -> h.seat(4, 1));
        noSuch("add", h -> h.add(6));
        noSuch("offer", h -> h.offer(2));
        noSuch("choose", h -> h.choose(2));
        noSuch("mend, place", h -> h.mend(1, 4));
        noSuch("mend, word", h -> h.mend(0, 6));
        notNow("mend", h -> h.mend(0, 4));
    }

    private static void wrongCallsForJudgesCopiesHands() {
        noSuch("give, judge", h -> h.give(4, 0, 1));
        noSuch("give, link", h -> h.give(0, 3, 1));
        outOfRange("give, points", h -> h.give(1, 2, 11));
        noSuch("copy", h -> h.copy(2));
        noSuch("write, copy", h -> h.write(2, 0, 0, 1));
        noSuch("write, link", h -> h.write(0, 3, 0, 1));
        noSuch("write, place", h -> h.write(0, 0, 1, 1));
        noSuch("write, word", h -> h.write(0, 0, 0, 6));
        noSuch("hide", h -> h.hide(3, true));
    }

    private static void wrongQuestions() {
        noSuch("ofLink, link", h -> h.ofLink(3, 0));
        outOfRange("ofLink, what", h -> h.ofLink(0, 6));
        noSuch("wordAt, link", h -> h.wordAt(3, 0));
        noSuch("wordAt, place", h -> h.wordAt(0, 1));
        noSuch("faultAnew", h -> h.faultAnew(3));
        noSuch("chances", h -> h.chances(2));
        noSuch("far, copy", h -> h.far(2, 0));
        noSuch("far, other", h -> h.far(0, 2));
        noSuch("source", h -> h.source(2));
        noSuch("hand", h -> h.hand(3));
    }

    private static void questions() {
        RengaHall hall = hall();
        String first = Halls.all(hall, 2, 2);
        t.same("asked twice", Halls.all(hall, 2, 2), first);
        t.same("behind questions", told(hall), due);
    }

    /** The limits: 40 words, 6 poets, 6 words in a draft, 4 offers, 8 copies. */
    private static void fullHall() {
        RengaHall hall = Halls.withPoets(6);
        for (int word = 0; word < 40; word++) {
            hall.word(5, NONE, 0);
        }
        hall.begin(2, 0, 5, 5);
        for (int count = 0; count < 4; count++) {
            Halls.offer(hall, count, count);
        }
        for (int count = 0; count < 8; count++) {
            hall.copy(NONE);
        }
        for (int count = 0; count < 6; count++) {
            hall.add(count);
        }
        String before = Halls.all(hall, 6, 8);
        t.notNow("word", () -> hall.word(5, NONE, 0));
        t.notNow("poet", hall::poet);
        t.notNow("add", () -> hall.add(7));
        t.notNow("offer", () -> hall.offer(0));
        t.notNow("copy", () -> hall.copy(7));
        t.same("behind all limits", Halls.all(hall, 6, 8), before);
        t.is("the draft", hall.clear(), 6);
        t.is("the last offer", hall.choose(3), 0);
        t.is("its word", hall.wordAt(0, 0), 3);
        t.noSuch("word 40", () -> hall.add(40));
        t.noSuch("poet 6", () -> hall.chances(6));
        t.noSuch("copy 8", () -> hall.source(8));
    }
}

import java.util.function.Consumer;
import java.util.function.Supplier;

/**
 * Each exception that a call names, which of several is thrown, and that a call that throws
 * changes nothing, in halls where there is nothing yet, something, and as much as is kept.
 */
public final class ThrowsTest {
    private static final int NONE = RengaHall.NONE;
    private static final Expect t = new Expect("ThrowsTest");

    private final String state;
    private final Supplier<RengaHall> made;
    private final String[] due;

    /** A state with so many offers; what they are is told by choosing another one each time. */
    private ThrowsTest(String state, int offers, Supplier<RengaHall> made) {
        this.state = state;
        this.made = made;
        due = new String[Math.max(offers, 1)];
        for (int offer = 0; offer < due.length; offer++) {
            due[offer] = Told.all(made.get(), offer);
        }
    }

    public static void main(String[] args) {
        ThrowsTest fresh = new ThrowsTest("new hall", 0, RengaHall::new);
        fresh.ranges();
        fresh.nothingThere();
        fresh.notNow("copy", h -> h.copy(NONE));
        fresh.notNow("far", h -> h.far(NONE, NONE));
        withoutAPoem(new ThrowsTest("hall without a poem", 0, ThrowsTest::stocked));
        withoutLinks(new ThrowsTest("poem without links", 1, ThrowsTest::begun));
        ThrowsTest full = new ThrowsTest("full hall", 4, ThrowsTest::full);
        fullWordsAndPoets(full);
        fullPoem(full);
        fullJudgesCopiesHands(full);
        fullQuestions(full);
        finished(new ThrowsTest("finished poem", 0, ThrowsTest::ended));
        t.end();
    }

    /** 40 words of 5 sounds, 6 poets, and 6 words in the draft. */
    private static RengaHall stocked() {
        RengaHall hall = Halls.withPoets(6);
        Halls.addWords(hall, 40);
        addDraft(hall);
        return hall;
    }

    private static void addDraft(RengaHall hall) {
        for (int word = 11; word <= 16; word++) {
            hall.add(word);
        }
    }

    /** And a poem without links, for which an offer is kept. */
    private static RengaHall begun() {
        RengaHall hall = stocked();
        hall.begin(36, 0, 5, 30);
        hall.seat(0, 1);
        hall.seat(35, 2);
        hall.offer(0);
        hall.seat(0, 0);
        Halls.offer(hall, 0, 0);
        hall.call(11, 0);
        addDraft(hall);
        return hall;
    }

    /** And two links, one hidden, one mended, with points, 4 offers and 8 copies. */
    private static RengaHall full() {
        RengaHall hall = begun();
        hall.choose(0);
        makeSecond(hall);
        hall.seat(5, 1);
        for (int word = 7; word <= 10; word++) {
            hall.call(word, 1);
            hall.call(word, 11);
            Halls.offer(hall, word == 7 ? 0 : word - 6, word);
        }
        addDraft(hall);
        return hall;
    }

    /** And 2 links of 2, and no offers. */
    private static RengaHall ended() {
        RengaHall hall = stocked();
        hall.begin(2, 10, 5, 30);
        Halls.link(hall, 0, 0);
        makeSecond(hall);
        addDraft(hall);
        return hall;
    }

    private static void makeSecond(RengaHall hall) {
        hall.call(0, 1);
        hall.copy(NONE);
        t.is("link 1", Halls.link(hall, 1, 1, 2, 3, 4, 5, 6), 1);
        t.is("mended", hall.mend(5, 17), 0);
        hall.hide(0, true);
        hall.give(0, 0, 10);
        hall.give(3, 1, 4);
        for (int copy = 1; copy < 8; copy++) {
            hall.copy(copy % 3 - 1);
            hall.write(copy, 0, 0, copy);
        }
    }

    private void throwing(String what, Class<? extends RuntimeException> e, Consumer<RengaHall> call) {
        for (int offer = 0; offer < due.length; offer++) {
            RengaHall hall = made.get();
            t.refuses(state + ", " + what, e, () -> call.accept(hall));
            t.same(state + ", behind " + what, Told.all(hall, offer), due[offer]);
        }
    }

    private void noSuch(String what, Consumer<RengaHall> call) {
        throwing(what, IndexOutOfBoundsException.class, call);
    }

    private void outOfRange(String what, Consumer<RengaHall> call) {
        throwing(what, IllegalArgumentException.class, call);
    }

    private void notNow(String what, Consumer<RengaHall> call) {
        throwing(what, IllegalStateException.class, call);
    }

    /** Arguments out of their range, which are told ahead of any state. */
    private void ranges() {
        outOfRange("word, sounds 0", h -> h.word(0, 0, 0));
        outOfRange("word, sounds 13", h -> h.word(13, 0, 0));
        outOfRange("word, season -2", h -> h.word(1, -2, 0));
        outOfRange("word, season 4", h -> h.word(1, 4, 0));
        outOfRange("word, signs -1", h -> h.word(1, 0, -1));
        outOfRange("word, signs 1024", h -> h.word(1, 0, 1024));
        outOfRange("begin, links 1", h -> h.begin(1, 1, 6, 6));
        outOfRange("begin, links 37", h -> h.begin(37, 1, 6, 6));
        outOfRange("begin, span -1", h -> h.begin(3, -1, 6, 6));
        outOfRange("begin, span 11", h -> h.begin(3, 11, 6, 6));
        outOfRange("begin, first 1", h -> h.begin(3, 1, 1, 6));
        outOfRange("begin, first 41", h -> h.begin(3, 1, 41, 6));
        outOfRange("begin, second 1", h -> h.begin(3, 1, 6, 1));
        outOfRange("begin, second 41", h -> h.begin(3, 1, 6, 41));
    }

    private void nothingThere() {
        noSuch("call", h -> h.call(0, 1));
        noSuch("call, the same", h -> h.call(0, 0));
        noSuch("add", h -> h.add(0));
        noSuch("offer", h -> h.offer(0));
        noSuch("chances", h -> h.chances(0));
        noSuch("seat", h -> h.seat(0, 0));
        noSuch("seat, what", h -> h.seat(0, 3));
        noLinksAndCopies();
    }

    private void noLinksAndCopies() {
        noSuch("mend", h -> h.mend(0, 0));
        noSuch("give", h -> h.give(0, 0, 0));
        noSuch("give, points", h -> h.give(0, 0, 11));
        noSuch("copy", h -> h.copy(0));
        noSuch("write", h -> h.write(0, 0, 0, 0));
        noSuch("hide", h -> h.hide(0, true));
        noSuch("ofLink", h -> h.ofLink(0, 0));
        noSuch("ofLink, what", h -> h.ofLink(0, 6));
        noSuch("wordAt", h -> h.wordAt(0, 0));
        noSuch("faultAnew", h -> h.faultAnew(0));
        noSuch("far, copy", h -> h.far(0, NONE));
        noSuch("far, other", h -> h.far(NONE, 0));
        noSuch("source", h -> h.source(0));
        noSuch("hand", h -> h.hand(0));
    }

    private static void withoutAPoem(ThrowsTest it) {
        it.ranges();
        it.noLinksAndCopies();
        it.notNow("word", h -> h.word(1, 0, 0));
        it.noSuch("call, word", h -> h.call(40, 0));
        it.noSuch("call, other", h -> h.call(0, 40));
        it.noSuch("call, the same", h -> h.call(40, 40));
        it.outOfRange("call, the same", h -> h.call(39, 39));
        it.notNow("poet", RengaHall::poet);
        it.noSuch("seat", h -> h.seat(0, 0));
        it.noSuch("add", h -> h.add(40));
        it.notNow("add", h -> h.add(0));
        it.noSuch("offer", h -> h.offer(6));
        it.notNow("offer", h -> h.offer(5));
        it.noSuch("choose", h -> h.choose(0));
        it.notNow("copy", h -> h.copy(NONE));
        it.notNow("far", h -> h.far(NONE, NONE));
        it.noSuch("chances", h -> h.chances(6));
    }

    private static void withoutLinks(ThrowsTest it) {
        it.ranges();
        it.noLinksAndCopies();
        it.noSuch("seat, link -1", h -> h.seat(-1, 1));
        it.noSuch("seat, link 36", h -> h.seat(36, 1));
        it.noSuch("seat, link ahead of what and offers", h -> h.seat(36, 3));
        it.outOfRange("seat, what -1", h -> h.seat(0, -1));
        it.outOfRange("seat, what 3", h -> h.seat(0, 3));
        it.notNow("seat, the next", h -> h.seat(0, 1));
        it.notNow("seat, the last", h -> h.seat(35, 1));
        it.noSuch("choose 1", h -> h.choose(1));
        it.noSuch("choose -1", h -> h.choose(-1));
    }

    private static void fullWordsAndPoets(ThrowsTest it) {
        it.ranges();
        it.notNow("word", h -> h.word(12, NONE, 1023));
        it.noSuch("call, word 40", h -> h.call(40, 2));
        it.noSuch("call, word -1", h -> h.call(-1, 2));
        it.noSuch("call, other 40", h -> h.call(2, 40));
        it.noSuch("call, other -1", h -> h.call(2, -1));
        it.noSuch("call, the same", h -> h.call(-1, -1));
        it.outOfRange("call, the same", h -> h.call(3, 3));
        it.notNow("poet", RengaHall::poet);
    }

    private static void fullPoem(ThrowsTest it) {
        it.notNow("begin", h -> h.begin(2, 10, 7, 7));
        it.noSuch("seat, link 1", h -> h.seat(1, 1));
        it.noSuch("seat, link ahead of what and offers", h -> h.seat(1, 3));
        it.outOfRange("seat, what", h -> h.seat(2, 3));
        it.notNow("seat", h -> h.seat(2, 1));
        it.noSuch("add, word 40", h -> h.add(40));
        it.noSuch("add, word -1", h -> h.add(-1));
        it.notNow("add", h -> h.add(39));
        it.noSuch("offer, poet 6", h -> h.offer(6));
        it.noSuch("offer, poet -1", h -> h.offer(-1));
        it.notNow("offer", h -> h.offer(0));
        it.noSuch("choose 4", h -> h.choose(4));
        it.noSuch("choose -1", h -> h.choose(-1));
        it.noSuch("mend, place 6", h -> h.mend(6, 1));
        it.noSuch("mend, place -1", h -> h.mend(-1, 1));
        it.noSuch("mend, word 40", h -> h.mend(0, 40));
        it.noSuch("mend, word -1", h -> h.mend(0, -1));
        it.notNow("mend", h -> h.mend(0, 1));
        it.notNow("mend, a fault", h -> h.mend(0, 2));
    }

    private static void fullJudgesCopiesHands(ThrowsTest it) {
        it.noSuch("give, judge 4", h -> h.give(4, 0, 1));
        it.noSuch("give, judge -1", h -> h.give(-1, 0, 1));
        it.noSuch("give, link 2", h -> h.give(0, 2, 1));
        it.noSuch("give, link -1", h -> h.give(0, -1, 1));
        it.noSuch("give, judge ahead of points", h -> h.give(4, 0, 11));
        it.noSuch("give, link ahead of points", h -> h.give(0, 2, -1));
        it.outOfRange("give, points 11", h -> h.give(0, 0, 11));
        it.outOfRange("give, points -1", h -> h.give(3, 1, -1));
        it.noSuch("copy 8", h -> h.copy(8));
        it.noSuch("copy -2", h -> h.copy(-2));
        it.notNow("copy 7", h -> h.copy(7));
        it.notNow("copy", h -> h.copy(NONE));
        it.noSuch("write, copy 8", h -> h.write(8, 0, 0, 39));
        it.noSuch("write, copy -1", h -> h.write(-1, 0, 0, 39));
        it.noSuch("write, link 1 of copy 0", h -> h.write(0, 1, 0, 39));
        it.noSuch("write, link 2", h -> h.write(7, 2, 0, 39));
        it.noSuch("write, link -1", h -> h.write(7, -1, 0, 39));
        it.noSuch("write, place 1", h -> h.write(7, 0, 1, 39));
        it.noSuch("write, place -1", h -> h.write(7, 0, -1, 39));
        it.noSuch("write, word 40", h -> h.write(7, 0, 0, 40));
        it.noSuch("write, word -1", h -> h.write(7, 0, 0, -1));
        it.noSuch("hide, link 2", h -> h.hide(2, true));
        it.noSuch("hide, link -1", h -> h.hide(-1, true));
    }

    private static void fullQuestions(ThrowsTest it) {
        it.noSuch("ofLink, link 2", h -> h.ofLink(2, 0));
        it.noSuch("ofLink, link -1", h -> h.ofLink(-1, 0));
        it.noSuch("ofLink, link ahead of what", h -> h.ofLink(2, 6));
        it.outOfRange("ofLink, what 6", h -> h.ofLink(1, 6));
        it.outOfRange("ofLink, what -1", h -> h.ofLink(1, -1));
        it.noSuch("wordAt, link 2", h -> h.wordAt(2, 0));
        it.noSuch("wordAt, link -1", h -> h.wordAt(-1, 0));
        it.noSuch("wordAt, place 1", h -> h.wordAt(0, 1));
        it.noSuch("wordAt, place 6", h -> h.wordAt(1, 6));
        it.noSuch("wordAt, place -1", h -> h.wordAt(1, -1));
        it.noSuch("faultAnew 2", h -> h.faultAnew(2));
        it.noSuch("faultAnew -1", h -> h.faultAnew(-1));
        it.noSuch("chances 6", h -> h.chances(6));
        it.noSuch("chances -1", h -> h.chances(-1));
        it.noSuch("far, copy 8", h -> h.far(8, 0));
        it.noSuch("far, copy -2", h -> h.far(-2, 0));
        it.noSuch("far, other 8", h -> h.far(0, 8));
        it.noSuch("far, other -2", h -> h.far(0, -2));
        it.noSuch("source 8", h -> h.source(8));
        it.noSuch("source -1", h -> h.source(-1));
        it.noSuch("hand 2", h -> h.hand(2));
        it.noSuch("hand -1", h -> h.hand(-1));
    }

    private static void finished(ThrowsTest it) {
        it.ranges();
        it.noSuch("seat, the last", h -> h.seat(1, 0));
        it.noSuch("seat, behind it", h -> h.seat(2, 3));
        it.noSuch("offer", h -> h.offer(6));
        it.notNow("offer", h -> h.offer(0));
        it.notNow("offer of the other one", h -> h.offer(1));
        it.noSuch("choose", h -> h.choose(0));
        it.noSuch("mend, place 6", h -> h.mend(6, 1));
        it.noSuch("mend, word 40", h -> h.mend(0, 40));
        it.notNow("copy", h -> h.copy(NONE));
    }
}

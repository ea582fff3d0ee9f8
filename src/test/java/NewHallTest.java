/** Promise 1: a new object has no words, poets and poem, and so nothing that is made of them. */
public final class NewHallTest {
    private static final int NONE = RengaHall.NONE;
    private static final Expect t = new Expect("NewHallTest");

    public static void main(String[] args) {
        noWords();
        noPoets();
        noPoem();
        noLinksOffersAndCopies();
        noOffers();
        noPoints();
        noRefusal();
        emptyDraft();
        firstWordsOfTheDraft();
        nothingOfAnotherHall();
        upToThe512thCall();
        t.end();
    }

    private static void noWords() {
        RengaHall hall = Halls.withPoets(1);
        hall.begin(2, 0, 5, 5);
        t.noSuch("add", () -> hall.add(0));
        t.noSuch("call of two", () -> hall.call(0, 1));
        t.noSuch("call of the same", () -> hall.call(0, 0));
        t.is("no row can be made", hall.chances(0), 0);
        t.is("the first word", hall.word(5, NONE, 0), 0);
        t.noSuch("call of one word and no other", () -> hall.call(0, 1));
        t.is("one row", hall.chances(0), 1);
    }

    private static void noPoets() {
        RengaHall hall = new RengaHall();
        hall.word(5, NONE, 0);
        hall.begin(2, 0, 5, 5);
        hall.add(0);
        t.noSuch("offer", () -> hall.offer(0));
        t.noSuch("chances", () -> hall.chances(0));
        t.is("nobody has the prize", hall.prize(), NONE);
        t.is("the first poet", hall.poet(), 0);
        t.is("offer", hall.offer(0), 0);
    }

    private static void noPoem() {
        RengaHall hall = Halls.withPoets(1);
        hall.word(5, NONE, 0);
        hall.add(0);
        t.noSuch("seat", () -> hall.seat(0, 0));
        t.notNow("offer", () -> hall.offer(0));
        t.notNow("copy", () -> hall.copy(NONE));
        t.notNow("far", () -> hall.far(NONE, NONE));
        t.is("links", hall.links(), 0);
        t.is("chances", hall.chances(0), 0);
        noneMade(hall);
        hall.begin(2, 0, 5, 5);
        t.is("seat", hall.seat(0, 0), 0);
        t.is("offer of the draft made ahead of it", hall.offer(0), 0);
    }

    private static void noLinksOffersAndCopies() {
        RengaHall hall = Halls.withPoets(1);
        hall.word(5, NONE, 0);
        hall.begin(2, 0, 5, 5);
        t.is("links", hall.links(), 0);
        noneMade(hall);
        t.is("a copy of no links", hall.copy(NONE), 0);
        t.noSuch("write", () -> hall.write(0, 0, 0, 0));
        t.is("far", hall.far(NONE, 0), 0);
        t.is("source", hall.source(0), NONE);
    }

    /** What there is neither without a poem nor in one that was begun just now. */
    private static void noneMade(RengaHall hall) {
        t.is("offers", hall.offers(), 0);
        t.noSuch("choose", () -> hall.choose(0));
        t.noSuch("mend", () -> hall.mend(0, 0));
        t.noSuch("give", () -> hall.give(0, 0, 0));
        t.noSuch("copy of a copy", () -> hall.copy(0));
        t.noSuch("write", () -> hall.write(0, 0, 0, 0));
        t.noSuch("hide", () -> hall.hide(0, true));
        t.noSuch("ofLink", () -> hall.ofLink(0, 0));
        t.noSuch("wordAt", () -> hall.wordAt(0, 0));
        t.noSuch("faultAnew", () -> hall.faultAnew(0));
        t.noSuch("far from a copy", () -> hall.far(NONE, 0));
        t.noSuch("source", () -> hall.source(0));
        t.noSuch("hand", () -> hall.hand(0));
    }

    private static void noOffers() {
        RengaHall hall = new RengaHall();
        t.noSuch("choose", () -> hall.choose(0));
        t.is("offers", hall.offers(), 0);
    }

    private static void noPoints() {
        t.is("no prize without a poem", new RengaHall().prize(), NONE);
        RengaHall hall = Halls.made(1, 2, 1);
        t.is("no prize without points", hall.prize(), NONE);
        t.is("no points before", hall.give(0, 0, 0), NONE);
    }

    private static void noRefusal() {
        RengaHall hall = new RengaHall();
        t.is("why", hall.why(), NONE);
    }

    private static void emptyDraft() {
        RengaHall hall = Halls.withPoets(1);
        t.is("clear", hall.clear(), 0);
        hall.begin(2, 0, 2, 2);
        t.is("it has not as many sounds as it must", hall.offer(0), -1);
        t.is("but 0", hall.why(), 0);
        t.is("clear", hall.clear(), 0);
    }

    /** What is added to a draft that was never emptied is all that is in it. */
    private static void firstWordsOfTheDraft() {
        for (int season = NONE; season <= RengaHall.WINTER; season++) {
            RengaHall hall = Halls.withPoets(1);
            hall.word(2, NONE, 8);
            hall.word(3, season, 1);
            hall.begin(2, 10, 5, 5);
            t.is("add", hall.add(0), 1);
            t.is("add", hall.add(1), 2);
            t.is("offer", hall.offer(0), 0);
            t.is("choose", hall.choose(0), 0);
            t.is("its season", hall.ofLink(0, 1), season);
            t.is("its signs", hall.ofLink(0, 2), 9);
            t.is("its words", hall.ofLink(0, 3), 2);
        }
    }

    private static void nothingOfAnotherHall() {
        RengaHall other = Halls.made(3, 3, 2);
        other.copy(NONE);
        other.give(0, 0, 1);
        other.mend(0, 0);
        Halls.offer(other, 1, 2, 2);
        RengaHall hall = new RengaHall();
        t.is("links", hall.links(), 0);
        t.is("why", hall.why(), NONE);
        t.is("prize", hall.prize(), NONE);
        t.is("draft", hall.clear(), 0);
        t.is("word", hall.word(1, NONE, 0), 0);
        t.is("poet", hall.poet(), 0);
        t.noSuch("no poem", () -> hall.seat(0, 0));
        t.is("the other one stays", other.links(), 2);
        t.is("its draft too", other.clear(), 2);
    }

    /** Two poets, two words, their call and begin are 6 calls; then 126 times 4, and 2. */
    private static void upToThe512thCall() {
        RengaHall hall = Halls.plain(2, 2);
        for (int time = 0; time < 126; time++) {
            t.is("clear", hall.clear(), 0);
            t.is("offer", hall.offer(0), -1);
            t.is("add", hall.add(time % 2), 1);
            t.is("clear", hall.clear(), 1);
        }
        t.is("the 511th call", hall.add(1), 1);
        t.is("the 512th call", hall.offer(1), 0);
    }
}

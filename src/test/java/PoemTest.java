/** Promises 5 to 12: begin, seat, add, clear, offer, why, choose, mend. */
public final class PoemTest {
    private static final int NONE = RengaHall.NONE;
    private static final Expect t = new Expect("PoemTest");

    public static void main(String[] args) {
        beginRanges();
        beginState();
        beginAnew();
        seats();
        seatArguments();
        draft();
        offers();
        offerState();
        causes();
        choosing();
        mending();
        mendFaults();
        mendArguments();
        t.end();
    }

    private static void beginRanges() {
        RengaHall hall = new RengaHall();
        t.outOfRange("links 1", () -> hall.begin(1, 0, 5, 5));
        t.outOfRange("links 37", () -> hall.begin(37, 0, 5, 5));
        t.outOfRange("span -1", () -> hall.begin(2, -1, 5, 5));
        t.outOfRange("span 11", () -> hall.begin(2, 11, 5, 5));
        t.outOfRange("first 1", () -> hall.begin(2, 0, 1, 5));
        t.outOfRange("first 41", () -> hall.begin(2, 0, 41, 5));
        t.outOfRange("second 1", () -> hall.begin(2, 0, 5, 1));
        t.outOfRange("second 41", () -> hall.begin(2, 0, 5, 41));
        t.notNow("no poem was begun", () -> hall.copy(NONE));
        hall.begin(2, 0, 2, 2);
        hall.begin(36, 10, 40, 40);
        t.is("36 links", hall.seat(35, 0), 0);
        t.is("none made", hall.links(), 0);
    }

    private static void beginState() {
        RengaHall hall = Halls.plain(3, 2);
        hall.begin(2, 0, 5, 5);
        Halls.link(hall, 0, 0);
        t.notNow("a link was made", () -> hall.begin(2, 0, 5, 5));
        t.outOfRange("range ahead of the state", () -> hall.begin(1, 0, 5, 5));
        t.is("the poem stays", hall.links(), 1);
        t.is("the poem stays", hall.wordAt(0, 0), 0);
        Halls.link(hall, 1, 1);
        hall.begin(3, 0, 5, 5);
        t.is("anew when finished", hall.links(), 0);
        t.is("its length", hall.seat(2, 0), 0);
    }

    private static void beginAnew() {
        RengaHall hall = Halls.plain(3, 2);
        hall.add(0);
        hall.offer(0);
        hall.begin(2, 0, 5, 5);
        t.is("offers are gone", hall.offers(), 0);
        hall.seat(0, 2);
        hall.seat(1, 1);
        hall.add(1);
        hall.add(2);
        hall.begin(2, 0, 5, 5);
        t.noSuch("offers are gone", () -> hall.choose(0));
        t.is("the seat of the first is gone", hall.seat(0, 0), 0);
        t.is("seats are gone", hall.seat(1, 0), 0);
        t.is("the draft stays", hall.clear(), 2);
        Halls.link(hall, 0, 0);
        Halls.link(hall, 1, 1);
        hall.mend(0, 2);
        hall.give(0, 0, 5);
        hall.hide(0, true);
        hall.copy(NONE);
        hall.begin(2, 0, 5, 5);
        t.is("points are gone", hall.prize(), NONE);
        t.noSuch("links are gone", () -> hall.ofLink(0, 0));
        t.noSuch("copies are gone", () -> hall.source(0));
        Halls.link(hall, 1, 1);
        Halls.link(hall, 0, 0);
        t.is("points of link 0 are gone", hall.give(0, 0, 1), NONE);
        t.is("link 0 is not hidden", hall.hide(0, false), false);
        t.is("link 1 is not mended", hall.ofLink(1, 5), 0);
        t.is("copies are numbered anew", hall.copy(NONE), 0);
    }

    private static void seats() {
        RengaHall hall = Halls.withPoets(2);
        hall.word(5, NONE, 1);
        hall.word(5, NONE, 1 | 1 << RengaHall.MOON);
        hall.word(5, NONE, 1 | 1 << RengaHall.BLOSSOM);
        hall.begin(4, 0, 5, 5);
        t.is("none before", hall.seat(0, 1), 0);
        t.is("MOON before", hall.seat(0, 2), 1);
        t.is("BLOSSOM before", hall.seat(0, 1), 2);
        t.is("last link", hall.seat(3, 2), 0);
        t.is("no MOON", Halls.link(hall, 0, 0), -8);
        t.is("cause", hall.why(), 1);
        t.is("BLOSSOM in its stead: no MOON is lower", Halls.link(hall, 0, 2), -8);
        t.is("cause", hall.why(), 1);
        t.is("MOON", Halls.link(hall, 0, 1), 0);
        t.is("MOON out of its seat", Halls.link(hall, 1, 1), -8);
        t.is("cause", hall.why(), 1);
        t.is("BLOSSOM out of its seat", Halls.link(hall, 1, 2), -8);
        t.is("cause", hall.why(), 2);
        t.is("seat", hall.seat(1, 2), 0);
        t.is("no BLOSSOM", Halls.link(hall, 1, 0), -8);
        t.is("cause", hall.why(), 2);
        t.is("seat taken back", hall.seat(1, 0), 2);
        t.is("neither", Halls.link(hall, 1, 0), 1);
    }

    private static void seatArguments() {
        RengaHall hall = Halls.plain(2, 3);
        Halls.link(hall, 0, 0);
        t.noSuch("made already", () -> hall.seat(0, 0));
        t.noSuch("behind the last", () -> hall.seat(3, 0));
        t.noSuch("below 0", () -> hall.seat(-1, 0));
        t.noSuch("link ahead of what", () -> hall.seat(3, 3));
        t.outOfRange("what -1", () -> hall.seat(1, -1));
        t.outOfRange("what 3", () -> hall.seat(1, 3));
        Halls.offer(hall, 1, 1);
        t.notNow("offers are kept", () -> hall.seat(1, 1));
        t.notNow("offers are kept, for later ones too", () -> hall.seat(2, 0));
        t.outOfRange("what ahead of offers", () -> hall.seat(1, 3));
        t.noSuch("link ahead of offers", () -> hall.seat(0, 1));
        hall.choose(0);
        t.is("no seat was made", hall.seat(2, 0), 0);
        Halls.link(hall, 0, 0);
        t.noSuch("finished", () -> hall.seat(3, 0));
        t.noSuch("finished", () -> hall.seat(2, 0));
    }

    private static void draft() {
        RengaHall hall = new RengaHall();
        for (int word = 0; word < 3; word++) {
            hall.word(1, NONE, 0);
        }
        for (int size = 1; size <= 6; size++) {
            t.is("size", hall.add(size % 3), size);
        }
        t.notNow("7th", () -> hall.add(0));
        t.noSuch("word ahead of the limit", () -> hall.add(3));
        t.noSuch("below 0", () -> hall.add(-1));
        t.is("how many it had", hall.clear(), 6);
        t.is("none now", hall.clear(), 0);
        t.is("from the first", hall.add(2), 1);
        t.noSuch("no such word", () -> hall.add(3));
        t.is("unchanged", hall.clear(), 1);
    }

    private static void offers() {
        RengaHall hall = Halls.plain(3, 2);
        hall.add(0);
        t.is("kept", hall.offer(0), 0);
        t.is("the draft is empty then", hall.clear(), 0);
        hall.add(1);
        t.is("kept", hall.offer(0), 1);
        t.is("an empty draft", hall.offer(1), -1);
        hall.add(1);
        hall.add(2);
        t.is("refused", hall.offer(1), -1);
        t.is("the draft stays then", hall.clear(), 2);
        t.is("offers", hall.offers(), 2);
    }

    private static void offerState() {
        RengaHall hall = Halls.withPoets(2);
        hall.word(5, NONE, 1);
        t.notNow("no poem", () -> hall.offer(0));
        t.noSuch("poet ahead of no poem", () -> hall.offer(2));
        t.noSuch("poet below 0", () -> hall.offer(-1));
        hall.begin(2, 0, 5, 5);
        for (int offer = 0; offer < 4; offer++) {
            t.is("kept", Halls.offer(hall, offer % 2, 0), offer);
        }
        hall.add(0);
        t.notNow("5th offer", () -> hall.offer(0));
        t.notNow("5th offer, though it had a fault", () -> Halls.offer(hall, 0, 0, 0));
        t.noSuch("poet ahead of the limit", () -> hall.offer(2));
        t.is("no refusal", hall.why(), NONE);
        t.is("the draft stays", hall.clear(), 2);
        t.is("poet of offer 3", hall.choose(3) + hall.ofLink(0, 0), 1);
        Halls.link(hall, 0, 0);
        hall.add(0);
        t.notNow("finished", () -> hall.offer(1));
        t.is("the draft stays", hall.clear(), 1);
    }

    private static void causes() {
        RengaHall hall = Halls.plain(3, 2);
        t.is("none yet", hall.why(), NONE);
        Halls.offer(hall, 0, 0, 1);
        t.is("sounds", hall.why(), 10);
        Halls.link(hall, 0, 0);
        t.is("kept through offers and choices", hall.why(), 10);
        Halls.link(hall, 0, 1);
        t.is("TURN", hall.why(), 0);
        Halls.link(hall, 1, 1);
        hall.word(7, NONE, 0);
        t.is("mending refused", hall.mend(0, 3), -1);
        t.is("its cause", hall.why(), 7);
        t.is("mended", hall.mend(0, 2), 0);
        t.is("kept", hall.why(), 7);
        hall.begin(2, 0, 7, 5);
        t.is("kept through a new poem", hall.why(), 7);
        t.is("questions are no refusals", hall.chances(0), 1);
        t.is("kept", hall.why(), 7);
        hall.offer(0);
        t.is("0 of an empty draft", hall.why(), 0);
    }

    private static void choosing() {
        RengaHall hall = Halls.plain(4, 3);
        t.noSuch("none", () -> hall.choose(0));
        Halls.offer(hall, 0, 0);
        Halls.offer(hall, 1, 1);
        Halls.offer(hall, 0, 2);
        t.noSuch("3", () -> hall.choose(3));
        t.noSuch("-1", () -> hall.choose(-1));
        t.is("all are kept", hall.offers(), 3);
        hall.add(3);
        t.is("link 0", hall.choose(1), 0);
        t.is("its word", hall.wordAt(0, 0), 1);
        t.is("its poet", hall.ofLink(0, 0), 1);
        t.is("the draft stays", hall.clear(), 1);
        t.is("offers are gone", hall.offers(), 0);
        t.noSuch("offers are gone", () -> hall.choose(0));
        t.is("numbered anew", Halls.offer(hall, 0, 0), 0);
        t.is("link 1", hall.choose(0), 1);
        t.is("links", hall.links(), 2);
    }

    private static void mending() {
        RengaHall hall = Halls.withPoets(2);
        hall.word(2, NONE, 1);
        hall.word(3, RengaHall.SUMMER, 2);
        hall.word(3, RengaHall.WINTER, 4);
        hall.word(3, NONE, 1);
        hall.begin(3, 2, 5, 5);
        Halls.link(hall, 0, 0, 1);
        t.is("mended by the word that is there", hall.mend(0, 0), 0);
        t.is("it was mended then", hall.ofLink(0, 5), 1);
        t.is("by another one", hall.mend(1, 2), 0);
        t.is("the word", hall.wordAt(0, 1), 2);
        t.is("the other one", hall.wordAt(0, 0), 0);
        t.is("the season", hall.ofLink(0, 1), RengaHall.WINTER);
        t.is("the signs", hall.ofLink(0, 2), 5);
        t.is("the run", hall.ofLink(0, 4), 1);
        t.is("the poet", hall.ofLink(0, 0), 0);
        t.is("without a season", hall.mend(1, 3), 0);
        t.is("the run", hall.ofLink(0, 4), 0);
        t.is("the season", hall.ofLink(0, 1), NONE);
        hall.word(5, NONE, 1);
        Halls.link(hall, 1, 4);
        t.is("a new link is not mended", hall.ofLink(1, 5), 0);
        t.is("the one ahead stays so", hall.ofLink(0, 5), 1);
    }

    private static void mendFaults() {
        RengaHall hall = Halls.withPoets(2);
        hall.word(2, NONE, 1);
        hall.word(3, RengaHall.SUMMER, 2);
        hall.word(3, RengaHall.WINTER, 4);
        hall.word(2, RengaHall.WINTER, 4);
        hall.word(3, NONE, 8);
        hall.word(2, NONE, 16);
        hall.word(2, NONE, 256);
        hall.begin(3, 2, 5, 5);
        Halls.link(hall, 0, 0, 1);
        t.is("SOUNDS", hall.mend(0, 1), -1);
        t.is("cause", hall.why(), 6);
        t.is("MIXED", hall.mend(0, 3), -2);
        t.is("cause", hall.why(), 1);
        t.is("SEAT", hall.mend(0, 6), -8);
        t.is("cause", hall.why(), 1);
        t.is("the first link needs no joining", hall.mend(0, 5), 0);
        t.is("back", hall.mend(0, 0), 0);
        hall.call(4, 1);
        Halls.link(hall, 1, 4, 5);
        t.is("AGAIN", hall.mend(1, 0), -3);
        t.is("cause", hall.why(), 1);
        t.is("JOIN", hall.mend(0, 2), -5);
        t.is("cause", hall.why(), 0);
        t.is("unchanged", hall.wordAt(1, 0), 4);
        t.is("not mended", hall.ofLink(1, 5), 0);
        hall.call(4, 2);
        hall.word(2, NONE, 1);
        t.is("the last link", Halls.link(hall, 0, 2, 3), 2);
        t.is("LEAVE", hall.mend(1, 7), -6);
        t.is("cause", hall.why(), 0);
        t.is("SEAT", hall.mend(1, 6), -8);
        t.is("cause", hall.why(), 1);
        t.is("the poem is finished, yet mended", hall.mend(0, 2), 0);
        t.is("mended", hall.ofLink(2, 5), 1);
    }

    private static void mendArguments() {
        RengaHall hall = Halls.plain(3, 3);
        t.noSuch("no link", () -> hall.mend(0, 0));
        Halls.link(hall, 0, 0);
        t.noSuch("place 1", () -> hall.mend(1, 0));
        t.noSuch("place -1", () -> hall.mend(-1, 0));
        t.noSuch("word 3", () -> hall.mend(0, 3));
        t.noSuch("word -1", () -> hall.mend(0, -1));
        Halls.offer(hall, 1, 1);
        t.notNow("offers are kept", () -> hall.mend(0, 0));
        t.noSuch("place ahead of offers", () -> hall.mend(1, 0));
        t.noSuch("word ahead of offers", () -> hall.mend(0, 3));
        t.is("nothing was mended", hall.ofLink(0, 5), 0);
        hall.choose(0);
        t.is("the latest link alone", hall.mend(0, 2), 0);
        t.is("not the one ahead", hall.ofLink(0, 5) + hall.wordAt(0, 0), 0);
        t.is("the latest", hall.wordAt(1, 0), 2);
        RengaHall fresh = new RengaHall();
        fresh.word(5, NONE, 0);
        fresh.begin(2, 0, 5, 5);
        t.noSuch("a poem without a link", () -> fresh.mend(0, 0));
    }
}

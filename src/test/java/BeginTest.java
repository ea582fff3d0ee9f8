/** Promises 5 and 6: begin, seat. */
public final class BeginTest {
    private static final int NONE = RengaHall.NONE;
    private static final int LEAST = Integer.MIN_VALUE, MOST = Integer.MAX_VALUE;
    private static final Expect t = new Expect("BeginTest");

    public static void main(String[] args) {
        linksFrom2To36();
        aPoemOf36Links();
        spanFrom0To10();
        soundsFrom2To40();
        beforeALinkWasMade();
        notFinished();
        finished();
        rangesAheadOfTheState();
        refusedBeginChangesNothing();
        withoutSeats();
        withoutWhatBelongedToTheOneBefore();
        draftAndWordsStay();
        seatsFromTheNextLinkToTheLast();
        seatWhatFrom0To2();
        seatWhileOffersAreKept();
        seatOrderOfExceptions();
        seatWithoutALinkToCome();
        t.end();
    }

    private static void linksFrom2To36() {
        RengaHall hall = new RengaHall();
        t.outOfRange("links 1", () -> hall.begin(1, 0, 5, 5));
        t.outOfRange("links 37", () -> hall.begin(37, 0, 5, 5));
        t.outOfRange("links 0", () -> hall.begin(0, 0, 5, 5));
        t.outOfRange("links least", () -> hall.begin(LEAST, 0, 5, 5));
        t.outOfRange("links most", () -> hall.begin(MOST, 0, 5, 5));
        t.notNow("no poem was begun", () -> hall.copy(NONE));
        for (int links = 2; links <= 36; links++) {
            int behind = links;
            hall.begin(links, 0, 5, 5);
            t.is("the last of " + links, hall.seat(links - 1, 0), 0);
            t.noSuch("behind it", () -> hall.seat(behind, 0));
        }
        RengaHall two = Halls.plain(3, 2);
        t.is("link 0", Halls.link(two, 0, 0), 0);
        t.is("link 1", Halls.link(two, 1, 1), 1);
        t.notNow("no link 2", () -> Halls.offer(two, 0, 2));
    }

    private static void aPoemOf36Links() {
        RengaHall hall = Halls.ofSixes(36, 36);
        t.is("links", hall.links(), 36);
        t.is("the last word of the last one", hall.wordAt(35, 5), 11);
        t.notNow("no link 36", () -> Halls.offer(hall, 0, 0, 1, 2, 3, 4, 5));
        t.noSuch("no link 36", () -> hall.ofLink(36, 0));
        t.noSuch("no offer", () -> hall.choose(0));
        t.is("offers", hall.offers(), 0);
        t.is("no refusal", hall.why(), NONE);
        t.is("words call each other to mind", hall.call(1, 7), false);
        t.is("a poet comes", hall.poet(), 2);
    }

    private static void spanFrom0To10() {
        RengaHall hall = new RengaHall();
        t.outOfRange("span -1", () -> hall.begin(2, -1, 5, 5));
        t.outOfRange("span 11", () -> hall.begin(2, 11, 5, 5));
        t.outOfRange("span least", () -> hall.begin(2, LEAST, 5, 5));
        t.outOfRange("span most", () -> hall.begin(2, MOST, 5, 5));
        t.notNow("no poem was begun", () -> hall.copy(NONE));
        for (int span = 0; span <= 10; span++) {
            hall.begin(2, span, 5, 5);
            t.is("span " + span, hall.seat(1, 0), 0);
        }
    }

    private static void soundsFrom2To40() {
        RengaHall hall = Halls.withPoets(2);
        hall.word(1, NONE, 1);
        hall.word(1, NONE, 1);
        for (int word = 2; word < 5; word++) {
            hall.word(12, NONE, 1);
        }
        hall.word(4, NONE, 1);
        t.outOfRange("first 1", () -> hall.begin(2, 0, 1, 5));
        t.outOfRange("first 41", () -> hall.begin(2, 0, 41, 5));
        t.outOfRange("first least", () -> hall.begin(2, 0, LEAST, 5));
        t.outOfRange("first most", () -> hall.begin(2, 0, MOST, 5));
        t.outOfRange("second 1", () -> hall.begin(2, 0, 5, 1));
        t.outOfRange("second 41", () -> hall.begin(2, 0, 5, 41));
        t.outOfRange("second least", () -> hall.begin(2, 0, 5, LEAST));
        t.outOfRange("second most", () -> hall.begin(2, 0, 5, MOST));
        t.notNow("no poem was begun", () -> hall.copy(NONE));
        hall.begin(2, 0, 2, 40);
        t.is("first 2", Halls.link(hall, 0, 0, 1), 0);
        t.is("second 40", Halls.link(hall, 1, 2, 3, 4, 5), 1);
        hall.begin(2, 0, 40, 2);
        t.is("first 40", Halls.link(hall, 0, 2, 3, 4, 5), 0);
        t.is("second 2", Halls.link(hall, 1, 0, 1), 1);
    }

    private static void beforeALinkWasMade() {
        RengaHall hall = Halls.plain(3, 2);
        hall.begin(5, 0, 5, 5);
        t.is("begun once more", hall.seat(4, 0), 0);
        Halls.offer(hall, 0, 0);
        hall.begin(3, 0, 5, 5);
        t.is("begun while an offer is kept", hall.seat(2, 0), 0);
        t.noSuch("it has 3 links", () -> hall.seat(3, 0));
    }

    private static void notFinished() {
        RengaHall hall = Halls.made(4, 4, 1);
        t.notNow("1 of 4 links", () -> hall.begin(2, 0, 5, 5));
        Halls.link(hall, 1, 1);
        Halls.link(hall, 0, 2);
        t.notNow("3 of 4 links", () -> hall.begin(2, 0, 5, 5));
        Halls.offer(hall, 1, 3);
        t.notNow("an offer for the last one", () -> hall.begin(2, 0, 5, 5));
        t.is("the poem stays", hall.links(), 3);
        t.is("its offer too", hall.choose(0), 3);
    }

    private static void finished() {
        RengaHall hall = Halls.made(4, 4, 4);
        hall.begin(2, 0, 5, 5);
        t.is("anew", hall.links(), 0);
        t.noSuch("it has 2 links", () -> hall.seat(2, 0));
        RengaHall longest = Halls.ofSixes(36, 36);
        longest.begin(36, 0, 5, 5);
        t.is("anew behind 36", longest.links(), 0);
        t.is("a link of the new one", Halls.link(longest, 0, 0), 0);
        t.is("it has one word", longest.ofLink(0, 3), 1);
    }

    private static void rangesAheadOfTheState() {
        RengaHall hall = Halls.made(3, 3, 1);
        t.outOfRange("links", () -> hall.begin(1, 0, 5, 5));
        t.outOfRange("span", () -> hall.begin(2, 11, 5, 5));
        t.outOfRange("first", () -> hall.begin(2, 0, 41, 5));
        t.outOfRange("second", () -> hall.begin(2, 0, 5, 1));
        t.notNow("no range", () -> hall.begin(2, 0, 5, 5));
    }

    private static void refusedBeginChangesNothing() {
        RengaHall hall = Halls.plain(4, 4);
        hall.seat(3, 2);
        Halls.link(hall, 0, 0);
        Halls.link(hall, 1, 1);
        t.notNow("not finished", () -> hall.begin(2, 10, 7, 7));
        t.outOfRange("second", () -> hall.begin(2, 10, 7, 41));
        t.is("its span of 0 and its sounds stay", Halls.link(hall, 0, 0), 2);
        t.is("its links and seats stay", hall.seat(3, 0), 2);
        t.is("its sounds of odd links stay", Halls.link(hall, 1, 1), 3);
    }

    private static void withoutSeats() {
        RengaHall hall = new RengaHall();
        hall.begin(36, 0, 5, 5);
        for (int link = 0; link < 36; link++) {
            t.is("new", hall.seat(link, 1 + link % 2), 0);
        }
        hall.begin(36, 0, 5, 5);
        for (int link = 0; link < 36; link++) {
            t.is("anew", hall.seat(link, 0), 0);
        }
    }

    private static void withoutWhatBelongedToTheOneBefore() {
        RengaHall hall = Halls.made(3, 2, 2);
        hall.mend(0, 2);
        for (int judge = 0; judge < 4; judge++) {
            hall.give(judge, 0, 5);
            hall.give(judge, 1, 5);
        }
        hall.hide(0, true);
        hall.copy(NONE);
        hall.copy(0);
        hall.begin(2, 0, 5, 5);
        t.is("points", hall.prize(), NONE);
        t.noSuch("links", () -> hall.ofLink(0, 0));
        t.noSuch("copies", () -> hall.source(0));
        t.noSuch("copies", () -> hall.far(1, NONE));
        Halls.offer(hall, 1, 1);
        hall.begin(2, 0, 5, 5);
        t.is("offers", hall.offers(), 0);
        t.noSuch("offers", () -> hall.choose(0));
        Halls.link(hall, 1, 1);
        Halls.link(hall, 0, 0);
        for (int judge = 0; judge < 4; judge++) {
            t.is("points of link 0", hall.give(judge, 0, 1), NONE);
            t.is("points of link 1", hall.give(judge, 1, 1), NONE);
        }
        t.is("link 0 is not hidden", hall.hide(0, false), false);
        t.is("link 1 is not mended", hall.ofLink(1, 5), 0);
        t.is("copies are numbered anew", hall.copy(NONE), 0);
    }

    private static void draftAndWordsStay() {
        RengaHall hall = Halls.made(3, 2, 2);
        hall.add(1);
        hall.add(2);
        hall.begin(2, 0, 10, 10);
        t.is("the draft", hall.offer(1), 0);
        hall.choose(0);
        t.is("its first word", hall.wordAt(0, 0), 1);
        t.is("its second word", hall.wordAt(0, 1), 2);
        t.is("calls", hall.call(0, 1), true);
        t.is("words", hall.word(1, NONE, 0), 3);
        t.is("poets", hall.poet(), 2);
    }

    private static void seatsFromTheNextLinkToTheLast() {
        RengaHall hall = Halls.plain(3, 4);
        t.is("the next", hall.seat(0, 0), 0);
        t.is("the last", hall.seat(3, 1), 0);
        t.noSuch("-1", () -> hall.seat(-1, 0));
        t.noSuch("4", () -> hall.seat(4, 0));
        t.noSuch("least", () -> hall.seat(LEAST, 0));
        t.noSuch("most", () -> hall.seat(MOST, 0));
        Halls.link(hall, 0, 0);
        t.noSuch("made already", () -> hall.seat(0, 0));
        t.is("the next", hall.seat(1, 0), 0);
        Halls.link(hall, 1, 1);
        Halls.link(hall, 0, 2);
        t.noSuch("made already", () -> hall.seat(2, 0));
        t.is("the next is the last", hall.seat(3, 0), 1);
        t.noSuch("4", () -> hall.seat(4, 0));
    }

    private static void seatWhatFrom0To2() {
        RengaHall hall = new RengaHall();
        hall.begin(2, 0, 5, 5);
        t.is("none before", hall.seat(0, 1), 0);
        t.is("MOON before", hall.seat(0, 1), 1);
        t.is("MOON before", hall.seat(0, 2), 1);
        t.is("BLOSSOM before", hall.seat(0, 0), 2);
        t.is("none before", hall.seat(0, 2), 0);
        t.outOfRange("-1", () -> hall.seat(0, -1));
        t.outOfRange("3", () -> hall.seat(0, 3));
        t.outOfRange("least", () -> hall.seat(0, LEAST));
        t.outOfRange("most", () -> hall.seat(0, MOST));
        t.is("the other link", hall.seat(1, 0), 0);
        t.is("unchanged", hall.seat(0, 0), 2);
    }

    private static void seatWhileOffersAreKept() {
        RengaHall hall = Halls.plain(3, 3);
        Halls.offer(hall, 0, 0);
        t.notNow("an offer", () -> hall.seat(0, 1));
        t.notNow("for later ones too", () -> hall.seat(2, 0));
        for (int offer = 1; offer < 4; offer++) {
            Halls.offer(hall, 0, 0);
        }
        t.notNow("4 offers", () -> hall.seat(2, 0));
        hall.choose(0);
        t.is("none, and no seat was made", hall.seat(1, 0), 0);
        t.is("no seat was made", hall.seat(2, 0), 0);
        Halls.offer(hall, 1, 0, 1);
        t.is("a refused one is not kept", hall.seat(2, 0), 0);
    }

    private static void seatOrderOfExceptions() {
        RengaHall hall = Halls.made(3, 3, 1);
        t.noSuch("link ahead of what", () -> hall.seat(3, 3));
        Halls.offer(hall, 1, 1);
        t.noSuch("link ahead of what and offers", () -> hall.seat(0, -1));
        t.noSuch("link ahead of offers", () -> hall.seat(3, 1));
        t.outOfRange("what ahead of offers", () -> hall.seat(1, 3));
        t.notNow("offers", () -> hall.seat(1, 2));
    }

    private static void seatWithoutALinkToCome() {
        RengaHall hall = Halls.made(2, 2, 2);
        t.noSuch("the last is made", () -> hall.seat(1, 0));
        t.noSuch("behind it", () -> hall.seat(2, 0));
        RengaHall longest = Halls.ofSixes(36, 36);
        t.noSuch("link 35 is made", () -> longest.seat(35, 0));
        t.noSuch("link 36", () -> longest.seat(36, 0));
        t.noSuch("no poem", () -> new RengaHall().seat(0, 0));
    }
}

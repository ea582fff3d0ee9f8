/** Promises 17 to 22: links, offers, ofLink, wordAt, faultAnew, chances. */
public final class AskTest {
    private static final int NONE = RengaHall.NONE;
    private static final Expect t = new Expect("AskTest");

    public static void main(String[] args) {
        counts();
        ofLinks();
        runs();
        ofLinkArguments();
        words();
        faultsAnew();
        chanceRows();
        chanceState();
        chancesKeepState();
        t.end();
    }

    private static void counts() {
        RengaHall hall = Halls.plain(4, 3);
        t.is("no link", hall.links(), 0);
        Halls.offer(hall, 0, 0);
        t.is("an offer is no link", hall.links(), 0);
        t.is("an offer", hall.offers(), 1);
        Halls.offer(hall, 0, 0, 0);
        t.is("a refused one is not kept", hall.offers(), 1);
        Halls.offer(hall, 0, 1);
        t.is("two", hall.offers(), 2);
        hall.choose(0);
        t.is("none", hall.offers(), 0);
        t.is("a link", hall.links(), 1);
        Halls.link(hall, 1, 1);
        Halls.link(hall, 0, 2);
        t.is("as many as were made", hall.links(), 3);
        hall.begin(36, 0, 5, 5);
        t.is("a new poem", hall.links(), 0);
    }

    private static void ofLinks() {
        RengaHall hall = Halls.withPoets(4);
        hall.word(2, NONE, 1);
        hall.word(1, RengaHall.AUTUMN, 8 | 256);
        hall.word(2, RengaHall.AUTUMN, 8 | 128);
        hall.begin(2, 0, 5, 5);
        hall.seat(0, 1);
        t.is("link", Halls.link(hall, 3, 0, 1, 2), 0);
        t.is("poet", hall.ofLink(0, 0), 3);
        t.is("season", hall.ofLink(0, 1), RengaHall.AUTUMN);
        t.is("signs", hall.ofLink(0, 2), 1 | 8 | 128 | 256);
        t.is("words", hall.ofLink(0, 3), 3);
        t.is("run", hall.ofLink(0, 4), 1);
        t.is("mended", hall.ofLink(0, 5), 0);
        hall.mend(1, 1);
        t.is("mended", hall.ofLink(0, 5), 1);
        hall.hide(0, true);
        t.is("nobody admits it", hall.ofLink(0, 0), NONE);
        t.is("the rest stays", hall.ofLink(0, 3), 3);
    }

    private static void runs() {
        RengaHall hall = Halls.withPoets(2);
        int[] seasons = {1, 1, 3, NONE, NONE, 0, 0, 0, 2};
        int[] due = {1, 2, 1, 0, 0, 1, 2, 3, 1};
        for (int season : seasons) {
            hall.word(5, season, 0);
        }
        for (int word = 0; word + 1 < seasons.length; word++) {
            hall.call(word, word + 1);
        }
        hall.begin(9, 0, 5, 5);
        for (int link = 0; link < seasons.length; link++) {
            t.is("link", Halls.link(hall, link % 2, link), link);
            t.is("season", hall.ofLink(link, 1), seasons[link]);
        }
        for (int link = 0; link < seasons.length; link++) {
            t.is("run at " + link, hall.ofLink(link, 4), due[link]);
        }
    }

    private static void ofLinkArguments() {
        RengaHall hall = Halls.plain(2, 2);
        t.noSuch("no link", () -> hall.ofLink(0, 0));
        Halls.link(hall, 0, 0);
        t.noSuch("link 1", () -> hall.ofLink(1, 0));
        t.noSuch("link -1", () -> hall.ofLink(-1, 0));
        t.noSuch("link ahead of what", () -> hall.ofLink(1, 6));
        t.outOfRange("what 6", () -> hall.ofLink(0, 6));
        t.outOfRange("what -1", () -> hall.ofLink(0, -1));
    }

    private static void words() {
        RengaHall hall = Halls.withPoets(1);
        hall.word(2, NONE, 1);
        hall.word(3, NONE, 1);
        t.noSuch("no poem", () -> hall.wordAt(0, 0));
        hall.begin(2, 0, 5, 5);
        Halls.link(hall, 0, 1, 0);
        t.is("place 0", hall.wordAt(0, 0), 1);
        t.is("place 1", hall.wordAt(0, 1), 0);
        t.noSuch("place 2", () -> hall.wordAt(0, 2));
        t.noSuch("place -1", () -> hall.wordAt(0, -1));
        t.noSuch("place 6", () -> hall.wordAt(0, 6));
        t.noSuch("link 1", () -> hall.wordAt(1, 0));
        t.noSuch("link -1", () -> hall.wordAt(-1, 0));
    }

    private static void faultsAnew() {
        RengaHall hall = Halls.plain(6, 6);
        t.noSuch("no link", () -> hall.faultAnew(0));
        for (int link = 0; link < 4; link++) {
            Halls.link(hall, link % 2, link);
        }
        hall.mend(0, 4);
        hall.hide(2, true);
        hall.hide(1, true);
        Halls.offer(hall, 0, 5);
        Halls.offer(hall, 1, 5);
        int why = hall.why();
        for (int link = 0; link < 4; link++) {
            t.is("each link keeps all rules", hall.faultAnew(link), 0);
        }
        t.is("no refusal", hall.why(), why);
        t.noSuch("link 4", () -> hall.faultAnew(4));
        t.noSuch("link -1", () -> hall.faultAnew(-1));
    }

    private static void chanceRows() {
        RengaHall hall = Halls.withPoets(2);
        t.is("no poem", hall.chances(0), 0);
        hall.word(2, NONE, 1);
        hall.word(3, RengaHall.SUMMER, 1);
        hall.word(3, RengaHall.WINTER, 2);
        hall.word(2, RengaHall.WINTER, 256);
        hall.word(5, NONE, 1);
        t.is("no poem, though words", hall.chances(0), 0);
        hall.begin(3, 1, 5, 5);
        t.is("4, 0 and 1, 0 and 2", hall.chances(0), 5);
        hall.seat(0, 1);
        t.is("3 and 2", hall.chances(0), 2);
        t.is("the other one", hall.chances(1), 2);
        hall.seat(0, 0);
        Halls.link(hall, 0, 4);
        t.is("TURN", hall.chances(0), 0);
        t.is("0 and 1, 0 and 2", hall.chances(1), 4);
        Halls.link(hall, 1, 0, 1);
        t.is("LEAVE, JOIN", hall.chances(0), 0);
        hall.word(5, NONE, 2);
        t.is("no JOIN", hall.chances(0), 0);
        hall.call(5, 1);
        t.is("called to mind", hall.chances(0), 1);
        hall.word(2, NONE, 2);
        t.is("2 without a JOIN", hall.chances(0), 1);
        hall.call(6, 1);
        t.is("WINTER behind SUMMER: 6 and 2", hall.chances(0), 3);
        RengaHall twice = Halls.withPoets(1);
        twice.word(5, NONE, 0);
        twice.begin(2, 0, 10, 10);
        t.is("no word twice", twice.chances(0), 0);
        twice.word(5, NONE, 0);
        t.is("both orders", twice.chances(0), 2);
    }

    private static void chanceState() {
        RengaHall hall = Halls.plain(3, 2);
        t.is("each", hall.chances(1), 3);
        for (int offer = 0; offer < 4; offer++) {
            Halls.offer(hall, 0, 0);
        }
        t.is("as if no offers were kept", hall.chances(0), 3);
        t.noSuch("poet 2", () -> hall.chances(2));
        t.noSuch("poet -1", () -> hall.chances(-1));
        hall.choose(0);
        t.is("each of the others joins it", hall.chances(1), 2);
        Halls.link(hall, 1, 1);
        t.is("finished", hall.chances(0), 0);
        t.is("finished", hall.chances(1), 0);
        RengaHall full = Halls.withPoets(1);
        for (int word = 0; word < 40; word++) {
            full.word(12, NONE, 0);
        }
        full.begin(2, 10, 24, 24);
        t.is("40 times 39", full.chances(0), 1560);
        full.begin(2, 10, 12, 24);
        t.is("40", full.chances(0), 40);
    }

    private static void chancesKeepState() {
        RengaHall hall = Halls.plain(3, 3);
        Halls.offer(hall, 0, 0);
        hall.add(1);
        hall.add(2);
        hall.chances(0);
        t.is("no refusal", hall.why(), NONE);
        t.is("the draft stays", hall.clear(), 2);
        t.is("the offer stays", hall.choose(0), 0);
        t.is("as it was", hall.wordAt(0, 0), 0);
        t.is("as it was", hall.ofLink(0, 3), 1);
    }
}

/** Promises 17 to 21: links, offers, ofLink, wordAt, faultAnew. */
public final class AskTest {
    private static final int NONE = RengaHall.NONE;
    private static final int LEAST = Integer.MIN_VALUE, MOST = Integer.MAX_VALUE;
    private static final Expect t = new Expect("AskTest");

    public static void main(String[] args) {
        linksFrom0To36();
        linksOfAPoemAnew();
        offersFrom0To4();
        offersThatAreGone();
        poetOfLink();
        seasonOfLink();
        signsOfLink();
        sizeOfLink();
        runAtLink();
        runOfAMendedLink();
        mendedOrNot();
        hiddenLinkTellsAllButItsPoet();
        ofLinkFrom0ToTheLatest();
        ofLinkWhatFrom0To5();
        wordAtFrom0ToTheLast();
        wordAtLinkFrom0ToTheLatest();
        faultAnewOfEachLink();
        faultAnewIsNoRefusal();
        faultAnewFrom0ToTheLatest();
        t.end();
    }

    private static void linksFrom0To36() {
        t.is("no poem", new RengaHall().links(), 0);
        RengaHall hall = Halls.plain(2, 36);
        for (int link = 0; link < 36; link++) {
            t.is("made", hall.links(), link);
            Halls.offer(hall, link % 2, link % 2);
            t.is("an offer is no link", hall.links(), link);
            hall.choose(0);
        }
        t.is("36", hall.links(), 36);
    }

    private static void linksOfAPoemAnew() {
        RengaHall hall = Halls.made(3, 3, 3);
        t.is("3", hall.links(), 3);
        hall.begin(36, 0, 5, 5);
        t.is("as many as were made, not as it will have", hall.links(), 0);
        Halls.link(hall, 1, 1);
        t.is("1", hall.links(), 1);
        t.is("refused", Halls.link(hall, 1, 2), -4);
        t.is("1", hall.links(), 1);
    }

    private static void offersFrom0To4() {
        t.is("no poem", new RengaHall().offers(), 0);
        RengaHall hall = Halls.plain(4, 3);
        for (int offer = 0; offer < 4; offer++) {
            t.is("offers", hall.offers(), offer);
            Halls.offer(hall, 0, 0, 0);
            t.is("a refused one is not kept", hall.offers(), offer);
            Halls.offer(hall, 0, offer);
        }
        t.is("4", hall.offers(), 4);
    }

    private static void offersThatAreGone() {
        RengaHall hall = Halls.plain(4, 3);
        Halls.offer(hall, 0, 0);
        Halls.offer(hall, 0, 1);
        hall.begin(3, 0, 5, 5);
        t.is("with a new poem", hall.offers(), 0);
        Halls.offer(hall, 0, 0);
        Halls.offer(hall, 0, 1);
        hall.choose(0);
        t.is("with a choice", hall.offers(), 0);
    }

    private static void poetOfLink() {
        RengaHall hall = Halls.withPoets(6);
        Halls.addWords(hall, 2);
        hall.call(0, 1);
        hall.begin(6, 0, 5, 5);
        for (int poet = 5; poet >= 0; poet--) {
            Halls.link(hall, poet, poet % 2);
        }
        for (int link = 0; link < 6; link++) {
            t.is("poet", hall.ofLink(link, 0), 5 - link);
        }
        hall.hide(0, true);
        hall.hide(5, true);
        t.is("the first is hidden", hall.ofLink(0, 0), NONE);
        t.is("not the second", hall.ofLink(1, 0), 4);
        t.is("the last is hidden", hall.ofLink(5, 0), NONE);
        hall.hide(5, false);
        t.is("and admitted", hall.ofLink(5, 0), 0);
    }

    private static void seasonOfLink() {
        RengaHall hall = Halls.withPoets(2);
        hall.word(1, NONE, 0);
        hall.word(1, NONE, 0);
        for (int season = 0; season < 4; season++) {
            hall.word(1, season, 0);
        }
        for (int season = 0; season < 4; season++) {
            hall.begin(2, 0, 3, 3);
            Halls.link(hall, 0, 0, 1, 2 + season);
            t.is("of the one word that has one", hall.ofLink(0, 1), season);
            finish(hall);
        }
        hall.begin(2, 0, 2, 3);
        Halls.link(hall, 0, 0, 1);
        t.is("no word has one", hall.ofLink(0, 1), NONE);
    }

    /** Makes the second link out of new words, whatever the first is. */
    private static void finish(RengaHall hall) {
        int season = hall.ofLink(0, 1);
        int word = hall.word(3, season, 0);
        hall.call(word, hall.wordAt(0, 0));
        t.is("the last link", Halls.link(hall, 1, word), 1);
    }

    private static void signsOfLink() {
        RengaHall hall = Halls.withPoets(1);
        hall.word(1, NONE, 1 | 8);
        hall.word(1, NONE, 8 | 128);
        hall.word(1, NONE, 0);
        hall.word(1, NONE, 256);
        hall.begin(2, 0, 2, 2);
        Halls.offer(hall, 0, 0, 1);
        hall.choose(0);
        t.is("all of theirs", hall.ofLink(0, 2), 1 | 8 | 128);
        RengaHall none = Halls.made(1, 2, 1);
        t.is("none", none.ofLink(0, 2), 0);
        RengaHall moon = Halls.withPoets(1);
        moon.word(5, NONE, 511);
        moon.begin(2, 0, 5, 5);
        moon.seat(0, 1);
        Halls.link(moon, 0, 0);
        t.is("with the MOON", moon.ofLink(0, 2), 511);
    }

    private static void sizeOfLink() {
        for (int size = 1; size <= 6; size++) {
            RengaHall hall = Halls.withPoets(1);
            Halls.addWords(hall, 6);
            hall.begin(2, 0, 5 * size, 5);
            for (int word = 0; word < size; word++) {
                hall.add(word);
            }
            hall.offer(0);
            t.is("made", hall.choose(0), 0);
            t.is("words", hall.ofLink(0, 3), size);
        }
    }

    private static void runAtLink() {
        RengaHall hall = Halls.withPoets(2);
        int[] seasons = {1, 1, 3, NONE, NONE, NONE, NONE, 3, 3, 0, 0, 0, 0, 0, 2};
        int[] due = {1, 2, 1, 0, 0, 0, 0, 1, 2, 1, 2, 3, 4, 5, 1};
        for (int season : seasons) {
            hall.word(5, season, 0);
        }
        for (int word = 0; word + 1 < seasons.length; word++) {
            hall.call(word, word + 1);
        }
        hall.begin(15, 0, 5, 5);
        for (int link = 0; link < seasons.length; link++) {
            t.is("link", Halls.link(hall, link % 2, link), link);
            t.is("season", hall.ofLink(link, 1), seasons[link]);
        }
        for (int link = 0; link < seasons.length; link++) {
            t.is("run at " + link, hall.ofLink(link, 4), due[link]);
        }
    }

    private static void runOfAMendedLink() {
        RengaHall hall = Halls.withPoets(2);
        hall.word(5, 1, 0);
        hall.word(5, 1, 0);
        hall.word(5, NONE, 0);
        Halls.callAll(hall, 3);
        hall.begin(3, 0, 5, 5);
        Halls.link(hall, 0, 0);
        Halls.link(hall, 1, 1);
        t.is("2", hall.ofLink(1, 4), 2);
        hall.mend(0, 2);
        t.is("0 without a season", hall.ofLink(1, 4), 0);
        t.is("1 ahead of it", hall.ofLink(0, 4), 1);
    }

    private static void mendedOrNot() {
        RengaHall hall = Halls.made(4, 4, 2);
        t.is("not", hall.ofLink(1, 5), 0);
        t.is("refused", hall.mend(0, hall.word(6, NONE, 0)), -1);
        t.is("not", hall.ofLink(1, 5), 0);
        hall.mend(0, 3);
        t.is("mended", hall.ofLink(1, 5), 1);
        t.is("not the one ahead", hall.ofLink(0, 5), 0);
        Halls.link(hall, 0, 2);
        t.is("still mended", hall.ofLink(1, 5), 1);
        t.is("not the next", hall.ofLink(2, 5), 0);
    }

    private static void hiddenLinkTellsAllButItsPoet() {
        RengaHall hall = Halls.withPoets(2);
        hall.word(2, 3, 4);
        hall.word(3, 3, 8);
        hall.begin(2, 0, 5, 5);
        Halls.link(hall, 1, 0, 1);
        hall.mend(1, 1);
        hall.hide(0, true);
        int[] due = {NONE, 3, 12, 2, 1, 1};
        for (int what = 0; what <= 5; what++) {
            t.is("what " + what, hall.ofLink(0, what), due[what]);
        }
        t.is("its words", hall.wordAt(0, 0), 0);
        t.is("its words", hall.wordAt(0, 1), 1);
    }

    private static void ofLinkFrom0ToTheLatest() {
        RengaHall hall = Halls.plain(2, 2);
        t.noSuch("no link", () -> hall.ofLink(0, 0));
        Halls.link(hall, 1, 0);
        t.is("link 0", hall.ofLink(0, 0), 1);
        t.noSuch("link 1", () -> hall.ofLink(1, 0));
        Halls.link(hall, 0, 1);
        t.is("link 1", hall.ofLink(1, 0), 0);
        t.noSuch("link 2", () -> hall.ofLink(2, 0));
        t.noSuch("link -1", () -> hall.ofLink(-1, 0));
        t.noSuch("link least", () -> hall.ofLink(LEAST, 0));
        t.noSuch("link most", () -> hall.ofLink(MOST, 0));
        t.noSuch("no poem", () -> new RengaHall().ofLink(0, 0));
        RengaHall longest = Halls.ofSixes(36, 36);
        t.is("link 35", longest.ofLink(35, 3), 6);
        t.noSuch("link 36", () -> longest.ofLink(36, 3));
    }

    private static void ofLinkWhatFrom0To5() {
        RengaHall hall = Halls.withPoets(1);
        hall.word(2, 3, 4);
        hall.word(3, 3, 8);
        hall.begin(2, 0, 5, 5);
        Halls.link(hall, 0, 0, 1);
        hall.mend(1, 1);
        int[] due = {0, 3, 12, 2, 1, 1};
        for (int what = 0; what <= 5; what++) {
            t.is("what " + what, hall.ofLink(0, what), due[what]);
        }
        t.outOfRange("what -1", () -> hall.ofLink(0, -1));
        t.outOfRange("what 6", () -> hall.ofLink(0, 6));
        t.outOfRange("what least", () -> hall.ofLink(0, LEAST));
        t.outOfRange("what most", () -> hall.ofLink(0, MOST));
        t.noSuch("link ahead of what", () -> hall.ofLink(1, 6));
        t.noSuch("link ahead of what", () -> hall.ofLink(-1, -1));
    }

    private static void wordAtFrom0ToTheLast() {
        RengaHall hall = Halls.ofSixes(2, 2);
        for (int place = 0; place < 6; place++) {
            t.is("of link 0", hall.wordAt(0, place), place);
            t.is("of link 1", hall.wordAt(1, place), 6 + place);
        }
        t.noSuch("place 6", () -> hall.wordAt(0, 6));
        t.noSuch("place -1", () -> hall.wordAt(0, -1));
        t.noSuch("place least", () -> hall.wordAt(0, LEAST));
        t.noSuch("place most", () -> hall.wordAt(0, MOST));
        hall.begin(2, 0, 5, 5);
        Halls.link(hall, 0, 11);
        t.is("one word", hall.wordAt(0, 0), 11);
        t.noSuch("no second one, though the poem before had", () -> hall.wordAt(0, 1));
    }

    private static void wordAtLinkFrom0ToTheLatest() {
        RengaHall hall = Halls.plain(2, 2);
        t.noSuch("no link", () -> hall.wordAt(0, 0));
        Halls.link(hall, 0, 1);
        t.is("link 0", hall.wordAt(0, 0), 1);
        t.noSuch("link 1", () -> hall.wordAt(1, 0));
        Halls.link(hall, 1, 0);
        t.is("link 1", hall.wordAt(1, 0), 0);
        t.noSuch("link 2", () -> hall.wordAt(2, 0));
        t.noSuch("link -1", () -> hall.wordAt(-1, 0));
        t.noSuch("link least", () -> hall.wordAt(LEAST, 0));
        t.noSuch("link most", () -> hall.wordAt(MOST, 0));
        t.noSuch("no poem", () -> new RengaHall().wordAt(0, 0));
        RengaHall longest = Halls.ofSixes(36, 36);
        t.is("link 35", longest.wordAt(35, 0), 6);
        t.noSuch("link 36", () -> longest.wordAt(36, 0));
    }

    /** Each link keeps all rules behind the links ahead of it, whatever comes behind it. */
    private static void faultAnewOfEachLink() {
        int[] seasons = {0, 0, 0, NONE, 1, 1, 1, 2, 2, 2, 2, 2, 3, 3, 3, NONE};
        RengaHall hall = Halls.withPoets(3);
        for (int word = 0; word < seasons.length; word++) {
            int sign = word == 4 ? 256 : word == 12 ? 512 : 0;
            hall.word(5 + word % 2, seasons[word], sign | 1 << word / 2);
            if (word % 2 == 0 && word > 0) {
                hall.call(word - 1, word);
            }
        }
        hall.begin(16, 10, 5, 6);
        hall.seat(4, 1);
        hall.seat(12, 2);
        for (int link = 0; link < 16; link++) {
            t.is("link", Halls.link(hall, link % 3, link), link);
            for (int it = 0; it <= link; it++) {
                t.is("no fault", hall.faultAnew(it), 0);
            }
        }
    }

    private static void faultAnewIsNoRefusal() {
        RengaHall hall = Halls.made(6, 6, 4);
        hall.mend(0, 4);
        hall.hide(2, true);
        hall.hide(1, true);
        Halls.offer(hall, 1, 5);
        Halls.offer(hall, 0, 5);
        for (int link = 0; link < 4; link++) {
            t.is("of hidden and mended ones, too", hall.faultAnew(link), 0);
        }
        t.is("no refusal", hall.why(), 1);
        t.is("offers stay", hall.offers(), 1);
    }

    private static void faultAnewFrom0ToTheLatest() {
        RengaHall hall = Halls.plain(2, 2);
        t.noSuch("no link", () -> hall.faultAnew(0));
        Halls.link(hall, 0, 1);
        t.is("link 0", hall.faultAnew(0), 0);
        t.noSuch("link 1", () -> hall.faultAnew(1));
        Halls.link(hall, 1, 0);
        t.is("link 1", hall.faultAnew(1), 0);
        t.noSuch("link 2", () -> hall.faultAnew(2));
        t.noSuch("link -1", () -> hall.faultAnew(-1));
        t.noSuch("link least", () -> hall.faultAnew(LEAST));
        t.noSuch("link most", () -> hall.faultAnew(MOST));
        t.noSuch("no poem", () -> new RengaHall().faultAnew(0));
        RengaHall longest = Halls.ofSixes(36, 36);
        t.is("link 35", longest.faultAnew(35), 0);
        t.noSuch("link 36", () -> longest.faultAnew(36));
    }
}

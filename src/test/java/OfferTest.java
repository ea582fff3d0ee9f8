/** Promises 7 to 11: add, clear, offer, why, choose. The faults of offers: ScribeTest. */
public final class OfferTest {
    private static final int NONE = RengaHall.NONE;
    private static final int LEAST = Integer.MIN_VALUE, MOST = Integer.MAX_VALUE;
    private static final Expect t = new Expect("OfferTest");

    public static void main(String[] args) {
        addLeastAndGreatestWord();
        atMost6WordsInTheDraft();
        clearTellsHowManyItHad();
        offerOf1To6Words();
        draftIsEmptyIfItIsKept();
        draftStaysIfItIsRefused();
        atMost4Offers();
        offerOfLeastAndGreatestPoet();
        offerWithoutAPoem();
        offerForAFinishedPoem();
        offerOrderOfExceptions();
        noCauseYet();
        causeStaysWhateverCame();
        causeOfTheLatestRefusal();
        causeOfMending();
        chooseLeastAndGreatestOffer();
        chosenOfferIsTheNextLink();
        allOffersAreGone();
        chooseWithoutOffers();
        t.end();
    }

    private static void addLeastAndGreatestWord() {
        RengaHall hall = new RengaHall();
        t.noSuch("no words", () -> hall.add(0));
        Halls.addWords(hall, 3);
        t.is("word 0", hall.add(0), 1);
        t.is("word 2", hall.add(2), 2);
        t.noSuch("word 3", () -> hall.add(3));
        t.noSuch("word -1", () -> hall.add(-1));
        t.noSuch("word least", () -> hall.add(LEAST));
        t.noSuch("word most", () -> hall.add(MOST));
        t.is("none of these was added", hall.add(1), 3);
    }

    private static void atMost6WordsInTheDraft() {
        RengaHall hall = Halls.withPoets(1);
        Halls.addWords(hall, 7);
        for (int word = 0; word < 6; word++) {
            t.is("size", hall.add(word), word + 1);
        }
        t.notNow("the 7th", () -> hall.add(6));
        t.notNow("the 7th once more", () -> hall.add(0));
        t.noSuch("word ahead of the limit", () -> hall.add(7));
        t.noSuch("word ahead of the limit", () -> hall.add(-1));
        hall.begin(2, 0, 30, 30);
        t.is("the 6 are kept", hall.offer(0), 0);
        hall.choose(0);
        for (int word = 0; word < 6; word++) {
            t.is("its words", hall.wordAt(0, word), word);
        }
        t.is("from the first", hall.add(6), 1);
    }

    private static void clearTellsHowManyItHad() {
        RengaHall hall = new RengaHall();
        Halls.addWords(hall, 1);
        t.is("none", hall.clear(), 0);
        for (int size = 1; size <= 6; size++) {
            for (int count = 0; count < size; count++) {
                hall.add(0);
            }
            t.is("so many", hall.clear(), size);
            t.is("it is empty", hall.clear(), 0);
        }
        t.is("from the first", hall.add(0), 1);
    }

    private static void offerOf1To6Words() {
        RengaHall hall = Halls.withPoets(1);
        for (int word = 0; word < 6; word++) {
            hall.word(2, NONE, 0);
        }
        for (int size = 1; size <= 6; size++) {
            hall.begin(2, 0, 2 * size, 2);
            hall.clear();
            t.is("an empty draft", hall.offer(0), -1);
            t.is("its sounds", hall.why(), 0);
            for (int word = 0; word < size; word++) {
                hall.add(word);
            }
            t.is("words " + size, hall.offer(0), 0);
        }
    }

    private static void draftIsEmptyIfItIsKept() {
        RengaHall hall = Halls.plain(2, 2);
        hall.add(0);
        t.is("kept", hall.offer(0), 0);
        t.is("empty", hall.clear(), 0);
        t.is("an empty draft is refused", hall.offer(0), -1);
        t.is("offers", hall.offers(), 1);
        t.is("a new one", hall.add(1), 1);
        t.is("kept", hall.offer(0), 1);
        t.is("empty", hall.clear(), 0);
    }

    private static void draftStaysIfItIsRefused() {
        RengaHall hall = Halls.plain(3, 2);
        hall.add(1);
        hall.add(2);
        t.is("refused", hall.offer(1), -1);
        t.is("and not kept", hall.offers(), 0);
        hall.begin(2, 0, 10, 5);
        t.is("the same is right for another poem", hall.offer(1), 0);
        hall.choose(0);
        t.is("its words", hall.wordAt(0, 0), 1);
        t.is("its words", hall.wordAt(0, 1), 2);
    }

    private static void atMost4Offers() {
        RengaHall hall = Halls.plain(4, 2);
        for (int offer = 0; offer < 4; offer++) {
            t.is("number", Halls.offer(hall, offer % 2, offer), offer);
        }
        t.notNow("the 5th", () -> Halls.offer(hall, 0, 0));
        t.notNow("the 5th, though it has a fault", () -> Halls.offer(hall, 0, 0, 0));
        t.is("no refusal", hall.why(), NONE);
        t.is("the draft stays", hall.clear(), 2);
        t.is("4 are kept", hall.offers(), 4);
        t.is("the last of them", hall.choose(3), 0);
        t.is("its word", hall.wordAt(0, 0), 3);
        t.is("from the first", Halls.offer(hall, 0, 0), 0);
    }

    private static void offerOfLeastAndGreatestPoet() {
        RengaHall hall = Halls.withPoets(6);
        Halls.addWords(hall, 1);
        hall.begin(2, 0, 5, 5);
        t.is("poet 0", Halls.offer(hall, 0, 0), 0);
        t.is("poet 5", Halls.offer(hall, 5, 0), 1);
        hall.add(0);
        t.noSuch("poet -1", () -> hall.offer(-1));
        t.noSuch("poet 6", () -> hall.offer(6));
        t.noSuch("poet least", () -> hall.offer(LEAST));
        t.noSuch("poet most", () -> hall.offer(MOST));
        t.is("none of these was kept", hall.offers(), 2);
        t.is("the draft stays", hall.clear(), 1);
        hall.choose(1);
        t.is("its poet", hall.ofLink(0, 0), 5);
    }

    private static void offerWithoutAPoem() {
        RengaHall hall = Halls.withPoets(1);
        Halls.addWords(hall, 1);
        t.notNow("an empty draft", () -> hall.offer(0));
        hall.add(0);
        t.notNow("a draft", () -> hall.offer(0));
        t.is("no refusal", hall.why(), NONE);
        t.is("the draft stays", hall.clear(), 1);
    }

    private static void offerForAFinishedPoem() {
        RengaHall hall = Halls.made(3, 2, 2);
        hall.add(2);
        t.notNow("finished", () -> hall.offer(0));
        hall.add(2);
        t.notNow("finished, though it has a fault", () -> hall.offer(0));
        t.is("no refusal", hall.why(), NONE);
        t.is("the draft stays", hall.clear(), 2);
        t.is("none is kept", hall.offers(), 0);
    }

    private static void offerOrderOfExceptions() {
        t.noSuch("poet ahead of no poem", () -> new RengaHall().offer(0));
        RengaHall full = Halls.plain(1, 2);
        for (int offer = 0; offer < 4; offer++) {
            Halls.offer(full, 0, 0);
        }
        t.noSuch("poet ahead of 4 offers", () -> full.offer(2));
        RengaHall finished = Halls.made(2, 2, 2);
        t.noSuch("poet ahead of finished", () -> finished.offer(-1));
    }

    private static void noCauseYet() {
        RengaHall hall = Halls.made(3, 3, 2);
        t.is("nothing was refused", hall.why(), NONE);
        t.is("mended", hall.mend(0, 1), 0);
        t.is("nothing was refused", hall.why(), NONE);
        t.noSuch("an exception is no refusal", () -> hall.mend(1, 0));
        t.noSuch("an exception is no refusal", () -> hall.offer(2));
        t.is("nothing was refused", hall.why(), NONE);
    }

    private static void causeStaysWhateverCame() {
        RengaHall hall = Halls.plain(3, 2);
        Halls.offer(hall, 0, 0, 1);
        t.is("sounds", hall.why(), 10);
        Halls.offer(hall, 0, 0);
        t.is("a kept offer", hall.why(), 10);
        hall.choose(0);
        t.is("a choice", hall.why(), 10);
        hall.mend(0, 1);
        t.is("a mending", hall.why(), 10);
        hall.chances(0);
        hall.chances(1);
        hall.faultAnew(0);
        t.is("questions", hall.why(), 10);
        t.noSuch("no poet", () -> hall.offer(2));
        t.is("an exception", hall.why(), 10);
        Halls.link(hall, 1, 2);
        hall.begin(2, 0, 7, 5);
        t.is("a new poem", hall.why(), 10);
        hall.word(7, NONE, 0);
        hall.poet();
        hall.clear();
        t.is("words and poets", hall.why(), 10);
    }

    private static void causeOfTheLatestRefusal() {
        RengaHall hall = Halls.made(3, 3, 1);
        Halls.offer(hall, 1, 0, 1);
        t.is("SOUNDS", hall.why(), 10);
        Halls.offer(hall, 0, 1);
        t.is("TURN", hall.why(), 0);
        Halls.offer(hall, 1, 0, 1, 2);
        t.is("SOUNDS", hall.why(), 15);
        Halls.offer(hall, 1);
        t.is("SOUNDS of an empty draft", hall.why(), 0);
    }

    private static void causeOfMending() {
        RengaHall hall = Halls.made(2, 2, 2);
        hall.word(7, NONE, 0);
        t.is("refused", hall.mend(0, 2), -1);
        t.is("cause", hall.why(), 7);
        t.is("mended", hall.mend(0, 1), 0);
        t.is("it stays", hall.why(), 7);
        hall.begin(2, 0, 5, 5);
        t.is("a new poem", hall.why(), 7);
        Halls.offer(hall, 0, 2);
        t.is("the same cause of an offer", hall.why(), 7);
        Halls.offer(hall, 0, 0, 2);
        t.is("another one", hall.why(), 12);
    }

    private static void chooseLeastAndGreatestOffer() {
        for (int offers = 1; offers <= 4; offers++) {
            for (int chosen = 0; chosen < offers; chosen++) {
                RengaHall hall = Halls.plain(4, 2);
                for (int offer = 0; offer < offers; offer++) {
                    Halls.offer(hall, offer % 2, offer);
                }
                int behind = offers;
                t.noSuch("behind the last", () -> hall.choose(behind));
                t.noSuch("-1", () -> hall.choose(-1));
                t.noSuch("least", () -> hall.choose(LEAST));
                t.noSuch("most", () -> hall.choose(MOST));
                t.is("all are kept", hall.offers(), offers);
                t.is("link", hall.choose(chosen), 0);
                t.is("its word", hall.wordAt(0, 0), chosen);
                t.is("its poet", hall.ofLink(0, 0), chosen % 2);
            }
        }
    }

    private static void chosenOfferIsTheNextLink() {
        RengaHall hall = Halls.plain(4, 3);
        Halls.offer(hall, 0, 0);
        hall.add(3);
        t.is("link 0", hall.choose(0), 0);
        t.is("the draft stays", hall.clear(), 1);
        t.is("link 1", Halls.link(hall, 1, 1), 1);
        t.is("the last link", Halls.link(hall, 0, 2), 2);
        t.is("links", hall.links(), 3);
        t.is("the first stays", hall.wordAt(0, 0), 0);
        RengaHall sixes = Halls.ofSixes(36, 35);
        t.is("the 36th", Halls.link(sixes, 1, 6, 7, 8, 9, 10, 11), 35);
    }

    private static void allOffersAreGone() {
        RengaHall hall = Halls.plain(4, 3);
        for (int offer = 0; offer < 4; offer++) {
            Halls.offer(hall, 0, offer);
        }
        hall.choose(1);
        t.is("offers", hall.offers(), 0);
        t.noSuch("the chosen one", () -> hall.choose(1));
        t.noSuch("the others", () -> hall.choose(0));
        t.is("numbered anew", Halls.offer(hall, 1, 2), 0);
        t.is("a link", hall.choose(0), 1);
        t.is("its word", hall.wordAt(1, 0), 2);
    }

    private static void chooseWithoutOffers() {
        RengaHall hall = Halls.plain(2, 2);
        t.noSuch("none yet", () -> hall.choose(0));
        Halls.offer(hall, 0, 0, 1);
        t.noSuch("a refused one", () -> hall.choose(0));
        t.is("no link was made", hall.links(), 0);
    }
}

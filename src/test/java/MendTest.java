/** Promise 12: mend. */
public final class MendTest {
    private static final int NONE = RengaHall.NONE;
    private static final int SUMMER = RengaHall.SUMMER;
    private static final int AUTUMN = RengaHall.AUTUMN;
    private static final int WINTER = RengaHall.WINTER;
    private static final int LEAST = Integer.MIN_VALUE, MOST = Integer.MAX_VALUE;
    private static final Expect t = new Expect("MendTest");

    public static void main(String[] args) {
        byTheWordThatIsThere();
        anotherWord();
        draftStays();
        placeFrom0ToTheLast();
        wordFrom0ToTheLast();
        withoutALink();
        whileOffersAreKept();
        theLatestLinkAlone();
        ofTheLastLink();
        refusedForSounds();
        refusedForMixed();
        refusedForAgain();
        againWithTheSpan();
        turnIsNotLookedAt();
        refusedForJoin();
        refusedForLeave();
        refusedForLength();
        refusedForSeat();
        refusedMendingChangesNothing();
        nextLinkFollowsTheMendedOne();
        t.end();
    }

    private static void byTheWordThatIsThere() {
        RengaHall hall = Halls.made(2, 3, 2);
        t.is("not mended", hall.ofLink(1, 5), 0);
        t.is("by the same", hall.mend(0, 1), 0);
        t.is("it was mended then", hall.ofLink(1, 5), 1);
        t.is("the word", hall.wordAt(1, 0), 1);
        t.is("once more", hall.mend(0, 1), 0);
        t.is("it was mended", hall.ofLink(1, 5), 1);
    }

    private static void anotherWord() {
        RengaHall hall = Halls.withPoets(2);
        hall.word(2, NONE, 1);
        hall.word(3, SUMMER, 2);
        hall.word(3, WINTER, 4);
        hall.word(3, NONE, 1);
        hall.begin(3, 2, 5, 5);
        Halls.link(hall, 1, 0, 1);
        for (int judge = 0; judge < 4; judge++) {
            hall.give(judge, 0, 7 + judge);
        }
        t.is("another word", hall.mend(1, 2), 0);
        t.is("the word", hall.wordAt(0, 1), 2);
        t.is("the other one", hall.wordAt(0, 0), 0);
        t.is("the poet", hall.ofLink(0, 0), 1);
        t.is("the season", hall.ofLink(0, 1), WINTER);
        t.is("the signs", hall.ofLink(0, 2), 5);
        t.is("how many words", hall.ofLink(0, 3), 2);
        t.is("the run", hall.ofLink(0, 4), 1);
        t.is("mended", hall.ofLink(0, 5), 1);
        for (int judge = 0; judge < 4; judge++) {
            t.is("its points stay", hall.give(judge, 0, 0), 7 + judge);
        }
        t.is("without a season", hall.mend(1, 3), 0);
        t.is("the season", hall.ofLink(0, 1), NONE);
        t.is("the run", hall.ofLink(0, 4), 0);
        t.is("no refusal", hall.why(), NONE);
    }

    private static void draftStays() {
        RengaHall hall = Halls.made(3, 3, 2);
        hall.add(2);
        hall.add(0);
        t.is("mended", hall.mend(0, 2), 0);
        t.is("two words", hall.clear(), 2);
    }

    private static void placeFrom0ToTheLast() {
        RengaHall hall = Halls.ofSixes(3, 2);
        Halls.addWords(hall, 6);
        for (int place = 1; place < 6; place++) {
            t.is("place " + place, hall.mend(place, 12 + place), 0);
            t.is("its word", hall.wordAt(1, place), 12 + place);
        }
        t.is("place 0", hall.mend(0, 6), 0);
        t.noSuch("place 6", () -> hall.mend(6, 6));
        t.noSuch("place -1", () -> hall.mend(-1, 6));
        t.noSuch("place least", () -> hall.mend(LEAST, 6));
        t.noSuch("place most", () -> hall.mend(MOST, 6));
        RengaHall one = Halls.made(2, 2, 1);
        t.noSuch("place 1 of one word", () -> one.mend(1, 1));
        t.is("not mended", one.ofLink(0, 5), 0);
        t.is("place 0 of one word", one.mend(0, 1), 0);
    }

    private static void wordFrom0ToTheLast() {
        RengaHall hall = Halls.withPoets(1);
        Halls.addWords(hall, 39);
        hall.begin(2, 0, 5, 5);
        Halls.link(hall, 0, 1);
        t.is("word 0", hall.mend(0, 0), 0);
        t.is("word 38", hall.mend(0, 38), 0);
        t.noSuch("word 39", () -> hall.mend(0, 39));
        Halls.addWords(hall, 1);
        t.is("word 39", hall.mend(0, 39), 0);
        t.noSuch("word 40", () -> hall.mend(0, 40));
        t.noSuch("word -1", () -> hall.mend(0, -1));
        t.noSuch("word least", () -> hall.mend(0, LEAST));
        t.noSuch("word most", () -> hall.mend(0, MOST));
        t.is("unchanged", hall.wordAt(0, 0), 39);
    }

    private static void withoutALink() {
        RengaHall hall = Halls.withPoets(2);
        Halls.addWords(hall, 2);
        t.noSuch("no poem", () -> hall.mend(0, 0));
        hall.begin(2, 0, 5, 5);
        t.noSuch("no link", () -> hall.mend(0, 0));
        Halls.offer(hall, 0, 0);
        t.noSuch("no link, ahead of offers", () -> hall.mend(0, 0));
        hall.choose(0);
        hall.call(0, 1);
        Halls.link(hall, 1, 1);
        t.is("a link", hall.mend(0, 1), 0);
        hall.begin(2, 0, 5, 5);
        t.noSuch("no link of a new poem", () -> hall.mend(0, 0));
    }

    private static void whileOffersAreKept() {
        RengaHall hall = Halls.made(3, 3, 1);
        Halls.offer(hall, 1, 1);
        t.notNow("an offer", () -> hall.mend(0, 0));
        t.notNow("an offer, and a fault", () -> hall.mend(0, hall.word(7, NONE, 0)));
        t.noSuch("place ahead of offers", () -> hall.mend(1, 0));
        t.noSuch("word ahead of offers", () -> hall.mend(0, 4));
        t.is("no refusal", hall.why(), NONE);
        t.is("nothing was mended", hall.ofLink(0, 5), 0);
        hall.choose(0);
        t.is("none is kept", hall.mend(0, 2), 0);
        Halls.offer(hall, 0, 0, 1);
        t.is("a refused one is not kept", hall.mend(0, 1), 0);
    }

    private static void theLatestLinkAlone() {
        RengaHall hall = Halls.made(4, 3, 2);
        t.is("mended", hall.mend(0, 3), 0);
        t.is("the latest", hall.wordAt(1, 0), 3);
        t.is("not the one ahead", hall.wordAt(0, 0), 0);
        t.is("not the one ahead", hall.ofLink(0, 5), 0);
        Halls.link(hall, 0, 2);
        t.is("a new link is not mended", hall.ofLink(2, 5), 0);
        t.is("the one ahead stays so", hall.ofLink(1, 5), 1);
        t.is("now the new one", hall.mend(0, 1), 0);
        t.is("the one ahead stays as it is", hall.wordAt(1, 0), 3);
    }

    private static void ofTheLastLink() {
        RengaHall hall = Halls.made(3, 2, 2);
        t.is("of a finished poem", hall.mend(0, 2), 0);
        t.is("its word", hall.wordAt(1, 0), 2);
        RengaHall longest = Halls.ofSixes(36, 36);
        Halls.addWords(longest, 1);
        t.is("of the 36th", longest.mend(5, 12), 0);
        t.is("its word", longest.wordAt(35, 5), 12);
        t.is("mended", longest.ofLink(35, 5), 1);
    }

    private static void refusedForSounds() {
        RengaHall hall = Halls.withPoets(2);
        hall.word(2, NONE, 1);
        hall.word(3, NONE, 1);
        hall.word(1, NONE, 1);
        hall.begin(2, 0, 5, 3);
        Halls.link(hall, 0, 0, 1);
        t.refused("one too many", hall.mend(0, 1), 1, hall, 6);
        t.refused("one too few", hall.mend(0, 2), 1, hall, 4);
        Halls.link(hall, 1, 1);
        t.refused("an odd link", hall.mend(0, 0), 1, hall, 2);
    }

    private static void refusedForMixed() {
        RengaHall hall = Halls.withPoets(1);
        for (int word = 0; word < 4; word++) {
            hall.word(1, NONE, 0);
        }
        hall.word(1, SUMMER, 0);
        hall.word(1, SUMMER, 0);
        hall.word(1, WINTER, 0);
        hall.begin(2, 0, 6, 6);
        Halls.link(hall, 0, 0, 1, 2, 3, 4, 5);
        t.refused("the last one", hall.mend(5, 6), 2, hall, 5);
        t.refused("then the others are unlike the first", hall.mend(0, 6), 2, hall, 4);
        t.refused("the first that has one", hall.mend(4, 6), 2, hall, 5);
        t.is("it has no season any more", hall.mend(0, 0), 0);
    }

    private static void refusedForAgain() {
        RengaHall hall = Halls.withPoets(1);
        for (int word = 0; word < 7; word++) {
            hall.word(1, NONE, 0);
        }
        hall.begin(2, 10, 6, 6);
        Halls.link(hall, 0, 0, 1, 2, 3, 4, 5);
        t.refused("as the last one", hall.mend(0, 5), 3, hall, 5);
        t.refused("as the first one", hall.mend(5, 0), 3, hall, 5);
        t.refused("as the one ahead", hall.mend(3, 2), 3, hall, 3);
        t.is("the word that was there is not ahead", hall.mend(3, 3), 0);
        t.is("another one", hall.mend(3, 6), 0);
        t.is("the word that was there before", hall.mend(3, 3), 0);
    }

    private static void againWithTheSpan() {
        RengaHall hall = Halls.plain(5, 4);
        hall.begin(4, 2, 5, 5);
        for (int link = 0; link < 4; link++) {
            t.is("link", Halls.link(hall, link % 2, link), link);
        }
        t.refused("one ahead", hall.mend(0, 2), 3, hall, 0);
        t.refused("two ahead", hall.mend(0, 1), 3, hall, 0);
        t.is("three ahead", hall.mend(0, 0), 0);
        t.is("none", hall.mend(0, 4), 0);
    }

    private static void turnIsNotLookedAt() {
        RengaHall hall = Halls.made(3, 2, 1);
        t.is("the first link", hall.mend(0, 0), 0);
        Halls.link(hall, 1, 1);
        t.is("another poet made the link ahead", hall.mend(0, 2), 0);
        hall.hide(0, true);
        hall.hide(1, true);
        t.is("nobody admits them", hall.mend(0, 1), 0);
    }

    private static void refusedForJoin() {
        RengaHall hall = Halls.withPoets(2);
        Halls.addWords(hall, 4);
        hall.call(0, 1);
        hall.call(0, 2);
        hall.begin(2, 0, 5, 5);
        Halls.link(hall, 0, 3);
        t.is("the first link needs none", hall.mend(0, 0), 0);
        Halls.link(hall, 1, 1);
        t.refused("none", hall.mend(0, 3), 5, hall, 0);
        t.refused("not with itself", hall.mend(0, 0), 5, hall, 0);
        t.is("another that joins", hall.mend(0, 2), 0);
    }

    private static void refusedForLeave() {
        RengaHall hall = Halls.withPoets(2);
        hall.word(5, NONE, 8 | 64);
        hall.word(5, NONE, 0);
        hall.word(5, NONE, 16);
        hall.word(5, NONE, 64);
        hall.word(5, NONE, 255);
        for (int word = 0; word < 5; word++) {
            if (word != 1) {
                hall.call(1, word);
            }
        }
        hall.begin(3, 0, 5, 5);
        Halls.link(hall, 0, 0);
        Halls.link(hall, 1, 1);
        Halls.link(hall, 0, 2);
        t.refused("a subject of the link two ahead", hall.mend(0, 3), 6, hall, 6);
        t.refused("the lowest", hall.mend(0, 4), 6, hall, 3);
        t.is("none", hall.mend(0, 2), 0);
    }

    private static void refusedForLength() {
        RengaHall hall = Halls.withPoets(2);
        int[] seasons = {AUTUMN, AUTUMN, NONE, SUMMER, SUMMER, WINTER};
        for (int season : seasons) {
            hall.word(5, season, 0);
        }
        Halls.callAll(hall, 6);
        hall.begin(36, 0, 5, 5);
        Halls.link(hall, 0, 3);
        Halls.link(hall, 1, 0);
        t.is("SUMMER goes on", hall.mend(0, 4), 0);
        t.is("it is left", hall.mend(0, 0), 0);
        Halls.link(hall, 0, 1);
        t.refused("AUTUMN is left, by none", hall.mend(0, 2), 7, hall, AUTUMN);
        t.refused("AUTUMN is left, by WINTER", hall.mend(0, 5), 7, hall, AUTUMN);
        Halls.link(hall, 1, 0);
        Halls.link(hall, 0, 1);
        t.refused("SUMMER comes back", hall.mend(0, 3), 7, hall, SUMMER);
        t.is("none", hall.mend(0, 2), 0);
        Halls.link(hall, 1, 3);
        Halls.link(hall, 0, 4);
        Halls.link(hall, 1, 3);
        Halls.link(hall, 0, 2);
        t.refused("SUMMER stays too long", hall.mend(0, 4), 7, hall, SUMMER);
        t.is("WINTER", hall.mend(0, 5), 0);
    }

    private static void refusedForSeat() {
        RengaHall hall = Halls.withPoets(2);
        hall.word(5, NONE, 0);
        hall.word(5, NONE, 256);
        hall.word(5, NONE, 512);
        Halls.callAll(hall, 3);
        hall.begin(3, 0, 5, 5);
        hall.seat(1, 1);
        hall.seat(2, 2);
        Halls.link(hall, 0, 0);
        t.refused("MOON out of its seat", hall.mend(0, 1), 8, hall, 1);
        t.refused("BLOSSOM out of its seat", hall.mend(0, 2), 8, hall, 2);
        Halls.link(hall, 1, 1);
        t.refused("BLOSSOM for the MOON", hall.mend(0, 2), 8, hall, 1);
        Halls.link(hall, 0, 2);
        t.refused("no BLOSSOM", hall.mend(0, 0), 8, hall, 2);
        t.is("BLOSSOM", hall.mend(0, 2), 0);
    }

    private static void refusedMendingChangesNothing() {
        RengaHall hall = Halls.made(2, 2, 2);
        hall.word(7, SUMMER, 255);
        hall.add(1);
        t.is("refused", hall.mend(0, 2), -1);
        t.is("the word", hall.wordAt(1, 0), 1);
        t.is("the season", hall.ofLink(1, 1), NONE);
        t.is("the signs", hall.ofLink(1, 2), 0);
        t.is("not mended", hall.ofLink(1, 5), 0);
        t.is("the draft", hall.clear(), 1);
        hall.mend(0, 1);
        t.is("refused", hall.mend(0, 2), -1);
        t.is("mended before", hall.ofLink(1, 5), 1);
    }

    private static void nextLinkFollowsTheMendedOne() {
        RengaHall asMade = beforeTheNextLink();
        t.is("a subject in common", Halls.offer(asMade, 1, 3), 0);
        t.is("a word that calls none of it to mind", Halls.offer(asMade, 1, 2), -5);
        RengaHall hall = beforeTheNextLink();
        t.is("mended", hall.mend(0, 1), 0);
        t.is("no subject in common any more", Halls.offer(hall, 1, 3), -5);
        t.is("AGAIN by the mended word", Halls.offer(hall, 1, 1), -3);
        t.is("the chance that is left", hall.chances(1), 1);
        t.is("AUTUMN goes on", Halls.link(hall, 1, 2), 1);
        t.is("its run", hall.ofLink(1, 4), 2);
    }

    private static RengaHall beforeTheNextLink() {
        RengaHall hall = Halls.withPoets(2);
        hall.word(5, NONE, 1);
        hall.word(5, AUTUMN, 2);
        hall.word(5, AUTUMN, 2);
        hall.word(5, NONE, 1);
        hall.begin(3, 1, 5, 5);
        Halls.link(hall, 0, 0);
        return hall;
    }
}

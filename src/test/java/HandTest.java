/** Promises 16 and 26: hide, hand. */
public final class HandTest {
    private static final int NONE = RengaHall.NONE;
    private static final int LEAST = Integer.MIN_VALUE, MOST = Integer.MAX_VALUE;
    private static final Expect t = new Expect("HandTest");

    public static void main(String[] args) {
        whetherItWasHidden();
        hideFrom0ToTheLatest();
        hiddenLinkIsStillALink();
        handFrom0ToTheLatest();
        nobodyHasAnotherLink();
        nobodyHasAnotherThatIsNotHidden();
        hiddenOrNot();
        otherLinksAlone();
        ofSeveralTheLowest();
        threeForEachWord();
        oneForEachSign();
        wordsAndSignsTogether();
        allSigns();
        wordsUpToThe40th();
        noneForTheSeason();
        wordsOfAllPlaces();
        means();
        exactFractions();
        afterMending();
        ofTheLongestPoem();
        t.end();
    }

    private static void whetherItWasHidden() {
        RengaHall hall = Halls.made(3, 3, 2);
        t.is("was not", hall.hide(1, true), false);
        t.is("was", hall.hide(1, true), true);
        t.is("was", hall.hide(1, false), true);
        t.is("was not", hall.hide(1, false), false);
        t.is("the other one was not", hall.hide(0, true), false);
        t.is("this one was not", hall.hide(1, true), false);
    }

    private static void hideFrom0ToTheLatest() {
        RengaHall hall = Halls.plain(3, 3);
        t.noSuch("no link", () -> hall.hide(0, true));
        Halls.link(hall, 0, 0);
        t.is("link 0", hall.hide(0, true), false);
        t.noSuch("link 1", () -> hall.hide(1, true));
        Halls.link(hall, 1, 1);
        t.is("a new link is not hidden", hall.ofLink(1, 0), 1);
        t.is("link 1", hall.hide(1, true), false);
        t.noSuch("link 2", () -> hall.hide(2, false));
        t.noSuch("link -1", () -> hall.hide(-1, true));
        t.noSuch("link least", () -> hall.hide(LEAST, true));
        t.noSuch("link most", () -> hall.hide(MOST, false));
        t.is("unchanged", hall.hide(0, true), true);
        Halls.link(hall, 0, 2);
        t.is("the last link", hall.hide(2, true), false);
        t.noSuch("no poem", () -> new RengaHall().hide(0, true));
    }

    private static void hiddenLinkIsStillALink() {
        RengaHall hall = Halls.made(4, 4, 2);
        hall.hide(1, true);
        t.is("nobody admits it", hall.ofLink(1, 0), NONE);
        t.is("its words stay", hall.ofLink(1, 3), 1);
        t.is("links", hall.links(), 2);
        t.is("its poet made it", Halls.link(hall, 1, 2), -4);
        t.is("who is told", hall.why(), 1);
        t.is("no chances", hall.chances(1), 0);
        t.is("no fault", hall.faultAnew(1), 0);
        t.is("mended", hall.mend(0, 2), 0);
        t.is("still hidden", hall.ofLink(1, 0), NONE);
        Halls.link(hall, 0, 3);
        t.is("still hidden", hall.ofLink(1, 0), NONE);
        hall.hide(1, false);
        t.is("admitted", hall.ofLink(1, 0), 1);
    }

    private static void handFrom0ToTheLatest() {
        RengaHall hall = Halls.made(3, 3, 2);
        t.is("link 0", hall.hand(0), 1);
        t.is("link 1", hall.hand(1), 0);
        t.noSuch("link 2", () -> hall.hand(2));
        t.noSuch("link -1", () -> hall.hand(-1));
        t.noSuch("link least", () -> hall.hand(LEAST));
        t.noSuch("link most", () -> hall.hand(MOST));
        t.noSuch("no poem", () -> new RengaHall().hand(0));
        t.noSuch("no link", () -> Halls.plain(1, 2).hand(0));
    }

    private static void nobodyHasAnotherLink() {
        RengaHall hall = Halls.made(2, 2, 1);
        t.is("the only link", hall.hand(0), NONE);
        hall.hide(0, true);
        t.is("hidden", hall.hand(0), NONE);
        hall.poet();
        t.is("a poet without links", hall.hand(0), NONE);
    }

    private static void nobodyHasAnotherThatIsNotHidden() {
        RengaHall hall = Halls.made(3, 3, 3);
        hall.hide(0, true);
        hall.hide(2, true);
        t.is("both others are hidden", hall.hand(1), NONE);
        t.is("one is not", hall.hand(0), 1);
        hall.hide(1, true);
        t.is("all are hidden", hall.hand(0), NONE);
        hall.hide(2, false);
        t.is("one is not", hall.hand(1), 0);
        t.is("it itself is not", hall.hand(2), NONE);
    }

    private static void hiddenOrNot() {
        RengaHall hall = Halls.made(3, 3, 3);
        t.is("not hidden", hall.hand(1), 0);
        hall.hide(1, true);
        t.is("hidden", hall.hand(1), 0);
        t.is("the other one, without it", hall.hand(0), 0);
        hall.hide(1, false);
        t.is("with it", hall.hand(0), 0);
        hall.hide(2, true);
        t.is("its own poet's other one is hidden", hall.hand(0), 1);
    }

    /** A link is just like itself, but that does not count. */
    private static void otherLinksAlone() {
        RengaHall hall = poem(2, 0, 3, 4);
        makeOf(hall, 0, 0);
        makeOf(hall, 1, 1);
        t.is("only poet 1 has another one", hall.hand(0), 1);
        t.is("only poet 0 has another one", hall.hand(1), 0);
        makeOf(hall, 0, 2);
        t.is("neither is like it", hall.hand(1), 0);
        t.is("neither is like it", hall.hand(0), 0);
    }

    private static void ofSeveralTheLowest() {
        RengaHall hall = poem(6, 0, 0, 0, 0, 0, 0, 0);
        makeOf(hall, 3, 6);
        for (int poet = 5; poet > 3; poet--) {
            makeOf(hall, poet, poet);
            t.is("nothing in common", hall.hand(0), poet);
        }
        for (int poet = 2; poet >= 0; poet--) {
            makeOf(hall, poet, poet);
            t.is("nothing in common", hall.hand(0), poet);
        }
    }

    private static void threeForEachWord() {
        t.is("a word and 2 signs", alike(1, 0, 0, 2), 0);
        t.is("a word and 3 signs", alike(1, 0, 0, 3), 0);
        t.is("a word and 4 signs", alike(1, 0, 0, 4), 1);
        t.is("2 signs and a word", alike(0, 2, 1, 0), 1);
        t.is("3 signs and a word", alike(0, 3, 1, 0), 0);
        t.is("4 signs and a word", alike(0, 4, 1, 0), 0);
        t.is("2 words and 5 signs", alike(0, 5, 2, 0), 1);
        t.is("2 words and 6 signs", alike(0, 6, 2, 0), 0);
        t.is("2 words and 7 signs", alike(2, 0, 0, 7), 1);
    }

    private static void oneForEachSign() {
        for (int signs = 0; signs < 8; signs++) {
            t.is("one more", alike(0, signs, 0, signs + 1), 1);
            t.is("as many", alike(0, signs, 0, signs), 0);
            t.is("one more, and words", alike(2, signs, 2, signs + 1), 1);
        }
    }

    private static void wordsAndSignsTogether() {
        for (int words = 0; words < 36; words++) {
            for (int signs = 0; signs < 81; signs++) {
                int of0 = 3 * (words / 6) + signs / 9;
                int of1 = 3 * (words % 6) + signs % 9;
                int got = alike(words / 6, signs / 9, words % 6, signs % 9);
                t.is(of0 + " and " + of1, got, of1 > of0 ? 1 : 0);
            }
        }
    }

    /**
     * Whose the first link is by habits, that of poet 2, if a link of poet 0 has so many words
     * and signs in common with it, one of poet 1 so many, and two of poets 2 and 3 none.
     */
    private static int alike(int words0, int signs0, int words1, int signs1) {
        RengaHall hall = Halls.withPoets(4);
        for (int word = 0; word < 23; word++) {
            hall.word(1, NONE, word == 5 ? 255 : 0);
        }
        for (int signs = 0; signs <= 8; signs++) {
            hall.word(1, NONE, (1 << signs) - 1);
        }
        hall.call(5, 23 + signs0);
        hall.call(23 + signs0, 11);
        hall.call(11, 17);
        hall.call(17, 23 + signs1);
        hall.begin(36, 0, 6, 6);
        Halls.link(hall, 2, 0, 1, 2, 3, 4, 5);
        makeAlike(hall, 0, words0, signs0);
        Halls.link(hall, 2, 11, 12, 13, 14, 15, 16);
        Halls.link(hall, 3, 17, 18, 19, 20, 21, 22);
        makeAlike(hall, 1, words1, signs1);
        t.is("links", hall.links(), 5);
        return hall.hand(0);
    }

    private static void makeAlike(RengaHall hall, int poet, int words, int signs) {
        int[] row = {6, 7, 8, 9, 10, 23 + signs};
        for (int word = 0; word < words; word++) {
            row[word] = word;
        }
        Halls.link(hall, poet, row);
    }

    private static void allSigns() {
        for (int sign = 8; sign <= 9; sign++) {
            RengaHall hall = poem(3, 1 << sign, 0, 1 << sign, 0);
            hall.begin(4, 0, 5, 5);
            hall.seat(0, sign - 7);
            hall.seat(2, sign - 7);
            t.is("with the sign", Halls.link(hall, 2, 0), 0);
            t.is("without it", Halls.link(hall, 0, 1), 1);
            t.is("with it", Halls.link(hall, 1, 2), 2);
            t.is("it is a sign that both have", hall.hand(0), 1);
            t.is("nobody else has it", hall.hand(1), 1);
        }
    }

    private static void wordsUpToThe40th() {
        for (int word = 1; word < 40; word++) {
            RengaHall hall = Halls.withPoets(3);
            Halls.addWords(hall, 40);
            hall.call(0, word);
            hall.begin(3, 0, 5, 5);
            t.is("link 0", Halls.link(hall, 2, word), 0);
            t.is("link 1", Halls.link(hall, 0, 0), 1);
            t.is("link 2", Halls.link(hall, 1, word), 2);
            t.is("word " + word + " in common", hall.hand(0), 1);
        }
    }

    private static void noneForTheSeason() {
        RengaHall hall = Halls.withPoets(3);
        hall.word(5, RengaHall.SUMMER, 0);
        hall.word(5, RengaHall.SUMMER, 0);
        hall.word(5, NONE, 0);
        Halls.callAll(hall, 3);
        hall.begin(4, 0, 5, 5);
        makeOf(hall, 2, 0);
        makeOf(hall, 1, 1);
        makeOf(hall, 0, 2);
        t.is("the same season is nothing in common", hall.hand(0), 0);
    }

    private static void wordsOfAllPlaces() {
        for (int place = 0; place < 6; place++) {
            RengaHall hall = Halls.withPoets(3);
            Halls.addWords(hall, 18);
            hall.call(0, 6);
            hall.call(6, 12);
            hall.call(6, 13);
            hall.begin(3, 0, 30, 30);
            t.is("link 0", Halls.link(hall, 2, 0, 1, 2, 3, 4, 5), 0);
            t.is("link 1", Halls.link(hall, 0, 6, 7, 8, 9, 10, 11), 1);
            t.is("link 2", Halls.link(hall, 1, 12, 13, 14, 15, 16, 17), 2);
            t.is("nothing in common", hall.hand(0), 0);
            t.is("a word of link 0", hall.mend(place, 5 - place), 0);
            t.is("in another place there", hall.hand(0), 1);
        }
    }

    /** A poet with much and little in common has the mean of both. */
    private static void means() {
        RengaHall hall = poem(2, 0, 0, 0, 0, 0);
        t.is("link 0", Halls.link(hall, 1, 0), 0);
        t.is("nothing in common", Halls.link(hall, 0, 1), 1);
        t.is("a word in common", Halls.link(hall, 1, 0), 2);
        t.is("0 has 0, 1 has 3", hall.hand(0), 1);
        t.is("a word in common", Halls.link(hall, 0, 1), 3);
        t.is("link 1: 0 has 3, 1 has 0", hall.hand(1), 0);
        t.is("link 0: 0 has 0, 1 has 3", hall.hand(0), 1);
        t.is("nothing", Halls.link(hall, 1, 2), 4);
        t.is("link 0: 0 has 0, 1 has 3/2", hall.hand(0), 1);
        t.is("a word in common", Halls.link(hall, 0, 0), 5);
        t.is("link 0: 0 has 3/3, 1 has 3/2", hall.hand(0), 1);
        t.is("nothing", Halls.link(hall, 1, 3), 6);
        t.is("link 0: 0 has 3/3, 1 has 3/3", hall.hand(0), 0);
    }

    private static void exactFractions() {
        RengaHall hall = Halls.withPoets(2);
        hall.word(5, NONE, 256);
        hall.word(2, NONE, 256);
        hall.word(3, NONE, 256);
        hall.word(5, NONE, 256);
        hall.word(3, NONE, 256);
        Halls.callAll(hall, 5);
        hall.begin(7, 0, 5, 5);
        for (int link = 0; link < 7; link++) {
            hall.seat(link, 1);
        }
        Halls.link(hall, 0, 1, 2);
        Halls.link(hall, 1, 1, 4);
        Halls.link(hall, 0, 0);
        t.is("0 has 1, 1 has 4", hall.hand(0), 1);
        Halls.link(hall, 1, 3);
        Halls.link(hall, 0, 1, 4);
        t.is("0 has 1 and 4, 1 has 4 and 1: the same", hall.hand(0), 0);
        Halls.link(hall, 1, 3);
        t.is("0 has 5/2, 1 has 6/3", hall.hand(0), 0);
        t.is("link 4: 0 has 4 and 1, 1 has 7, 1 and 1: 9/3", hall.hand(4), 1);
        Halls.link(hall, 0, 0);
        t.is("link 0: 0 has 6/3, 1 has 6/3", hall.hand(0), 0);
    }

    private static void afterMending() {
        RengaHall hall = poem(3, 0, 0, 0, 0, 0);
        Halls.link(hall, 2, 0);
        Halls.link(hall, 0, 1);
        Halls.link(hall, 1, 2);
        t.is("nothing in common", hall.hand(0), 0);
        t.is("mended", hall.mend(0, 0), 0);
        t.is("a word in common", hall.hand(0), 1);
        t.is("mended", hall.mend(0, 3), 0);
        t.is("nothing in common", hall.hand(0), 0);
    }

    private static void ofTheLongestPoem() {
        RengaHall hall = Halls.ofSixes(36, 36);
        t.is("link 0 is like those of poet 0", hall.hand(0), 0);
        t.is("link 35 is like those of poet 1", hall.hand(35), 1);
        for (int link = 0; link < 34; link += 2) {
            hall.hide(link, true);
        }
        t.is("link 34 alone is not hidden", hall.hand(0), 0);
        t.is("link 34 itself does not count", hall.hand(34), 1);
        t.noSuch("link 36", () -> hall.hand(36));
    }

    /** A poem of many links, in a hall of words with these signs that all call each other. */
    private static RengaHall poem(int poets, int... signs) {
        RengaHall hall = Halls.withPoets(poets);
        for (int its : signs) {
            hall.word(5, NONE, its);
        }
        Halls.callAll(hall, signs.length);
        hall.begin(36, 0, 5, 5);
        return hall;
    }

    private static void makeOf(RengaHall hall, int poet, int word) {
        t.is("made", Halls.link(hall, poet, word), hall.links() - 1);
    }
}

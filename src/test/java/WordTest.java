/** Promises 2 to 4: word, call, poet. */
public final class WordTest {
    private static final int NONE = RengaHall.NONE;
    private static final int LEAST = Integer.MIN_VALUE, MOST = Integer.MAX_VALUE;
    private static final Expect t = new Expect("WordTest");

    public static void main(String[] args) {
        soundsFrom1To12();
        seasonsFromNoneToWinter();
        signsFrom0To1023();
        wordsAreNumberedFrom0();
        atMost40Words();
        rangesAheadOfTheLimit();
        callOfLeastAndGreatestWord();
        callIsOfBothAndOfNoOthers();
        callNeedsTwoWords();
        callOfTheSameWord();
        atMost6Poets();
        t.end();
    }

    /** A word alone in the draft is refused by its sounds, so that these are told. */
    private static void soundsFrom1To12() {
        RengaHall hall = Halls.withPoets(1);
        hall.begin(2, 0, 40, 40);
        for (int sounds = 1; sounds <= 12; sounds++) {
            t.is("word of " + sounds, hall.word(sounds, NONE, 0), sounds - 1);
            t.is("offer", Halls.offer(hall, 0, sounds - 1), -1);
            t.is("its sounds", hall.why(), sounds);
        }
        t.outOfRange("sounds 0", () -> hall.word(0, NONE, 0));
        t.outOfRange("sounds 13", () -> hall.word(13, NONE, 0));
        t.outOfRange("sounds -1", () -> hall.word(-1, NONE, 0));
        t.outOfRange("sounds least", () -> hall.word(LEAST, NONE, 0));
        t.outOfRange("sounds most", () -> hall.word(MOST, NONE, 0));
        t.is("none of these was added", hall.word(1, NONE, 0), 12);
    }

    private static void seasonsFromNoneToWinter() {
        for (int season = NONE; season <= RengaHall.WINTER; season++) {
            RengaHall hall = Halls.withPoets(1);
            t.is("word of season " + season, hall.word(5, season, 0), 0);
            hall.begin(2, 0, 5, 5);
            Halls.link(hall, 0, 0);
            t.is("its season", hall.ofLink(0, 1), season);
        }
        RengaHall hall = new RengaHall();
        t.outOfRange("season -2", () -> hall.word(1, -2, 0));
        t.outOfRange("season 4", () -> hall.word(1, 4, 0));
        t.outOfRange("season least", () -> hall.word(1, LEAST, 0));
        t.outOfRange("season most", () -> hall.word(1, MOST, 0));
        t.is("none of these was added", hall.word(1, NONE, 0), 0);
    }

    private static void signsFrom0To1023() {
        int[] signs = {0, 1, 2, 4, 8, 16, 32, 64, 128, 256, 512, 255, 511, 767};
        for (int it : signs) {
            RengaHall hall = Halls.withPoets(1);
            t.is("word of signs " + it, hall.word(5, NONE, it), 0);
            hall.begin(2, 0, 5, 5);
            hall.seat(0, it / 256);
            t.is("link", Halls.link(hall, 0, 0), 0);
            t.is("its signs", hall.ofLink(0, 2), it);
        }
        RengaHall hall = Halls.withPoets(1);
        t.is("word of all signs", hall.word(5, NONE, 1023), 0);
        hall.begin(2, 0, 5, 5);
        hall.seat(0, 1);
        t.is("it has BLOSSOM in a seat of the MOON", Halls.offer(hall, 0, 0), -8);
        t.is("cause", hall.why(), 2);
        hall.seat(0, 2);
        t.is("it has the MOON in a seat of BLOSSOM", hall.offer(0), -8);
        t.is("cause", hall.why(), 1);
        t.outOfRange("signs -1", () -> hall.word(1, 0, -1));
        t.outOfRange("signs 1024", () -> hall.word(1, 0, 1024));
        t.outOfRange("signs least", () -> hall.word(1, 0, LEAST));
        t.outOfRange("signs most", () -> hall.word(1, 0, MOST));
        t.is("none of these was added", hall.word(1, 0, 0), 1);
    }

    private static void wordsAreNumberedFrom0() {
        RengaHall hall = Halls.withPoets(1);
        t.is("the first", hall.word(1, NONE, 0), 0);
        t.is("the next", hall.word(12, RengaHall.WINTER, 1023), 1);
        t.is("like the one before", hall.word(12, RengaHall.WINTER, 1023), 2);
        hall.begin(2, 0, 5, 5);
        t.is("while a poem is made", hall.word(5, NONE, 0), 3);
        Halls.link(hall, 0, 3);
        t.is("behind a link", hall.word(7, NONE, 0), 4);
        t.is("the words before stay", hall.wordAt(0, 0), 3);
    }

    private static void atMost40Words() {
        RengaHall hall = Halls.withPoets(1);
        for (int word = 0; word < 40; word++) {
            t.is("word", hall.word(1 + word % 12, word % 5 - 1, word), word);
        }
        t.notNow("the 41st", () -> hall.word(1, 0, 0));
        t.notNow("the 41st once more", () -> hall.word(12, NONE, 1023));
        t.is("word 39 is there", hall.add(39), 1);
        t.noSuch("word 40 is not", () -> hall.add(40));
        hall.begin(2, 0, 40, 40);
        t.is("word 0 is as it was", Halls.offer(hall, 0, 0), -1);
        t.is("its sounds", hall.why(), 1);
    }

    private static void rangesAheadOfTheLimit() {
        RengaHall hall = new RengaHall();
        Halls.addWords(hall, 40);
        t.outOfRange("sounds", () -> hall.word(0, 0, 0));
        t.outOfRange("season", () -> hall.word(1, 4, 0));
        t.outOfRange("signs", () -> hall.word(1, 0, 1024));
        t.notNow("no range", () -> hall.word(1, 0, 0));
    }

    private static void callOfLeastAndGreatestWord() {
        RengaHall hall = new RengaHall();
        Halls.addWords(hall, 2);
        t.is("two words", hall.call(0, 1), false);
        t.is("they do so already", hall.call(0, 1), true);
        Halls.addWords(hall, 38);
        t.is("still", hall.call(0, 1), true);
        t.is("40 words", hall.call(0, 39), false);
        t.is("they do so already", hall.call(0, 39), true);
        t.is("the greatest as the first", hall.call(39, 38), false);
        t.is("they do so already", hall.call(39, 38), true);
        t.noSuch("word 40", () -> hall.call(40, 0));
        t.noSuch("other 40", () -> hall.call(0, 40));
    }

    private static void callIsOfBothAndOfNoOthers() {
        RengaHall hall = Halls.withPoets(2);
        Halls.addWords(hall, 40);
        t.is("0 and 39", hall.call(0, 39), false);
        t.is("the other way", hall.call(39, 0), true);
        t.is("1 and 39", hall.call(1, 39), false);
        t.is("0 and 38", hall.call(0, 38), false);
        t.is("over 31", hall.call(33, 32), false);
        t.is("not mixed up with those below", hall.call(1, 0), false);
        hall.begin(4, 0, 5, 5);
        t.is("link 0", Halls.link(hall, 0, 39), 0);
        t.is("no join with 2", Halls.link(hall, 1, 2), -5);
        t.is("nor with itself", Halls.link(hall, 1, 39), -5);
        t.is("join with 1", Halls.link(hall, 1, 1), 1);
        t.is("join the other way", Halls.link(hall, 0, 39), 2);
    }

    private static void callNeedsTwoWords() {
        RengaHall hall = new RengaHall();
        Halls.addWords(hall, 2);
        t.noSuch("word 2", () -> hall.call(2, 0));
        t.noSuch("other 2", () -> hall.call(0, 2));
        t.noSuch("word -1", () -> hall.call(-1, 0));
        t.noSuch("other -1", () -> hall.call(0, -1));
        t.noSuch("word least", () -> hall.call(LEAST, 0));
        t.noSuch("other most", () -> hall.call(0, MOST));
        t.noSuch("neither", () -> hall.call(2, -1));
        t.is("nothing was changed", hall.call(0, 1), false);
    }

    private static void callOfTheSameWord() {
        RengaHall hall = new RengaHall();
        Halls.addWords(hall, 2);
        t.outOfRange("0 and 0", () -> hall.call(0, 0));
        t.outOfRange("1 and 1", () -> hall.call(1, 1));
        t.noSuch("the same, and no word", () -> hall.call(2, 2));
        t.noSuch("the same, and no word", () -> hall.call(-1, -1));
        t.is("nothing was changed", hall.call(0, 1), false);
    }

    private static void atMost6Poets() {
        RengaHall hall = new RengaHall();
        for (int poet = 0; poet < 6; poet++) {
            int it = poet;
            t.noSuch("not yet", () -> hall.chances(it));
            t.is("poet", hall.poet(), poet);
            t.is("there", hall.chances(poet), 0);
        }
        t.notNow("the 7th", hall::poet);
        t.notNow("the 7th once more", hall::poet);
        t.is("poet 5 is there", hall.chances(5), 0);
        t.noSuch("poet 6 is not", () -> hall.chances(6));
        hall.word(5, NONE, 0);
        hall.begin(2, 0, 5, 5);
        t.is("a link of poet 5", Halls.link(hall, 5, 0), 0);
        t.is("its poet", hall.ofLink(0, 0), 5);
    }
}

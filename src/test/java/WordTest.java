/** Promises 1 to 4: a new object, word, call, poet. */
public final class WordTest {
    private static final int NONE = RengaHall.NONE;
    private static final Expect t = new Expect("WordTest");

    public static void main(String[] args) {
        newObject();
        wordNumbers();
        wordRanges();
        wordLimit();
        calls();
        callArguments();
        poets();
        t.end();
    }

    private static void newObject() {
        RengaHall hall = new RengaHall();
        t.is("links", hall.links(), 0);
        t.is("offers", hall.offers(), 0);
        t.is("why", hall.why(), NONE);
        t.is("prize", hall.prize(), NONE);
        t.is("clear", hall.clear(), 0);
        t.noSuch("no word", () -> hall.add(0));
        t.noSuch("no poet", () -> hall.chances(0));
        t.noSuch("no poet", () -> hall.offer(0));
        t.noSuch("no link to come", () -> hall.seat(0, 0));
        t.noSuch("no link", () -> hall.ofLink(0, 0));
        t.noSuch("no offer", () -> hall.choose(0));
        t.notNow("no poem", () -> hall.copy(NONE));
        t.notNow("no poem", () -> hall.far(NONE, NONE));
        t.is("two objects share nothing", hall.poet() + new RengaHall().poet(), 0);
    }

    private static void wordNumbers() {
        RengaHall hall = Halls.withPoets(1);
        t.is("least", hall.word(1, NONE, 0), 0);
        t.is("most", hall.word(12, RengaHall.WINTER, 1023), 1);
        t.is("like one before", hall.word(12, RengaHall.WINTER, 1023), 2);
        t.is("other", hall.word(7, RengaHall.SUMMER, 5), 3);
        hall.begin(2, 0, 7, 13);
        t.is("made of word 3", Halls.link(hall, 0, 3), 0);
        t.is("season", hall.ofLink(0, 1), RengaHall.SUMMER);
        t.is("signs", hall.ofLink(0, 2), 5);
        hall.poet();
        t.is("1 and 12 sounds, subjects in common, a MOON", Halls.offer(hall, 1, 0, 1), -8);
        t.is("words come while a poem is made", hall.word(1, NONE, 0), 4);
    }

    private static void wordRanges() {
        RengaHall hall = new RengaHall();
        t.outOfRange("sounds 0", () -> hall.word(0, 0, 0));
        t.outOfRange("sounds 13", () -> hall.word(13, 0, 0));
        t.outOfRange("sounds least", () -> hall.word(Integer.MIN_VALUE, 0, 0));
        t.outOfRange("season -2", () -> hall.word(1, -2, 0));
        t.outOfRange("season 4", () -> hall.word(1, 4, 0));
        t.outOfRange("signs -1", () -> hall.word(1, 0, -1));
        t.outOfRange("signs 1024", () -> hall.word(1, 0, 1024));
        t.outOfRange("signs most", () -> hall.word(1, 0, Integer.MAX_VALUE));
        t.is("none was added", hall.word(1, 0, 0), 0);
    }

    private static void wordLimit() {
        RengaHall hall = new RengaHall();
        for (int word = 0; word < 40; word++) {
            t.is("word", hall.word(1 + word % 12, word % 5 - 1, word), word);
        }
        t.notNow("41st word", () -> hall.word(1, 0, 0));
        t.outOfRange("range ahead of the limit", () -> hall.word(0, 0, 0));
        t.is("word 39 is there", hall.add(39), 1);
        t.noSuch("word 40 is not", () -> hall.add(40));
    }

    private static void calls() {
        RengaHall hall = new RengaHall();
        for (int word = 0; word < 40; word++) {
            hall.word(5, NONE, 0);
        }
        t.is("first", hall.call(0, 39), false);
        t.is("once more", hall.call(0, 39), true);
        t.is("the other way", hall.call(39, 0), true);
        t.is("others", hall.call(1, 39), false);
        t.is("others", hall.call(0, 38), false);
        t.is("over 31", hall.call(33, 32), false);
        t.is("not mixed up with lower ones", hall.call(1, 0), false);
        hall.poet();
        hall.poet();
        hall.begin(4, 0, 5, 5);
        t.is("link 0", Halls.link(hall, 0, 39), 0);
        t.is("no join with 2", Halls.link(hall, 1, 2), -5);
        t.is("nor with itself", Halls.link(hall, 1, 39), -5);
        t.is("join with 1", Halls.link(hall, 1, 1), 1);
        t.is("join the other way", Halls.link(hall, 0, 39), 2);
    }

    private static void callArguments() {
        RengaHall hall = new RengaHall();
        hall.word(5, NONE, 0);
        hall.word(5, NONE, 0);
        t.noSuch("word 2", () -> hall.call(2, 0));
        t.noSuch("other 2", () -> hall.call(0, 2));
        t.noSuch("word -1", () -> hall.call(-1, 0));
        t.noSuch("other -1", () -> hall.call(0, -1));
        t.noSuch("both are the same, but no word", () -> hall.call(2, 2));
        t.noSuch("both -1", () -> hall.call(-1, -1));
        t.outOfRange("the same", () -> hall.call(1, 1));
        t.is("nothing was changed", hall.call(0, 1), false);
    }

    private static void poets() {
        RengaHall hall = new RengaHall();
        for (int poet = 0; poet < 6; poet++) {
            t.is("poet", hall.poet(), poet);
        }
        t.notNow("7th poet", hall::poet);
        t.is("poet 5 is there", hall.chances(5), 0);
        t.noSuch("poet 6 is not", () -> hall.chances(6));
    }
}

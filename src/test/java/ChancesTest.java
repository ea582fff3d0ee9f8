/** Promise 22: chances. */
public final class ChancesTest {
    private static final int NONE = RengaHall.NONE;
    private static final int LEAST = Integer.MIN_VALUE, MOST = Integer.MAX_VALUE;
    private static final Expect t = new Expect("ChancesTest");

    public static void main(String[] args) {
        poetFrom0ToTheLast();
        withoutAPoem();
        finished();
        withoutWords();
        oneWord();
        twoWordsInBothOrders();
        rowsOfTwoWordsAtMost();
        of40Words();
        offersAreNotCounted();
        rowsWithFaultsAreNotCounted();
        turnAndSpan();
        seasonsAndSeats();
        asManyAsCanBeOffered();
        nothingIsChanged();
        t.end();
    }

    private static void poetFrom0ToTheLast() {
        RengaHall hall = new RengaHall();
        hall.word(5, NONE, 0);
        hall.begin(2, 0, 5, 5);
        t.noSuch("no poet", () -> hall.chances(0));
        for (int poet = 0; poet < 6; poet++) {
            int behind = poet + 1;
            hall.poet();
            t.is("poet " + poet, hall.chances(poet), 1);
            t.noSuch("not yet", () -> hall.chances(behind));
        }
        t.noSuch("poet -1", () -> hall.chances(-1));
        t.noSuch("poet least", () -> hall.chances(LEAST));
        t.noSuch("poet most", () -> hall.chances(MOST));
    }

    private static void withoutAPoem() {
        RengaHall hall = Halls.withPoets(1);
        t.is("no poem", hall.chances(0), 0);
        hall.word(5, NONE, 0);
        t.is("no poem, though a word", hall.chances(0), 0);
        t.noSuch("no poet, ahead of no poem", () -> hall.chances(1));
        hall.begin(2, 0, 5, 5);
        t.is("a poem", hall.chances(0), 1);
    }

    private static void finished() {
        RengaHall hall = Halls.made(3, 2, 1);
        t.is("not yet", hall.chances(1), 2);
        Halls.link(hall, 1, 1);
        t.is("finished", hall.chances(0), 0);
        t.is("finished", hall.chances(1), 0);
        t.noSuch("no poet, though finished", () -> hall.chances(2));
        hall.begin(2, 0, 5, 5);
        t.is("a new poem", hall.chances(1), 3);
        RengaHall longest = Halls.ofSixes(36, 36);
        Halls.addWords(longest, 1);
        t.is("finished with 36", longest.chances(0), 0);
    }

    private static void withoutWords() {
        RengaHall hall = Halls.withPoets(1);
        hall.begin(2, 0, 5, 5);
        t.is("no words", hall.chances(0), 0);
    }

    private static void oneWord() {
        RengaHall hall = Halls.withPoets(1);
        hall.word(5, NONE, 0);
        hall.begin(2, 0, 5, 5);
        t.is("a row of it", hall.chances(0), 1);
        hall.begin(2, 0, 10, 5);
        t.is("it can't be in a row twice", hall.chances(0), 0);
        hall.begin(2, 0, 4, 5);
        t.is("too many sounds", hall.chances(0), 0);
    }

    private static void twoWordsInBothOrders() {
        RengaHall hall = Halls.withPoets(1);
        hall.word(2, NONE, 0);
        hall.word(3, NONE, 0);
        hall.begin(2, 0, 5, 5);
        t.is("both orders", hall.chances(0), 2);
        hall.word(5, NONE, 0);
        t.is("and one word alone", hall.chances(0), 3);
        hall.word(3, NONE, 0);
        t.is("and both orders with the other 3", hall.chances(0), 5);
    }

    private static void rowsOfTwoWordsAtMost() {
        RengaHall hall = Halls.withPoets(1);
        for (int word = 0; word < 6; word++) {
            hall.word(1, NONE, 0);
        }
        hall.begin(2, 0, 3, 6);
        t.is("three words are not counted", hall.chances(0), 0);
        hall.begin(2, 0, 2, 6);
        t.is("two are", hall.chances(0), 30);
    }

    private static void of40Words() {
        RengaHall hall = Halls.withPoets(1);
        for (int word = 0; word < 40; word++) {
            hall.word(12, NONE, 0);
        }
        hall.begin(2, 10, 24, 24);
        t.is("40 times 39", hall.chances(0), 1560);
        hall.begin(2, 10, 12, 24);
        t.is("40", hall.chances(0), 40);
        hall.begin(2, 10, 36, 24);
        t.is("none", hall.chances(0), 0);
    }

    private static void offersAreNotCounted() {
        RengaHall hall = Halls.plain(3, 2);
        for (int offer = 0; offer < 4; offer++) {
            Halls.offer(hall, 0, 0);
            t.is("as if none were kept", hall.chances(0), 3);
            t.is("for the other one, too", hall.chances(1), 3);
        }
        hall.choose(0);
        t.is("each of the others joins it", hall.chances(1), 2);
    }

    private static void rowsWithFaultsAreNotCounted() {
        RengaHall hall = Halls.withPoets(2);
        hall.word(2, NONE, 1);
        hall.word(3, RengaHall.SUMMER, 1);
        hall.word(3, RengaHall.WINTER, 2);
        hall.word(2, RengaHall.WINTER, 256);
        hall.word(5, NONE, 1);
        hall.begin(3, 1, 5, 5);
        t.is("4, 0 and 1, 0 and 2", hall.chances(0), 5);
        hall.seat(0, 1);
        t.is("SEAT: 3 and 2", hall.chances(0), 2);
        hall.seat(0, 0);
        Halls.link(hall, 0, 4);
        t.is("AGAIN: 0 and 1, 0 and 2", hall.chances(1), 4);
        Halls.link(hall, 1, 0, 1);
        t.is("LEAVE, JOIN", hall.chances(0), 0);
        hall.word(5, NONE, 2);
        t.is("no JOIN", hall.chances(0), 0);
        hall.call(5, 1);
        t.is("called to mind", hall.chances(0), 1);
        hall.word(2, NONE, 2);
        t.is("6 and 2 without a JOIN", hall.chances(0), 1);
        hall.call(6, 1);
        t.is("WINTER behind SUMMER: 6 and 2", hall.chances(0), 3);
    }

    private static void turnAndSpan() {
        RengaHall hall = Halls.plain(4, 5);
        hall.poet();
        hall.begin(5, 2, 5, 5);
        t.is("all", hall.chances(0), 4);
        Halls.link(hall, 0, 0);
        t.is("TURN", hall.chances(0), 0);
        t.is("all but the one ahead", hall.chances(1), 3);
        Halls.link(hall, 1, 1);
        t.is("TURN", hall.chances(1), 0);
        t.is("all but the two ahead", hall.chances(0), 2);
        Halls.link(hall, 0, 2);
        t.is("TURN", hall.chances(0), 0);
        t.is("all but two of the three ahead", hall.chances(2), 2);
    }

    private static void seasonsAndSeats() {
        RengaHall hall = Halls.withPoets(2);
        for (int season = NONE; season <= RengaHall.WINTER; season++) {
            hall.word(5, season, 0);
            hall.word(5, season, 256);
        }
        Halls.callAll(hall, 10);
        hall.begin(36, 0, 5, 5);
        t.is("one of each season and none", hall.chances(0), 5);
        hall.seat(1, 1);
        hall.seat(2, 2);
        Halls.link(hall, 0, 2);
        t.is("SPRING must go on, with the MOON", hall.chances(1), 1);
        Halls.link(hall, 1, 3);
        t.is("no BLOSSOM", hall.chances(0), 0);
        hall.seat(2, 0);
        t.is("SPRING must go on", hall.chances(0), 1);
        Halls.link(hall, 0, 2);
        t.is("all but the word ahead", hall.chances(1), 4);
    }

    /** Counts by offering all rows, each in a hall of its own. */
    private static void asManyAsCanBeOffered() {
        int kept = 0;
        for (int first = 0; first < 8; first++) {
            kept += midway(first, NONE) ? 1 : 0;
            for (int second = 0; second < 8; second++) {
                kept += midway(first, second) ? 1 : 0;
            }
        }
        t.is("chances", midway().chances(0), kept);
        t.is("2 and 3 alone, 4 and 5 in both orders", kept, 4);
    }

    private static boolean midway(int first, int second) {
        RengaHall hall = midway();
        return (second == NONE ? Halls.offer(hall, 0, first) : Halls.offer(hall, 0, first, second)) >= 0;
    }

    private static RengaHall midway() {
        RengaHall hall = Halls.withPoets(2);
        hall.word(5, RengaHall.SUMMER, 1);
        hall.word(5, NONE, 1 | 2);
        hall.word(5, NONE, 2);
        hall.word(5, RengaHall.WINTER, 2 | 4);
        hall.word(2, NONE, 2);
        hall.word(3, NONE, 8);
        hall.word(2, RengaHall.SUMMER, 2);
        hall.word(3, NONE, 1);
        hall.begin(4, 1, 5, 5);
        Halls.link(hall, 0, 0);
        Halls.link(hall, 1, 1);
        return hall;
    }

    private static void nothingIsChanged() {
        RengaHall hall = Halls.plain(3, 3);
        Halls.offer(hall, 0, 0);
        hall.add(1);
        hall.add(2);
        hall.chances(0);
        t.is("no refusal", hall.why(), NONE);
        t.is("the draft stays", hall.clear(), 2);
        t.is("the offer stays", hall.choose(0), 0);
        t.is("as it was", hall.wordAt(0, 0), 0);
        t.is("as it was", hall.ofLink(0, 3), 1);
    }
}

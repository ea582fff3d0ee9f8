/** Promises 13 to 16 and 23 to 26: give, copy, write, hide; prize, far, source, hand. */
public final class JudgeCopyHandTest {
    private static final int NONE = RengaHall.NONE;
    private static final Expect t = new Expect("JudgeCopyHandTest");

    public static void main(String[] args) {
        giving();
        prizes();
        prizeOfExactMeans();
        prizeOfHiddenAndMended();
        copies();
        copyState();
        writing();
        hiding();
        distances();
        sources();
        hands();
        handOfExactMeans();
        handCountsAllSigns();
        t.end();
    }

    /** A plain hall of which the first links are made: link i of poet i % 2 has word i. */
    private static RengaHall made(int words, int links, int made) {
        RengaHall hall = Halls.plain(words, links);
        for (int link = 0; link < made; link++) {
            Halls.link(hall, link % 2, link);
        }
        return hall;
    }

    private static void giving() {
        RengaHall hall = made(3, 3, 2);
        t.is("none before", hall.give(0, 1, 10), NONE);
        t.is("10 before", hall.give(0, 1, 0), 10);
        t.is("0 before", hall.give(0, 1, 3), 0);
        t.is("another judge", hall.give(3, 1, 4), NONE);
        t.is("another link", hall.give(0, 0, 4), NONE);
        t.noSuch("judge 4", () -> hall.give(4, 0, 0));
        t.noSuch("judge -1", () -> hall.give(-1, 0, 0));
        t.noSuch("link 2", () -> hall.give(0, 2, 0));
        t.noSuch("link -1", () -> hall.give(0, -1, 0));
        t.outOfRange("points 11", () -> hall.give(0, 0, 11));
        t.outOfRange("points -1", () -> hall.give(0, 0, -1));
        t.noSuch("judge ahead of points", () -> hall.give(4, 0, 11));
        t.noSuch("link ahead of points", () -> hall.give(0, 2, 11));
        t.is("unchanged", hall.give(0, 0, 5), 4);
        RengaHall fresh = new RengaHall();
        t.noSuch("no poem", () -> fresh.give(0, 0, 0));
    }

    private static void prizes() {
        RengaHall hall = made(4, 4, 3);
        t.is("no points", hall.prize(), NONE);
        hall.give(0, 1, 0);
        t.is("0 points are points", hall.prize(), 1);
        hall.give(0, 0, 0);
        t.is("of several the lowest", hall.prize(), 0);
        hall.give(1, 1, 1);
        t.is("greater mean", hall.prize(), 1);
        hall.give(0, 2, 2);
        t.is("over all links of theirs", hall.prize(), 0);
        hall.give(0, 2, 1);
        t.is("the same means", hall.prize(), 0);
        hall.give(0, 2, 0);
        t.is("anew in place of those before", hall.prize(), 1);
    }

    private static void prizeOfExactMeans() {
        RengaHall hall = made(4, 4, 4);
        hall.give(0, 0, 3);
        hall.give(1, 0, 3);
        hall.give(2, 0, 4);
        hall.give(0, 1, 3);
        hall.give(1, 1, 4);
        t.is("10/3 is less than 7/2", hall.prize(), 1);
        hall.give(3, 0, 4);
        t.is("14/4 is 7/2", hall.prize(), 0);
        hall.give(0, 3, 4);
        t.is("14/4 is less than 11/3", hall.prize(), 1);
    }

    private static void prizeOfHiddenAndMended() {
        RengaHall hall = made(4, 4, 2);
        hall.give(0, 0, 3);
        hall.give(0, 1, 4);
        hall.hide(1, true);
        t.is("a hidden link is still theirs", hall.prize(), 1);
        hall.mend(0, 2);
        t.is("points stay with a mended link", hall.give(0, 1, 2), 4);
        t.is("the other one", hall.prize(), 0);
    }

    private static void copies() {
        RengaHall hall = made(4, 4, 2);
        t.is("of the poem", hall.copy(NONE), 0);
        t.is("of a copy", hall.copy(0), 1);
        hall.write(1, 0, 0, 3);
        t.is("of a wrong copy", hall.copy(1), 2);
        t.is("as wrong as that", hall.far(1, 2), 0);
        t.is("far from the first", hall.far(0, 2), 1);
        hall.mend(0, 2);
        t.is("the poem was mended since", hall.far(NONE, 0), 1);
        Halls.link(hall, 0, 3);
        t.is("and goes on", hall.far(NONE, 0), 2);
        t.is("a copy of the poem as it is", hall.far(NONE, hall.copy(NONE)), 0);
        t.is("a copy of a copy has no new link", hall.far(0, hall.copy(0)), 0);
        t.noSuch("no copy 5", () -> hall.copy(5));
        t.noSuch("no copy -2", () -> hall.copy(-2));
        for (int copy = 5; copy < 8; copy++) {
            t.is("copy", hall.copy(NONE), copy);
        }
        t.notNow("9th", () -> hall.copy(NONE));
        t.notNow("9th", () -> hall.copy(7));
        t.noSuch("copy ahead of the limit", () -> hall.copy(8));
        t.is("8 are there", hall.source(7), NONE);
    }

    private static void copyState() {
        RengaHall hall = new RengaHall();
        t.notNow("no poem", () -> hall.copy(NONE));
        t.noSuch("no copy ahead of no poem", () -> hall.copy(0));
        hall.begin(2, 0, 5, 5);
        t.is("of a poem without links", hall.copy(NONE), 0);
        t.noSuch("it has no link", () -> hall.write(0, 0, 0, 0));
        t.is("not far", hall.far(0, NONE), 0);
        hall.begin(2, 0, 5, 5);
        t.noSuch("gone with a new poem", () -> hall.copy(0));
    }

    private static void writing() {
        RengaHall hall = Halls.withPoets(2);
        hall.word(2, NONE, 1);
        hall.word(3, NONE, 1);
        hall.word(5, NONE, 1);
        hall.begin(3, 0, 5, 5);
        Halls.link(hall, 0, 0, 1);
        hall.copy(NONE);
        Halls.link(hall, 1, 2);
        t.is("the word before", hall.write(0, 0, 1, 2), 1);
        t.is("the wrong one", hall.write(0, 0, 1, 0), 2);
        t.is("by the same", hall.write(0, 0, 1, 0), 0);
        t.is("the other place", hall.write(0, 0, 0, 0), 0);
        t.is("the poem stays", hall.wordAt(0, 1), 1);
        t.noSuch("copy 1", () -> hall.write(1, 0, 0, 0));
        t.noSuch("copy NONE", () -> hall.write(NONE, 0, 0, 0));
        t.noSuch("link 1 of the poem alone", () -> hall.write(0, 1, 0, 0));
        t.noSuch("link -1", () -> hall.write(0, -1, 0, 0));
        t.noSuch("link 36", () -> hall.write(0, 36, 0, 0));
        t.noSuch("place 2", () -> hall.write(0, 0, 2, 0));
        t.noSuch("place 6", () -> hall.write(0, 0, 6, 0));
        t.noSuch("place -1", () -> hall.write(0, 0, -1, 0));
        t.noSuch("word 3", () -> hall.write(0, 0, 0, 3));
        t.noSuch("word -1", () -> hall.write(0, 0, 0, -1));
        t.is("unchanged", hall.write(0, 0, 0, 2), 0);
    }

    private static void hiding() {
        RengaHall hall = made(3, 3, 2);
        t.is("was not", hall.hide(1, true), false);
        t.is("was", hall.hide(1, true), true);
        t.is("nobody admits it", hall.ofLink(1, 0), NONE);
        t.is("the other one", hall.ofLink(0, 0), 0);
        t.is("was", hall.hide(1, false), true);
        t.is("was not", hall.hide(1, false), false);
        t.is("admitted", hall.ofLink(1, 0), 1);
        t.noSuch("link 2", () -> hall.hide(2, true));
        t.noSuch("link -1", () -> hall.hide(-1, true));
        Halls.link(hall, 0, 2);
        t.is("a new link is not hidden", hall.hide(2, true), false);
    }

    private static void distances() {
        RengaHall hall = Halls.withPoets(2);
        hall.word(2, NONE, 1);
        hall.word(3, NONE, 1);
        hall.word(5, NONE, 2);
        hall.call(0, 2);
        t.notNow("no poem", () -> hall.far(NONE, NONE));
        t.noSuch("copy ahead of no poem", () -> hall.far(0, NONE));
        t.noSuch("other ahead of no poem", () -> hall.far(NONE, 0));
        hall.begin(3, 0, 5, 5);
        hall.copy(NONE);
        Halls.link(hall, 0, 0, 1);
        hall.copy(NONE);
        Halls.link(hall, 1, 2);
        hall.copy(NONE);
        t.is("places that one alone has", hall.far(0, 2), 3);
        t.is("the other way", hall.far(2, 0), 3);
        t.is("a link more", hall.far(1, NONE), 1);
        t.is("none", hall.far(2, NONE), 0);
        t.is("itself", hall.far(1, 1), 0);
        t.is("the poem itself", hall.far(NONE, NONE), 0);
        hall.write(1, 0, 0, 1);
        t.is("unlike words too", hall.far(1, 2), 2);
        hall.write(2, 0, 0, 1);
        t.is("both wrong alike", hall.far(1, 2), 1);
        t.noSuch("copy 3", () -> hall.far(3, 0));
        t.noSuch("other 3", () -> hall.far(0, 3));
        t.noSuch("copy -2", () -> hall.far(-2, 0));
        t.noSuch("other -2", () -> hall.far(0, -2));
        hall.word(5, NONE, 4);
        hall.call(3, 2);
        Halls.link(hall, 0, 3);
        t.is("places of all links", hall.far(NONE, 0), 4);
        t.is("a link more, and a word wrong", hall.far(NONE, 2), 2);
    }

    private static void sources() {
        RengaHall hall = made(4, 4, 3);
        hall.copy(NONE);
        t.is("the poem, for there is no other", hall.source(0), NONE);
        hall.copy(NONE);
        t.is("of several the poem", hall.source(1), NONE);
        hall.write(1, 0, 0, 3);
        hall.copy(1);
        hall.copy(1);
        t.is("of several copies the lowest", hall.source(3), 1);
        t.is("not itself", hall.source(1), 2);
        hall.write(3, 1, 0, 3);
        t.is("1 far from 1 and 2, 2 from the poem", hall.source(3), 1);
        t.is("just as the poem is", hall.source(0), NONE);
        hall.mend(0, 3);
        t.is("the poem is 1 far, copy 1 too", hall.source(0), NONE);
        hall.write(0, 0, 0, 3);
        t.is("copy 1 is written wrong alike", hall.source(0), 1);
        t.is("copy 0 and the copies that are as wrong", hall.far(0, 2), 0);
        t.is("copy 0 is the lowest of them", hall.source(2), 0);
        t.noSuch("copy 4", () -> hall.source(4));
        t.noSuch("copy -1", () -> hall.source(NONE));
        RengaHall fresh = new RengaHall();
        t.noSuch("no copy", () -> fresh.source(0));
    }

    private static void hands() {
        RengaHall hall = Halls.withPoets(3);
        hall.word(2, NONE, 1);
        hall.word(3, NONE, 0);
        hall.word(3, NONE, 0);
        hall.word(2, NONE, 2);
        hall.word(5, NONE, 3);
        hall.word(5, NONE, 12);
        hall.call(0, 3);
        hall.call(5, 4);
        hall.call(5, 0);
        hall.call(5, 3);
        hall.begin(6, 0, 5, 5);
        t.is("link 0", Halls.link(hall, 2, 0, 1), 0);
        t.is("nobody has another one", hall.hand(0), NONE);
        t.is("link 1", Halls.link(hall, 1, 3, 1), 1);
        t.is("the only other one", hall.hand(0), 1);
        t.is("the only other one", hall.hand(1), 2);
        t.is("link 2", Halls.link(hall, 0, 5), 2);
        t.is("a word in common with it", hall.hand(0), 1);
        t.is("a word in common with it", hall.hand(1), 2);
        t.is("nothing in common with either, the lowest", hall.hand(2), 1);
        hall.hide(1, true);
        t.is("those not hidden", hall.hand(0), 0);
        t.is("whether it is hidden or not", hall.hand(1), 2);
        hall.hide(0, true);
        hall.hide(2, true);
        t.is("all others are hidden", hall.hand(1), NONE);
        t.noSuch("link 3", () -> hall.hand(3));
        t.noSuch("link -1", () -> hall.hand(-1));
    }

    private static void handOfExactMeans() {
        RengaHall hall = Halls.withPoets(2);
        hall.word(5, NONE, 256);
        hall.word(2, NONE, 256);
        hall.word(3, NONE, 256);
        hall.word(5, NONE, 256);
        hall.word(3, NONE, 256);
        for (int word = 0; word < 5; word++) {
            for (int other = 0; other < word; other++) {
                hall.call(word, other);
            }
        }
        hall.begin(7, 0, 5, 5);
        for (int link = 0; link < 7; link++) {
            hall.seat(link, 1);
        }
        Halls.link(hall, 0, 1, 2);
        Halls.link(hall, 1, 1, 4);
        Halls.link(hall, 0, 0);
        t.is("0 has 1, 1 has 4", hall.hand(0), 1);
        Halls.link(hall, 1, 3);
        Halls.link(hall, 0, 1, 4);
        t.is("0 has 1 and 4, 1 has 4 and 1: the same", hall.hand(0), 0);
        Halls.link(hall, 1, 3);
        t.is("0 has 5/2, 1 has 6/3", hall.hand(0), 0);
        t.is("link 4: 0 has 4 and 1, 1 has 7, 1 and 1: 9/3", hall.hand(4), 1);
        Halls.link(hall, 0, 0);
        t.is("link 0: 0 has 6/3, 1 has 6/3", hall.hand(0), 0);
    }

    private static void handCountsAllSigns() {
        RengaHall hall = Halls.withPoets(2);
        hall.word(5, NONE, 1 | 256);
        hall.word(5, NONE, 1);
        hall.word(5, NONE, 2 | 256);
        hall.word(5, NONE, 4);
        hall.call(1, 2);
        hall.call(2, 3);
        hall.begin(4, 0, 5, 5);
        hall.seat(0, 1);
        hall.seat(2, 1);
        t.is("link 0", Halls.link(hall, 0, 0), 0);
        t.is("link 1", Halls.link(hall, 1, 1), 1);
        t.is("link 2", Halls.link(hall, 0, 2), 2);
        t.is("link 3", Halls.link(hall, 1, 3), 3);
        t.is("the MOON is a sign that both have", hall.hand(2), 0);
        hall.hide(1, true);
        t.is("as the poet who admits nothing alike", hall.hand(0), 0);
    }
}

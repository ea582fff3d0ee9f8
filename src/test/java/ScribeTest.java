/** The eight faults, which of several is told, and their causes (promises 9, 10 and 12). */
public final class ScribeTest {
    private static final int NONE = RengaHall.NONE;
    private static final int SPRING = RengaHall.SPRING;
    private static final int SUMMER = RengaHall.SUMMER;
    private static final int AUTUMN = RengaHall.AUTUMN;
    private static final int WINTER = RengaHall.WINTER;
    private static final Expect t = new Expect("ScribeTest");

    public static void main(String[] args) {
        sounds();
        mixed();
        again();
        againSpan();
        turn();
        join();
        leave();
        leavesSeasonEarly();
        staysInSeasonLong();
        comesBackSoon();
        lengthWithoutSeason();
        seat();
        firstOfSeveral();
        t.end();
    }

    private static void refused(String what, int got, int fault, RengaHall hall, int cause) {
        t.is(what, got, -fault);
        t.is(what + ", its cause", hall.why(), cause);
    }

    private static void sounds() {
        RengaHall hall = Halls.withPoets(2);
        hall.word(5, NONE, 1);
        hall.word(7, NONE, 1);
        hall.word(12, NONE, 1);
        hall.begin(3, 0, 12, 7);
        refused("too few", Halls.link(hall, 0, 0), 1, hall, 5);
        refused("too many", Halls.link(hall, 0, 0, 1, 1), 1, hall, 19);
        refused("6 words of 12", Halls.link(hall, 0, 2, 2, 2, 2, 2, 2), 1, hall, 72);
        refused("as many as odd links", Halls.link(hall, 0, 1), 1, hall, 7);
        t.is("link 0", Halls.link(hall, 0, 0, 1), 0);
        refused("as many as even links", Halls.link(hall, 1, 2), 1, hall, 12);
        t.is("link 1", Halls.link(hall, 1, 1), 1);
        refused("as many as odd links", Halls.link(hall, 0, 1), 1, hall, 7);
    }

    private static void mixed() {
        RengaHall hall = Halls.withPoets(1);
        hall.word(2, NONE, 0);
        hall.word(2, SUMMER, 0);
        hall.word(2, SUMMER, 0);
        hall.word(2, WINTER, 0);
        hall.word(2, SPRING, 0);
        hall.begin(2, 0, 10, 10);
        refused("first unlike", Halls.link(hall, 0, 0, 1, 2, 3, 4), 2, hall, 3);
        refused("unlike the first", Halls.link(hall, 0, 4, 0, 1, 2, 3), 2, hall, 2);
        refused("two, then one as the first", Halls.link(hall, 0, 1, 3, 2, 0, 4), 2, hall, 1);
        hall.word(4, NONE, 0);
        t.is("with words that have none", Halls.link(hall, 0, 0, 1, 2, 5), 0);
        t.is("the season", hall.ofLink(0, 1), SUMMER);
    }

    private static void again() {
        RengaHall hall = Halls.plain(2, 4);
        hall.word(1, NONE, 0);
        hall.word(2, NONE, 0);
        hall.word(1, NONE, 0);
        hall.begin(4, 10, 5, 5);
        refused("twice", Halls.link(hall, 0, 2, 3, 4, 2), 3, hall, 3);
        refused("two twice", Halls.link(hall, 0, 2, 4, 4, 2, 2), 3, hall, 2);
        t.is("link 0", Halls.link(hall, 0, 0), 0);
        refused("ahead", Halls.link(hall, 1, 0), 3, hall, 0);
        t.is("link 1", Halls.link(hall, 1, 1), 1);
        refused("two ahead", Halls.link(hall, 0, 0), 3, hall, 0);
        refused("one ahead", Halls.link(hall, 0, 1), 3, hall, 0);
    }

    private static void againSpan() {
        for (int span = 0; span <= 10; span++) {
            RengaHall hall = Halls.withPoets(2);
            for (int word = 0; word < 14; word++) {
                hall.word(5, NONE, 0);
            }
            for (int word = 0; word < 13; word++) {
                hall.call(word, word + 1);
            }
            hall.begin(36, span, 5, 5);
            for (int link = 0; link < 12; link++) {
                t.is("link", Halls.link(hall, link % 2, link), link);
            }
            for (int word = 0; word < 12; word++) {
                hall.clear();
                int ahead = 12 - word;
                int due = ahead <= span ? -3 : word == 10 ? 0 : -5;
                t.is("span " + span + " word " + word, Halls.offer(hall, 0, word), due);
            }
        }
    }

    private static void turn() {
        RengaHall hall = Halls.plain(3, 3);
        hall.poet();
        t.is("link 0", Halls.link(hall, 2, 0), 0);
        refused("poet 2", Halls.link(hall, 2, 1), 4, hall, 2);
        t.is("link 1", Halls.link(hall, 0, 1), 1);
        refused("poet 0", Halls.link(hall, 0, 2), 4, hall, 0);
        hall.hide(1, true);
        refused("poet 0, though it is hidden", Halls.link(hall, 0, 2), 4, hall, 0);
        t.is("link 2", Halls.link(hall, 2, 2), 2);
        t.is("mending looks at no turn", hall.mend(0, 2), 0);
        RengaHall alone = Halls.plain(2, 2);
        Halls.offer(alone, 0, 0);
        t.is("offers are no links", Halls.offer(alone, 0, 1), 1);
    }

    private static void join() {
        RengaHall hall = Halls.withPoets(2);
        hall.word(5, NONE, 256 | 1);
        hall.word(5, NONE, 256 | 2);
        hall.word(5, NONE, 256 | 128);
        hall.word(5, NONE, 256 | 128);
        hall.word(5, NONE, 256 | 64 | 2);
        hall.begin(5, 0, 5, 5);
        for (int link = 0; link < 5; link++) {
            hall.seat(link, 1);
        }
        t.is("the first needs none", Halls.link(hall, 0, 0), 0);
        refused("the MOON is no subject", Halls.link(hall, 1, 1), 5, hall, 0);
        hall.call(1, 0);
        t.is("called to mind", Halls.link(hall, 1, 1), 1);
        refused("not by others", Halls.link(hall, 0, 2), 5, hall, 1);
        hall.call(2, 1);
        t.is("called to mind", Halls.link(hall, 0, 2), 2);
        t.is("a subject in common", Halls.link(hall, 1, 3), 3);
        refused("the link ahead alone", Halls.link(hall, 0, 4), 5, hall, 3);
    }

    private static void leave() {
        RengaHall hall = Halls.withPoets(2);
        hall.word(5, NONE, 8 | 32 | 128 | 256);
        hall.word(5, NONE, 128 | 256);
        hall.word(5, NONE, 32 | 128 | 256);
        hall.word(5, NONE, 256 | 64);
        hall.call(1, 3);
        hall.begin(4, 0, 5, 5);
        for (int link = 0; link < 4; link++) {
            hall.seat(link, 1);
        }
        t.is("link 0", Halls.link(hall, 0, 0), 0);
        t.is("link 1", Halls.link(hall, 1, 1), 1);
        refused("the lowest", Halls.link(hall, 0, 2), 6, hall, 5);
        refused("the highest", Halls.link(hall, 0, 1), 6, hall, 7);
        t.is("the MOON is no subject", Halls.link(hall, 0, 3), 2);
        refused("two ahead", Halls.link(hall, 1, 1), 6, hall, 7);
    }

    /** A hall in which word i has the season told for it, and each calls each other to mind. */
    private static RengaHall seasons(int... seasons) {
        RengaHall hall = Halls.withPoets(2);
        for (int word = 0; word < seasons.length; word++) {
            hall.word(5, seasons[word], 0);
            for (int other = 0; other < word; other++) {
                hall.call(word, other);
            }
        }
        hall.begin(36, 0, 5, 5);
        return hall;
    }

    private static int next(RengaHall hall, int word) {
        return Halls.link(hall, hall.links() % 2, word);
    }

    private static void leavesSeasonEarly() {
        for (int season = SPRING; season <= WINTER; season++) {
            int other = (season + 1) % 4;
            boolean isLong = season == SPRING || season == AUTUMN;
            RengaHall hall = seasons(season, season, other, NONE);
            t.is("run 1", next(hall, 0), 0);
            if (!isLong) {
                t.is("left at once", next(hall, 2), 1);
                continue;
            }
            refused("run 1, another", next(hall, 2), 7, hall, season);
            refused("run 1, none", next(hall, 3), 7, hall, season);
            t.is("run 2", next(hall, 1), 1);
            refused("run 2, another", next(hall, 2), 7, hall, season);
            refused("run 2, none", next(hall, 3), 7, hall, season);
            t.is("run 3", next(hall, 0), 2);
            t.is("left", next(hall, season == SPRING ? 2 : 3), 3);
        }
    }

    private static void staysInSeasonLong() {
        for (int season = SPRING; season <= WINTER; season++) {
            int most = season == SPRING || season == AUTUMN ? 5 : 3;
            RengaHall hall = seasons(season, season, NONE);
            for (int run = 1; run <= most; run++) {
                t.is("stays", next(hall, run % 2), run - 1);
                t.is("run", hall.ofLink(run - 1, 4), run);
            }
            refused("too long", next(hall, 1 - most % 2), 7, hall, season);
            t.is("none", next(hall, 2), most);
        }
    }

    private static void comesBackSoon() {
        RengaHall hall = seasons(SUMMER, WINTER, NONE, NONE, SUMMER);
        t.is("SUMMER", next(hall, 0), 0);
        t.is("WINTER", next(hall, 1), 1);
        refused("1 between", next(hall, 4), 7, hall, SUMMER);
        t.is("none", next(hall, 2), 2);
        refused("2 between", next(hall, 0), 7, hall, SUMMER);
        refused("1 between", next(hall, 1), 7, hall, WINTER);
        t.is("none", next(hall, 3), 3);
        refused("3 between", next(hall, 0), 7, hall, SUMMER);
        t.is("none", next(hall, 2), 4);
        t.is("4 between", next(hall, 0), 5);
        t.is("4 between, ahead of it SUMMER", next(hall, 1), 6);
        refused("SUMMER again", next(hall, 0), 7, hall, SUMMER);
        t.is("none comes back as soon as wanted", next(hall, 2), 7);
        RengaHall spring = seasons(SPRING, SPRING, SPRING, SUMMER, NONE, SPRING);
        for (int link = 0; link < 4; link++) {
            t.is("three of SPRING, and SUMMER", next(spring, link), link);
        }
        refused("SPRING again", next(spring, 5), 7, spring, SPRING);
        t.is("none", next(spring, 4), 4);
        refused("SPRING again behind none", next(spring, 5), 7, spring, SPRING);
    }

    private static void lengthWithoutSeason() {
        RengaHall hall = seasons(NONE, NONE, SPRING);
        for (int link = 0; link < 8; link++) {
            t.is("none as long as wanted", next(hall, link % 2), link);
            t.is("no run", hall.ofLink(link, 4), 0);
        }
        t.is("SPRING behind none", next(hall, 2), 8);
    }

    private static void seat() {
        RengaHall hall = Halls.withPoets(2);
        hall.word(5, NONE, 0);
        hall.word(5, NONE, 256);
        hall.word(5, NONE, 512);
        hall.word(5, NONE, 768);
        int[][] due = {{0, 1, 2, 1}, {1, 0, 1, 2}, {2, 1, 0, 1}};
        hall.begin(2, 0, 5, 5);
        for (int seat = 0; seat <= 2; seat++) {
            for (int word = 0; word < 4; word++) {
                hall.begin(2, 0, 5, 5);
                hall.seat(0, seat);
                int cause = due[seat][word];
                int got = Halls.offer(hall, 0, word);
                t.is("seat " + seat + " word " + word, got, cause == 0 ? 0 : -8);
                if (cause != 0) {
                    t.is("seat " + seat + " word " + word + " cause", hall.why(), cause);
                }
            }
        }
    }

    /** Rows with more faults each: the first of them is told. */
    private static void firstOfSeveral() {
        RengaHall hall = Halls.withPoets(2);
        hall.word(5, SPRING, 1);
        hall.word(5, SPRING, 2);
        hall.call(0, 1);
        hall.word(2, SUMMER, 1 | 256);
        hall.word(3, SPRING, 0);
        hall.word(3, SUMMER, 0);
        hall.word(5, SUMMER, 1 | 256);
        hall.word(5, NONE, 1 | 256);
        hall.word(5, NONE, 2 | 256);
        hall.word(5, NONE, 2 | 1 | 256);
        hall.word(5, SUMMER, 256);
        hall.word(5, SPRING, 256);
        hall.begin(4, 2, 5, 5);
        Halls.link(hall, 0, 0);
        Halls.link(hall, 1, 1);
        refused("SOUNDS", Halls.link(hall, 1, 2, 3, 2), 1, hall, 7);
        refused("MIXED", Halls.link(hall, 1, 2, 3), 2, hall, 1);
        hall.word(1, NONE, 0);
        hall.word(1, SPRING, 0);
        hall.word(1, SUMMER, 0);
        refused("MIXED ahead of AGAIN", Halls.link(hall, 1, 11, 11, 11, 12, 13), 2, hall, 4);
        refused("AGAIN", Halls.link(hall, 1, 1), 3, hall, 0);
        refused("TURN", Halls.link(hall, 1, 5), 4, hall, 1);
        refused("JOIN", Halls.link(hall, 0, 5), 5, hall, 1);
        hall.call(5, 1);
        hall.call(9, 1);
        hall.call(10, 1);
        refused("LEAVE", Halls.link(hall, 0, 5), 6, hall, 0);
        refused("LEAVE", Halls.link(hall, 0, 8), 6, hall, 0);
        refused("LENGTH", Halls.link(hall, 0, 9), 7, hall, SPRING);
        refused("LENGTH", Halls.link(hall, 0, 7), 7, hall, SPRING);
        refused("SEAT", Halls.link(hall, 0, 10), 8, hall, 1);
    }
}

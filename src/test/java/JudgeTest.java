/** Promises 13 and 23: give, prize. */
public final class JudgeTest {
    private static final int NONE = RengaHall.NONE;
    private static final int LEAST = Integer.MIN_VALUE, MOST = Integer.MAX_VALUE;
    private static final Expect t = new Expect("JudgeTest");

    public static void main(String[] args) {
        judgesFrom0To3();
        linksFrom0ToTheLatest();
        pointsFrom0To10();
        pointsBefore();
        eachJudgeAndLinkForItself();
        linkOrJudgeAheadOfPoints();
        noPoints();
        noughtIsPoints();
        ofSeveralTheLowest();
        ofLeastAndGreatestPoet();
        exactFractions();
        closeFractions();
        overAllLinksAndJudges();
        anewInPlaceOfThoseBefore();
        hiddenAndMendedLinks();
        poetsWithoutPoints();
        t.end();
    }

    private static void judgesFrom0To3() {
        RengaHall hall = Halls.made(1, 2, 1);
        for (int judge = 0; judge < 4; judge++) {
            t.is("judge " + judge, hall.give(judge, 0, judge), NONE);
        }
        for (int judge = 0; judge < 4; judge++) {
            t.is("judge " + judge + " once more", hall.give(judge, 0, 9), judge);
        }
        t.noSuch("judge -1", () -> hall.give(-1, 0, 0));
        t.noSuch("judge 4", () -> hall.give(4, 0, 0));
        t.noSuch("judge least", () -> hall.give(LEAST, 0, 0));
        t.noSuch("judge most", () -> hall.give(MOST, 0, 0));
        t.is("unchanged", hall.give(0, 0, 0), 9);
        t.is("unchanged", hall.give(3, 0, 0), 9);
    }

    private static void linksFrom0ToTheLatest() {
        RengaHall hall = Halls.plain(3, 3);
        t.noSuch("no link", () -> hall.give(0, 0, 0));
        Halls.link(hall, 0, 0);
        t.is("link 0", hall.give(0, 0, 1), NONE);
        t.noSuch("link 1", () -> hall.give(0, 1, 0));
        Halls.link(hall, 1, 1);
        t.is("link 1", hall.give(0, 1, 2), NONE);
        t.noSuch("link 2", () -> hall.give(0, 2, 0));
        t.noSuch("link -1", () -> hall.give(0, -1, 0));
        t.noSuch("link least", () -> hall.give(0, LEAST, 0));
        t.noSuch("link most", () -> hall.give(0, MOST, 0));
        Halls.link(hall, 0, 2);
        t.is("a link of a finished poem", hall.give(0, 2, 3), NONE);
        t.is("unchanged", hall.give(0, 0, 0), 1);
        t.noSuch("no poem", () -> new RengaHall().give(0, 0, 0));
        RengaHall longest = Halls.ofSixes(36, 36);
        t.is("link 35", longest.give(3, 35, 10), NONE);
        t.noSuch("link 36", () -> longest.give(3, 36, 10));
        t.is("the prize by link 35", longest.prize(), 1);
    }

    private static void pointsFrom0To10() {
        RengaHall hall = Halls.made(1, 2, 1);
        int before = NONE;
        for (int points = 0; points <= 10; points++) {
            t.is("points " + points, hall.give(1, 0, points), before);
            before = points;
        }
        t.outOfRange("points -1", () -> hall.give(1, 0, -1));
        t.outOfRange("points 11", () -> hall.give(1, 0, 11));
        t.outOfRange("points least", () -> hall.give(1, 0, LEAST));
        t.outOfRange("points most", () -> hall.give(1, 0, MOST));
        t.is("unchanged", hall.give(1, 0, 0), 10);
    }

    private static void pointsBefore() {
        RengaHall hall = Halls.made(1, 2, 1);
        t.is("none", hall.give(0, 0, 0), NONE);
        t.is("0", hall.give(0, 0, 0), 0);
        t.is("0", hall.give(0, 0, 10), 0);
        t.is("10", hall.give(0, 0, 10), 10);
    }

    private static void eachJudgeAndLinkForItself() {
        RengaHall hall = Halls.made(3, 3, 3);
        for (int judge = 0; judge < 4; judge++) {
            for (int link = 0; link < 3; link++) {
                t.is("none", hall.give(judge, link, judge * 3 + link - judge), NONE);
            }
        }
        for (int judge = 0; judge < 4; judge++) {
            for (int link = 0; link < 3; link++) {
                t.is("its own", hall.give(judge, link, 0), judge * 3 + link - judge);
            }
        }
    }

    private static void linkOrJudgeAheadOfPoints() {
        RengaHall hall = Halls.made(2, 2, 1);
        t.noSuch("judge", () -> hall.give(4, 0, 11));
        t.noSuch("link", () -> hall.give(0, 1, 11));
        t.noSuch("both", () -> hall.give(-1, -1, -1));
        t.outOfRange("points", () -> hall.give(0, 0, 11));
    }

    private static void noPoints() {
        RengaHall hall = new RengaHall();
        t.is("no poets", hall.prize(), NONE);
        t.is("no poem", Halls.withPoets(6).prize(), NONE);
        t.is("no link", Halls.plain(1, 2).prize(), NONE);
        t.is("no points", Halls.made(2, 2, 2).prize(), NONE);
        RengaHall anew = Halls.made(2, 2, 2);
        anew.give(0, 1, 5);
        t.is("points", anew.prize(), 1);
        anew.begin(2, 0, 5, 5);
        t.is("no points of a new poem", anew.prize(), NONE);
        Halls.link(anew, 0, 0);
        Halls.link(anew, 1, 1);
        t.is("nor with links", anew.prize(), NONE);
    }

    private static void noughtIsPoints() {
        RengaHall hall = Halls.made(2, 2, 2);
        hall.give(0, 1, 0);
        t.is("0 of poet 1 alone", hall.prize(), 1);
        hall.give(0, 0, 0);
        t.is("0 of both", hall.prize(), 0);
        hall.give(1, 1, 1);
        t.is("0 and 1 of poet 1", hall.prize(), 1);
        hall.give(1, 0, 3);
        hall.give(2, 0, 0);
        hall.give(2, 1, 3);
        t.is("3/3 and 4/3", hall.prize(), 1);
    }

    private static void ofSeveralTheLowest() {
        RengaHall hall = Halls.withPoets(6);
        Halls.addWords(hall, 2);
        hall.call(0, 1);
        hall.begin(6, 0, 5, 5);
        for (int link = 0; link < 6; link++) {
            Halls.link(hall, 5 - link, link % 2);
        }
        for (int link = 0; link < 6; link++) {
            hall.give(link % 4, link, 10);
            t.is("of those with 10", hall.prize(), 5 - link);
        }
        hall.give(0, 4, 10);
        hall.give(1, 4, 10);
        t.is("20/2 is 10/1", hall.prize(), 0);
    }

    private static void ofLeastAndGreatestPoet() {
        RengaHall hall = Halls.withPoets(6);
        Halls.addWords(hall, 2);
        hall.call(0, 1);
        hall.begin(2, 0, 5, 5);
        Halls.link(hall, 5, 0);
        Halls.link(hall, 0, 1);
        hall.give(3, 0, 1);
        t.is("poet 5", hall.prize(), 5);
        hall.give(3, 1, 1);
        t.is("poet 0", hall.prize(), 0);
        hall.give(0, 0, 2);
        t.is("poet 5", hall.prize(), 5);
    }

    private static void exactFractions() {
        RengaHall hall = Halls.made(4, 4, 4);
        hall.give(0, 0, 3);
        hall.give(1, 0, 3);
        hall.give(2, 0, 4);
        hall.give(0, 1, 3);
        hall.give(1, 1, 4);
        t.is("10/3 is less than 7/2", hall.prize(), 1);
        hall.give(3, 0, 4);
        t.is("14/4 is 7/2", hall.prize(), 0);
        hall.give(0, 3, 4);
        t.is("14/4 is less than 11/3", hall.prize(), 1);
    }

    /** Means that whole numbers, and even percents, would take for the same. */
    private static void closeFractions() {
        RengaHall hall = Halls.plain(2, 36);
        for (int link = 0; link < 36; link++) {
            Halls.link(hall, link % 2, link % 2);
        }
        for (int link = 0; link < 36; link++) {
            for (int judge = 0; judge < 4; judge++) {
                if (link > 0 || judge > 0) {
                    hall.give(judge, link, 1);
                }
            }
        }
        t.is("71/71 and 72/72", hall.prize(), 0);
        hall.give(3, 34, 0);
        t.is("70/71 is less than 72/72", hall.prize(), 1);
        hall.give(3, 35, 0);
        t.is("70/71 is less than 71/72", hall.prize(), 1);
        hall.give(2, 35, 0);
        t.is("70/71 is more than 70/72", hall.prize(), 0);
    }

    private static void overAllLinksAndJudges() {
        RengaHall hall = Halls.made(4, 4, 4);
        hall.give(0, 0, 4);
        hall.give(3, 3, 5);
        t.is("4 and 5", hall.prize(), 1);
        hall.give(3, 2, 7);
        t.is("11/2 and 5", hall.prize(), 0);
        hall.give(0, 1, 6);
        t.is("11/2 and 11/2", hall.prize(), 0);
        hall.give(1, 1, 6);
        t.is("11/2 and 17/3", hall.prize(), 1);
    }

    private static void anewInPlaceOfThoseBefore() {
        RengaHall hall = Halls.made(2, 2, 2);
        hall.give(0, 0, 10);
        hall.give(0, 1, 9);
        t.is("10 and 9", hall.prize(), 0);
        hall.give(0, 0, 8);
        t.is("8 and 9", hall.prize(), 1);
        hall.give(0, 1, 8);
        t.is("8 and 8", hall.prize(), 0);
    }

    private static void hiddenAndMendedLinks() {
        RengaHall hall = Halls.made(3, 3, 2);
        hall.give(0, 0, 3);
        hall.give(0, 1, 4);
        hall.hide(1, true);
        t.is("a hidden link is still theirs", hall.prize(), 1);
        hall.hide(0, true);
        t.is("though nobody admits any", hall.prize(), 1);
        hall.mend(0, 2);
        t.is("points stay with a mended link", hall.give(0, 1, 2), 4);
        t.is("the other one", hall.prize(), 0);
        hall.give(0, 1, 10);
        t.is("a mended link counts", hall.prize(), 1);
    }

    private static void poetsWithoutPoints() {
        RengaHall hall = Halls.made(3, 3, 2);
        hall.give(0, 1, 0);
        t.is("poet 0 has links, but no points", hall.prize(), 1);
        RengaHall six = Halls.withPoets(6);
        Halls.addWords(six, 1);
        six.begin(2, 0, 5, 5);
        Halls.link(six, 3, 0);
        six.give(0, 0, 0);
        t.is("the others have no links", six.prize(), 3);
    }
}

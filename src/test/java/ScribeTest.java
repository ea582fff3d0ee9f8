/** The eight faults of offers, which of several is told, and their causes (promises 9 and 10). */
public final class ScribeTest {
    private static final int NONE = RengaHall.NONE;
    private static final int SPRING = RengaHall.SPRING;
    private static final int SUMMER = RengaHall.SUMMER;
    private static final int AUTUMN = RengaHall.AUTUMN;
    private static final int WINTER = RengaHall.WINTER;
    private static final Expect t = new Expect("ScribeTest");

    public static void main(String[] args) {
        soundsOfEvenAndOddLinks();
        soundsLeastAndMost();
        mixedFirstUnlike();
        mixedLeastAndGreatestPlace();
        mixedOfTheLastLink();
        againInIt();
        againInTheLinksAhead();
        againTheLowestPlace();
        againAtEachPlace();
        againTheSpanOfThem();
        turnOfTheLinkAhead();
        turnOfLeastAndGreatestPoet();
        joinOfTheFirstLink();
        joinByCallOrSubject();
        joinByEachSubject();
        joinByWordsOfAllPlaces();
        joinToldByTheLinkAhead();
        leaveTheLowestSubject();
        leaveTheLinkTwoAheadAlone();
        moonAndBlossomAreNoSubjects();
        signsOfWordsOfAllPlaces();
        leavesSeasonEarly();
        staysInSeasonLong();
        comesBackSoon();
        comesBackBetweenOthers();
        lengthWithoutSeason();
        lengthOfSeveral();
        lengthOfTheLastLink();
        seat();
        seatOfTheLastLink();
        firstOfSeveral();
        t.end();
    }

    private static void soundsOfEvenAndOddLinks() {
        RengaHall hall = Halls.withPoets(2);
        hall.word(5, NONE, 1);
        hall.word(7, NONE, 1);
        hall.word(12, NONE, 1);
        hall.begin(3, 0, 12, 7);
        t.refused("too few", Halls.link(hall, 0, 0), 1, hall, 5);
        t.refused("too many", Halls.link(hall, 0, 0, 1, 1), 1, hall, 19);
        t.refused("as many as odd links", Halls.link(hall, 0, 1), 1, hall, 7);
        t.is("link 0", Halls.link(hall, 0, 0, 1), 0);
        t.refused("as many as even links", Halls.link(hall, 1, 2), 1, hall, 12);
        t.is("link 1", Halls.link(hall, 1, 1), 1);
        t.refused("as many as odd links", Halls.link(hall, 0, 1), 1, hall, 7);
    }

    private static void soundsLeastAndMost() {
        RengaHall hall = Halls.withPoets(1);
        hall.word(1, NONE, 0);
        hall.word(1, NONE, 0);
        hall.word(1, NONE, 0);
        hall.word(12, NONE, 0);
        hall.word(12, NONE, 0);
        hall.word(12, NONE, 0);
        hall.word(4, NONE, 0);
        hall.begin(2, 0, 2, 40);
        t.refused("none", Halls.offer(hall, 0), 1, hall, 0);
        t.refused("1 of 2", Halls.offer(hall, 0, 0), 1, hall, 1);
        t.refused("3 of 2", Halls.offer(hall, 0, 0, 1, 2), 1, hall, 3);
        t.is("2 of 2", Halls.offer(hall, 0, 0, 1), 0);
        hall.begin(2, 0, 40, 2);
        t.refused("39 of 40", Halls.offer(hall, 0, 3, 4, 5, 0, 1, 2), 1, hall, 39);
        t.refused("41 of 40", Halls.offer(hall, 0, 3, 4, 5, 6, 0), 1, hall, 41);
        t.refused("as many as 6 words can have", Halls.offer(hall, 0, 3, 3, 3, 3, 3, 3), 1, hall, 72);
        t.is("40 of 40", Halls.offer(hall, 0, 3, 4, 5, 6), 0);
    }

    private static void mixedFirstUnlike() {
        RengaHall hall = Halls.withPoets(1);
        hall.word(2, NONE, 0);
        hall.word(2, SUMMER, 0);
        hall.word(2, SUMMER, 0);
        hall.word(2, WINTER, 0);
        hall.word(2, SPRING, 0);
        hall.word(4, NONE, 0);
        hall.begin(2, 0, 10, 10);
        t.refused("first unlike", Halls.link(hall, 0, 0, 1, 2, 3, 4), 2, hall, 3);
        t.refused("unlike the first", Halls.link(hall, 0, 4, 0, 1, 2, 3), 2, hall, 2);
        t.refused("two, then one as the first", Halls.link(hall, 0, 1, 3, 2, 0, 4), 2, hall, 1);
        t.is("with words that have none", Halls.link(hall, 0, 0, 1, 2, 5), 0);
        t.is("the season", hall.ofLink(0, 1), SUMMER);
    }

    private static void mixedLeastAndGreatestPlace() {
        RengaHall hall = Halls.withPoets(1);
        for (int word = 0; word < 5; word++) {
            hall.word(1, NONE, 0);
        }
        for (int season = SPRING; season <= WINTER; season++) {
            hall.word(1, season, 0);
        }
        hall.begin(2, 0, 6, 6);
        t.refused("place 1", Halls.offer(hall, 0, 5, 6, 0, 1, 2, 3), 2, hall, 1);
        t.refused("place 5", Halls.offer(hall, 0, 8, 0, 1, 2, 3, 5), 2, hall, 5);
        t.refused("place 5 behind place 4", Halls.offer(hall, 0, 0, 1, 2, 3, 7, 5), 2, hall, 5);
        t.is("one word has a season", Halls.offer(hall, 0, 0, 1, 2, 3, 4, 5), 0);
    }

    private static void mixedOfTheLastLink() {
        RengaHall hall = Halls.withPoets(2);
        hall.word(5, NONE, 0);
        hall.word(2, SUMMER, 0);
        hall.word(3, WINTER, 0);
        hall.word(3, SUMMER, 0);
        hall.call(0, 1);
        hall.begin(2, 0, 5, 5);
        t.is("link 0", Halls.link(hall, 0, 0), 0);
        t.refused("mixed", Halls.link(hall, 1, 1, 2), 2, hall, 1);
        t.is("not mixed", Halls.link(hall, 1, 1, 3), 1);
    }

    private static void againInIt() {
        RengaHall hall = Halls.withPoets(1);
        for (int word = 0; word < 6; word++) {
            hall.word(1, NONE, 0);
        }
        hall.begin(2, 0, 6, 6);
        t.refused("side by side", Halls.offer(hall, 0, 0, 0, 1, 2, 3, 4), 3, hall, 1);
        t.refused("first and last", Halls.offer(hall, 0, 0, 1, 2, 3, 4, 0), 3, hall, 5);
        t.refused("two twice", Halls.offer(hall, 0, 0, 1, 2, 2, 1, 0), 3, hall, 3);
        t.refused("six times", Halls.offer(hall, 0, 5, 5, 5, 5, 5, 5), 3, hall, 1);
        t.is("six words", Halls.offer(hall, 0, 0, 1, 2, 3, 4, 5), 0);
        t.is("the words of offers are no links", Halls.offer(hall, 0, 0, 1, 2, 3, 4, 5), 1);
    }

    private static void againInTheLinksAhead() {
        RengaHall hall = Halls.plain(3, 4);
        hall.begin(4, 10, 5, 5);
        t.is("link 0", Halls.link(hall, 0, 0), 0);
        t.refused("ahead", Halls.link(hall, 1, 0), 3, hall, 0);
        t.is("link 1", Halls.link(hall, 1, 1), 1);
        t.refused("two ahead", Halls.link(hall, 0, 0), 3, hall, 0);
        t.refused("one ahead", Halls.link(hall, 0, 1), 3, hall, 0);
        t.is("neither", Halls.link(hall, 0, 2), 2);
    }

    private static void againTheLowestPlace() {
        RengaHall hall = Halls.withPoets(2);
        for (int word = 0; word < 12; word++) {
            hall.word(1, NONE, 0);
        }
        hall.begin(3, 2, 6, 6);
        t.is("link 0", Halls.link(hall, 0, 0, 1, 2, 3, 4, 5), 0);
        t.refused("place 5", Halls.link(hall, 1, 6, 7, 8, 9, 10, 0), 3, hall, 5);
        t.refused("all", Halls.link(hall, 1, 0, 1, 2, 3, 4, 5), 3, hall, 0);
        t.refused("in it, then ahead", Halls.link(hall, 1, 6, 7, 6, 5, 8, 9), 3, hall, 2);
        t.refused("ahead, then in it", Halls.link(hall, 1, 6, 5, 6, 7, 8, 9), 3, hall, 1);
        t.is("neither, but no join", Halls.link(hall, 1, 6, 7, 8, 9, 10, 11), -5);
    }

    private static void againAtEachPlace() {
        RengaHall hall = Halls.withPoets(2);
        for (int word = 0; word < 12; word++) {
            hall.word(1, NONE, 1);
        }
        hall.begin(3, 1, 6, 6);
        for (int again = 1; again < 6; again++) {
            t.refused("in it", Halls.offer(hall, 0, rowOf6(6, again, 6)), 3, hall, again);
        }
        t.is("link 0", Halls.link(hall, 0, 0, 1, 2, 3, 4, 5), 0);
        for (int again = 0; again < 6; again++) {
            for (int ahead = 0; ahead < 6; ahead++) {
                t.refused("ahead", Halls.offer(hall, 1, rowOf6(6, again, ahead)), 3, hall, again);
            }
        }
        t.is("neither", Halls.offer(hall, 1, 6, 7, 8, 9, 10, 11), 0);
    }

    /** Six words from the first one on, but at the place another one. */
    private static int[] rowOf6(int first, int place, int other) {
        int[] row = {first, first + 1, first + 2, first + 3, first + 4, first + 5};
        row[place] = other;
        return row;
    }

    private static void againTheSpanOfThem() {
        for (int span = 0; span <= 10; span++) {
            RengaHall hall = Halls.withPoets(2);
            Halls.addWords(hall, 14);
            for (int word = 0; word < 13; word++) {
                hall.call(word, word + 1);
            }
            hall.begin(36, span, 5, 5);
            for (int link = 0; link < 12; link++) {
                t.is("link", Halls.link(hall, link % 2, link), link);
            }
            for (int word = 0; word < 12; word++) {
                int ahead = 12 - word;
                int due = ahead <= span ? -3 : word == 10 ? 0 : -5;
                t.is("span " + span + " word " + word, Halls.offer(hall, 0, word), due);
            }
        }
    }

    private static void turnOfTheLinkAhead() {
        RengaHall hall = Halls.plain(3, 3);
        Halls.offer(hall, 0, 1);
        t.is("offers are no links", Halls.offer(hall, 0, 0), 1);
        t.is("link 0", hall.choose(1), 0);
        t.refused("poet 0", Halls.link(hall, 0, 1), 4, hall, 0);
        t.is("link 1", Halls.link(hall, 1, 1), 1);
        t.refused("poet 1", Halls.link(hall, 1, 2), 4, hall, 1);
        hall.hide(1, true);
        t.refused("poet 1, though it is hidden", Halls.link(hall, 1, 2), 4, hall, 1);
        t.is("link 2 of poet 0", Halls.link(hall, 0, 2), 2);
        hall.begin(2, 0, 5, 5);
        t.is("the last of a poem before is not ahead", Halls.link(hall, 0, 0), 0);
    }

    private static void turnOfLeastAndGreatestPoet() {
        RengaHall hall = Halls.withPoets(6);
        Halls.addWords(hall, 2);
        hall.call(0, 1);
        hall.begin(7, 0, 5, 5);
        for (int poet = 0; poet < 6; poet++) {
            t.is("link", Halls.link(hall, poet, poet % 2), poet);
            t.refused("poet " + poet, Halls.link(hall, poet, 1 - poet % 2), 4, hall, poet);
        }
        t.is("poet 0 again", Halls.link(hall, 0, 0), 6);
    }

    private static void joinOfTheFirstLink() {
        RengaHall hall = Halls.withPoets(2);
        Halls.addWords(hall, 2);
        hall.begin(2, 0, 5, 5);
        t.is("it needs none", Halls.link(hall, 0, 0), 0);
        t.refused("the second one does", Halls.link(hall, 1, 1), 5, hall, 0);
    }

    private static void joinByCallOrSubject() {
        RengaHall hall = Halls.withPoets(2);
        hall.word(5, NONE, 256 | 1);
        hall.word(5, NONE, 256 | 2);
        hall.word(5, NONE, 256 | 128);
        hall.word(5, NONE, 256 | 128);
        hall.word(5, NONE, 256 | 64 | 2);
        hall.begin(5, 0, 5, 5);
        for (int link = 0; link < 5; link++) {
            hall.seat(link, 1);
        }
        t.is("link 0", Halls.link(hall, 0, 0), 0);
        t.refused("the MOON is no subject", Halls.link(hall, 1, 1), 5, hall, 0);
        hall.call(1, 0);
        t.is("called to mind", Halls.link(hall, 1, 1), 1);
        t.refused("not by others", Halls.link(hall, 0, 2), 5, hall, 1);
        hall.call(2, 1);
        t.is("called to mind", Halls.link(hall, 0, 2), 2);
        t.is("a subject in common", Halls.link(hall, 1, 3), 3);
        t.refused("the link ahead alone", Halls.link(hall, 0, 4), 5, hall, 3);
    }

    private static void joinByEachSubject() {
        RengaHall hall = Halls.withPoets(2);
        for (int subject = 0; subject < 8; subject++) {
            hall.word(5, NONE, 1 << subject);
        }
        hall.word(5, NONE, 255);
        for (int subject = 0; subject < 8; subject++) {
            hall.begin(2, 0, 5, 5);
            t.is("link 0", Halls.link(hall, 0, subject), 0);
            for (int other = 0; other < 8; other++) {
                int due = other == subject ? 0 : -5;
                t.is(subject + " and " + other, Halls.offer(hall, 1, other), due);
            }
            t.is("all subjects", Halls.offer(hall, 1, 8), 1);
            t.is("link 1", hall.choose(1), 1);
        }
    }

    private static void joinByWordsOfAllPlaces() {
        for (int ahead = 0; ahead < 6; ahead++) {
            for (int place = 0; place < 6; place++) {
                RengaHall hall = Halls.withPoets(2);
                Halls.addWords(hall, 12);
                hall.begin(2, 0, 30, 30);
                t.is("link 0", Halls.link(hall, 0, 0, 1, 2, 3, 4, 5), 0);
                t.refused("none", Halls.offer(hall, 1, 6, 7, 8, 9, 10, 11), 5, hall, 0);
                hall.call(6 + place, ahead);
                t.is("one of each", Halls.offer(hall, 1, 6, 7, 8, 9, 10, 11), 0);
            }
        }
    }

    /** By words at the last places of both, and by the link ahead up to the last but one. */
    private static void joinToldByTheLinkAhead() {
        RengaHall hall = Halls.withPoets(2);
        Halls.addWords(hall, 4);
        hall.word(10, NONE, 0);
        hall.call(1, 3);
        hall.begin(36, 0, 10, 10);
        for (int link = 0; link < 36; link++) {
            if (link > 0) {
                t.refused("no join", Halls.link(hall, link % 2, 4), 5, hall, link - 1);
            }
            int first = link % 2 == 0 ? 0 : 2;
            t.is("by their last words", Halls.link(hall, link % 2, first, first + 1), link);
        }
    }

    private static void leaveTheLowestSubject() {
        for (int subject = 0; subject < 8; subject++) {
            RengaHall hall = Halls.withPoets(2);
            hall.word(5, NONE, 255);
            hall.word(5, NONE, 0);
            hall.word(5, NONE, 1 << subject);
            hall.word(5, NONE, 128 | 1 << subject);
            hall.word(5, NONE, 256 - (1 << subject));
            for (int word = 0; word < 5; word++) {
                if (word != 1) {
                    hall.call(1, word);
                }
            }
            hall.begin(3, 0, 5, 5);
            t.is("link 0", Halls.link(hall, 0, 0), 0);
            t.is("link 1", Halls.link(hall, 1, 1), 1);
            t.refused("that alone", Halls.link(hall, 0, 2), 6, hall, subject);
            t.refused("that and the greatest", Halls.link(hall, 0, 3), 6, hall, subject);
            t.refused("that and all above it", Halls.link(hall, 0, 4), 6, hall, subject);
            t.refused("all", Halls.link(hall, 0, 0), 6, hall, 0);
            t.is("none", Halls.offer(hall, 0, 1), -5);
        }
    }

    private static void leaveTheLinkTwoAheadAlone() {
        RengaHall hall = Halls.withPoets(2);
        hall.word(5, NONE, 1 | 256);
        hall.word(5, NONE, 1 | 2 | 256);
        hall.word(5, NONE, 2 | 4 | 256);
        hall.word(5, NONE, 4 | 1 | 256);
        hall.word(5, NONE, 4 | 256);
        hall.begin(5, 0, 5, 5);
        for (int link = 0; link < 5; link++) {
            hall.seat(link, 1);
        }
        t.is("link 0", Halls.link(hall, 0, 0), 0);
        t.is("the second has none two ahead", Halls.link(hall, 1, 1), 1);
        t.refused("two ahead", Halls.link(hall, 0, 1), 6, hall, 0);
        t.is("the MOON is no subject", Halls.link(hall, 0, 2), 2);
        t.refused("two ahead", Halls.link(hall, 1, 2), 6, hall, 1);
        t.refused("the subject of two ahead alone", Halls.link(hall, 1, 3), 6, hall, 0);
        t.is("neither", Halls.link(hall, 1, 4), 3);
        hall.call(0, 4);
        t.is("three and four ahead", Halls.link(hall, 0, 0), 4);
    }

    /** They neither join a link to the one ahead nor keep it from leaving the one two ahead. */
    private static void moonAndBlossomAreNoSubjects() {
        for (int seat = 1; seat <= 2; seat++) {
            RengaHall hall = Halls.withPoets(2);
            for (int word = 0; word < 3; word++) {
                hall.word(5, NONE, 128 << seat);
            }
            hall.begin(3, 0, 5, 5);
            for (int link = 0; link < 3; link++) {
                hall.seat(link, seat);
            }
            t.is("link 0", Halls.link(hall, 0, 0), 0);
            t.refused("no join", Halls.link(hall, 1, 1), 5, hall, 0);
            hall.call(0, 1);
            hall.call(1, 2);
            t.is("link 1", Halls.link(hall, 1, 1), 1);
            t.is("it leaves link 0", Halls.link(hall, 0, 2), 2);
        }
    }

    private static void signsOfWordsOfAllPlaces() {
        for (int ahead = 0; ahead < 6; ahead++) {
            for (int place = 0; place < 6; place++) {
                RengaHall hall = Halls.withPoets(2);
                Halls.addWords(hall, 12);
                hall.word(5, NONE, 8);
                hall.word(5, NONE, 8);
                hall.word(5, NONE, 256);
                hall.begin(3, 0, 30, 30);
                t.refused("MOON", Halls.link(hall, 0, rowOf6(0, place, 14)), 8, hall, 1);
                t.is("link 0", Halls.link(hall, 0, rowOf6(0, ahead, 12)), 0);
                t.is("its signs", hall.ofLink(0, 2), 8);
                t.refused("no join", Halls.link(hall, 1, rowOf6(6, place, 6 + place)), 5, hall, 0);
                t.is("joined by a subject", Halls.link(hall, 1, rowOf6(6, place, 13)), 1);
                t.refused("not left", Halls.link(hall, 0, rowOf6(0, place, 12)), 6, hall, 3);
            }
        }
    }

    /** A hall in which word i has the season told for it, and each calls each other to mind. */
    private static RengaHall seasons(int... seasons) {
        RengaHall hall = Halls.withPoets(2);
        for (int season : seasons) {
            hall.word(5, season, 0);
        }
        Halls.callAll(hall, seasons.length);
        hall.begin(36, 0, 5, 5);
        return hall;
    }

    private static int next(RengaHall hall, int word) {
        return Halls.link(hall, hall.links() % 2, word);
    }

    private static boolean isLong(int season) {
        return season == SPRING || season == AUTUMN;
    }

    private static void leavesSeasonEarly() {
        for (int season = SPRING; season <= WINTER; season++) {
            RengaHall hall = seasons(season, season, (season + 1) % 4, NONE);
            t.is("run 1", next(hall, 0), 0);
            if (!isLong(season)) {
                t.is("left at once", next(hall, 2), 1);
                continue;
            }
            t.refused("run 1, another", next(hall, 2), 7, hall, season);
            t.refused("run 1, none", next(hall, 3), 7, hall, season);
            t.is("run 2", next(hall, 1), 1);
            t.refused("run 2, another", next(hall, 2), 7, hall, season);
            t.refused("run 2, none", next(hall, 3), 7, hall, season);
            t.is("run 3", next(hall, 0), 2);
            t.is("another", Halls.offer(hall, 1, 2), 0);
            t.is("none", Halls.offer(hall, 1, 3), 1);
            t.is("or not left", Halls.offer(hall, 1, 1), 2);
        }
    }

    private static void staysInSeasonLong() {
        for (int season = SPRING; season <= WINTER; season++) {
            int most = isLong(season) ? 5 : 3;
            RengaHall hall = seasons(season, season, NONE, (season + 1) % 4);
            for (int run = 1; run <= most; run++) {
                t.is("stays", next(hall, run % 2), run - 1);
                t.is("run", hall.ofLink(run - 1, 4), run);
            }
            t.refused("too long", next(hall, 1 - most % 2), 7, hall, season);
            t.is("another", Halls.offer(hall, most % 2, 3), 0);
            t.is("none", Halls.offer(hall, most % 2, 2), 1);
        }
    }

    /** Of the 4 links ahead none may have it: so 4 must stand between, not 3. */
    private static void comesBackSoon() {
        for (int season = SPRING; season <= WINTER; season++) {
            int run = isLong(season) ? 3 : 1;
            RengaHall hall = seasons(season, season, NONE, NONE);
            for (int link = 0; link < run; link++) {
                t.is("run", next(hall, link % 2), link);
            }
            for (int between = 1; between <= 4; between++) {
                t.is("none", next(hall, 2 + between % 2), run + between - 1);
                int got = Halls.offer(hall, hall.links() % 2, 0);
                if (between < 4) {
                    t.refused(between + " between", got, 7, hall, season);
                } else {
                    t.is("4 between", got, 0);
                }
            }
        }
    }

    private static void comesBackBetweenOthers() {
        RengaHall hall = seasons(SUMMER, WINTER, NONE, NONE, SUMMER);
        t.is("SUMMER", next(hall, 0), 0);
        t.is("WINTER", next(hall, 1), 1);
        t.refused("1 between", next(hall, 4), 7, hall, SUMMER);
        t.is("none", next(hall, 2), 2);
        t.refused("2 between", next(hall, 0), 7, hall, SUMMER);
        t.refused("1 between", next(hall, 1), 7, hall, WINTER);
        t.is("none", next(hall, 3), 3);
        t.refused("3 between", next(hall, 0), 7, hall, SUMMER);
        t.is("none", next(hall, 2), 4);
        t.is("4 between", next(hall, 0), 5);
        t.is("4 between, ahead of it SUMMER", next(hall, 1), 6);
        t.refused("SUMMER again", next(hall, 0), 7, hall, SUMMER);
        t.is("none comes back as soon as wanted", next(hall, 2), 7);
        RengaHall spring = seasons(SPRING, SPRING, SPRING, SUMMER, NONE, SPRING);
        for (int link = 0; link < 4; link++) {
            t.is("three of SPRING, and SUMMER", next(spring, link), link);
        }
        t.refused("SPRING again", next(spring, 5), 7, spring, SPRING);
        t.is("none", next(spring, 4), 4);
        t.refused("SPRING again behind none", next(spring, 5), 7, spring, SPRING);
    }

    private static void lengthWithoutSeason() {
        RengaHall hall = seasons(NONE, NONE, SPRING);
        for (int link = 0; link < 8; link++) {
            t.is("none as long as wanted", next(hall, link % 2), link);
            t.is("no run", hall.ofLink(link, 4), 0);
        }
        t.is("SPRING behind none", next(hall, 2), 8);
    }

    /** A season that comes back too soon behind one that is left too early: that is told. */
    private static void lengthOfSeveral() {
        RengaHall hall = seasons(SUMMER, SPRING, SPRING, SUMMER);
        t.is("SUMMER", next(hall, 0), 0);
        t.is("SPRING", next(hall, 1), 1);
        t.refused("SPRING is left, SUMMER back", next(hall, 3), 7, hall, SPRING);
        t.is("SPRING", next(hall, 2), 2);
        t.refused("SPRING is left, SUMMER back", next(hall, 3), 7, hall, SPRING);
        t.is("SPRING", next(hall, 1), 3);
        t.refused("SUMMER is back", next(hall, 3), 7, hall, SUMMER);
        t.is("SPRING", next(hall, 2), 4);
        t.is("SUMMER", next(hall, 3), 5);
    }

    private static void lengthOfTheLastLink() {
        RengaHall spring = seasons(SPRING, SUMMER, NONE, SPRING);
        spring.begin(2, 0, 5, 5);
        t.is("SPRING", next(spring, 0), 0);
        t.refused("left early, another", next(spring, 1), 7, spring, SPRING);
        t.refused("left early, none", next(spring, 2), 7, spring, SPRING);
        t.is("a run of 2 up to the end", next(spring, 3), 1);
        RengaHall summer = seasons(SUMMER, SUMMER, NONE);
        summer.begin(4, 0, 5, 5);
        for (int link = 0; link < 3; link++) {
            t.is("SUMMER", next(summer, link % 2), link);
        }
        t.refused("too long", next(summer, 1), 7, summer, SUMMER);
        t.is("none", next(summer, 2), 3);
        summer.begin(3, 0, 5, 5);
        t.is("SUMMER", next(summer, 0), 0);
        t.is("none", next(summer, 2), 1);
        t.refused("back soon", next(summer, 1), 7, summer, SUMMER);
    }

    private static void seat() {
        RengaHall hall = Halls.withPoets(2);
        hall.word(5, NONE, 0);
        hall.word(5, NONE, 256);
        hall.word(5, NONE, 512);
        hall.word(5, NONE, 768);
        int[][] due = {{0, 1, 2, 1}, {1, 0, 1, 2}, {2, 1, 0, 1}};
        for (int seat = 0; seat <= 2; seat++) {
            for (int word = 0; word < 4; word++) {
                hall.begin(2, 0, 5, 5);
                hall.seat(0, seat);
                int cause = due[seat][word];
                String what = "seat " + seat + " word " + word;
                if (cause == 0) {
                    t.is(what, Halls.offer(hall, 0, word), 0);
                } else {
                    t.refused(what, Halls.offer(hall, 0, word), 8, hall, cause);
                }
            }
        }
    }

    private static void seatOfTheLastLink() {
        RengaHall hall = Halls.withPoets(2);
        hall.word(5, NONE, 0);
        hall.word(5, NONE, 0);
        hall.word(5, NONE, 256);
        hall.word(5, NONE, 512);
        hall.word(5, NONE, 256);
        Halls.callAll(hall, 5);
        hall.begin(36, 0, 5, 5);
        hall.seat(35, 2);
        hall.seat(34, 1);
        for (int link = 0; link < 34; link++) {
            t.is("no seat", Halls.link(hall, link % 2, link % 2), link);
        }
        t.refused("no MOON", Halls.link(hall, 0, 0), 8, hall, 1);
        t.is("MOON", Halls.link(hall, 0, 2), 34);
        t.refused("no BLOSSOM", Halls.link(hall, 1, 1), 8, hall, 2);
        t.refused("MOON in its stead", Halls.link(hall, 1, 4), 8, hall, 1);
        t.is("BLOSSOM", Halls.link(hall, 1, 3), 35);
    }

    /** Rows with more faults each: the first of them is told. */
    private static void firstOfSeveral() {
        RengaHall hall = Halls.withPoets(2);
        hall.word(5, SPRING, 1);
        hall.word(5, SPRING, 2);
        hall.call(0, 1);
        hall.word(2, SUMMER, 1 | 256);
        hall.word(3, SPRING, 0);
        hall.word(3, SUMMER, 0);
        hall.word(5, SUMMER, 1 | 256);
        hall.word(5, NONE, 1 | 256);
        hall.word(5, NONE, 2 | 256);
        hall.word(5, NONE, 2 | 1 | 256);
        hall.word(5, SUMMER, 256);
        hall.word(5, SPRING, 256);
        hall.begin(4, 2, 5, 5);
        Halls.link(hall, 0, 0);
        Halls.link(hall, 1, 1);
        t.refused("SOUNDS", Halls.link(hall, 1, 2, 3, 2), 1, hall, 7);
        t.refused("MIXED", Halls.link(hall, 1, 2, 3), 2, hall, 1);
        hall.word(1, NONE, 0);
        hall.word(1, SPRING, 0);
        hall.word(1, SUMMER, 0);
        t.refused("MIXED ahead of AGAIN", Halls.link(hall, 1, 11, 11, 11, 12, 13), 2, hall, 4);
        t.refused("AGAIN", Halls.link(hall, 1, 1), 3, hall, 0);
        t.refused("TURN", Halls.link(hall, 1, 5), 4, hall, 1);
        t.refused("JOIN", Halls.link(hall, 0, 5), 5, hall, 1);
        hall.call(5, 1);
        hall.call(9, 1);
        hall.call(10, 1);
        t.refused("LEAVE", Halls.link(hall, 0, 5), 6, hall, 0);
        t.refused("LEAVE", Halls.link(hall, 0, 8), 6, hall, 0);
        t.refused("LENGTH", Halls.link(hall, 0, 9), 7, hall, SPRING);
        t.refused("LENGTH", Halls.link(hall, 0, 7), 7, hall, SPRING);
        t.refused("SEAT", Halls.link(hall, 0, 10), 8, hall, 1);
    }
}

/** Promises 14, 15, 24 and 25: copy, write, far, source. */
public final class CopyTest {
    private static final int NONE = RengaHall.NONE;
    private static final int LEAST = Integer.MIN_VALUE, MOST = Integer.MAX_VALUE;
    private static final Expect t = new Expect("CopyTest");

    public static void main(String[] args) {
        ofThePoemAsItIs();
        ofAnotherCopy();
        ofLeastAndGreatestCopy();
        atMost8Copies();
        copyWithoutAPoem();
        ofAPoemWithoutLinks();
        ofTheLongestPoem();
        wordThatWasThere();
        writeCopyLinkAndPlace();
        writeLeastAndGreatestWord();
        writeInOneCopyAlone();
        farFromItself();
        unlikeWords();
        placesThatOneAloneHas();
        asFarAsCanBe();
        farOfLeastAndGreatestCopy();
        farWithoutAPoem();
        sourceWithoutAnotherCopy();
        ofSeveralThePoem();
        thenTheLowestCopy();
        theLeastFar();
        sourceIsNotItself();
        sourceOfLeastAndGreatestCopy();
        t.end();
    }

    private static void ofThePoemAsItIs() {
        RengaHall hall = Halls.made(4, 4, 2);
        t.is("a copy", hall.copy(NONE), 0);
        t.is("of all", hall.far(NONE, 0), 0);
        hall.mend(0, 3);
        t.is("the poem was mended since", hall.far(NONE, 0), 1);
        Halls.link(hall, 0, 2);
        t.is("and goes on", hall.far(NONE, 0), 2);
        t.is("a copy", hall.copy(NONE), 1);
        t.is("as the poem is now", hall.far(NONE, 1), 0);
        t.is("the mended word", hall.write(1, 1, 0, 0), 3);
        t.is("the word before", hall.write(0, 1, 0, 0), 1);
        Halls.offer(hall, 1, 1);
        t.is("offers are not in it", hall.far(hall.copy(NONE), NONE), 0);
    }

    private static void ofAnotherCopy() {
        RengaHall hall = Halls.made(4, 4, 2);
        hall.copy(NONE);
        hall.write(0, 0, 0, 3);
        Halls.link(hall, 0, 2);
        t.is("a copy", hall.copy(0), 1);
        t.is("as wrong as that", hall.far(0, 1), 0);
        t.is("and as short", hall.far(1, NONE), 2);
        t.noSuch("it has no new link", () -> hall.write(1, 2, 0, 0));
        t.is("the wrong word", hall.write(1, 0, 0, 1), 3);
        t.is("the other one stays", hall.write(0, 0, 0, 3), 3);
        t.is("now they are unlike", hall.far(0, 1), 1);
        hall.copy(1);
        t.is("of a copy of a copy", hall.far(1, 2), 0);
    }

    private static void ofLeastAndGreatestCopy() {
        RengaHall hall = Halls.made(2, 2, 2);
        t.noSuch("no copy yet", () -> hall.copy(0));
        hall.copy(NONE);
        t.is("copy 0", hall.copy(0), 1);
        t.is("the greatest", hall.copy(1), 2);
        t.noSuch("3", () -> hall.copy(3));
        t.noSuch("-2", () -> hall.copy(-2));
        t.noSuch("least", () -> hall.copy(LEAST));
        t.noSuch("most", () -> hall.copy(MOST));
        t.is("none of these was made", hall.copy(NONE), 3);
    }

    private static void atMost8Copies() {
        RengaHall hall = Halls.made(2, 2, 2);
        for (int copy = 0; copy < 8; copy++) {
            t.is("copy", hall.copy(copy / 2 - 1), copy);
        }
        t.notNow("the 9th of the poem", () -> hall.copy(NONE));
        t.notNow("the 9th of copy 0", () -> hall.copy(0));
        t.notNow("the 9th of copy 7", () -> hall.copy(7));
        t.noSuch("no copy, ahead of the limit", () -> hall.copy(8));
        t.noSuch("no copy, ahead of the limit", () -> hall.copy(-2));
        t.is("8 are there", hall.source(7), NONE);
        t.noSuch("no 9th", () -> hall.source(8));
        hall.begin(2, 0, 5, 5);
        t.is("numbered anew", hall.copy(NONE), 0);
    }

    private static void copyWithoutAPoem() {
        RengaHall hall = new RengaHall();
        t.notNow("no poem", () -> hall.copy(NONE));
        t.noSuch("no copy, ahead of no poem", () -> hall.copy(0));
        t.noSuch("no copy, ahead of no poem", () -> hall.copy(-2));
        hall.begin(2, 0, 5, 5);
        t.is("none was made", hall.copy(NONE), 0);
    }

    private static void ofAPoemWithoutLinks() {
        RengaHall hall = Halls.plain(2, 2);
        t.is("a copy", hall.copy(NONE), 0);
        t.noSuch("it has no link", () -> hall.write(0, 0, 0, 0));
        t.is("not far", hall.far(0, NONE), 0);
        t.is("a copy of that", hall.copy(0), 1);
        Halls.link(hall, 0, 0);
        t.is("a link more", hall.far(0, NONE), 1);
        t.noSuch("it still has no link", () -> hall.write(0, 0, 0, 0));
        t.is("its source", hall.source(0), 1);
    }

    private static void ofTheLongestPoem() {
        RengaHall hall = Halls.ofSixes(36, 36);
        t.is("a copy", hall.copy(NONE), 0);
        t.is("of all", hall.far(NONE, 0), 0);
        t.is("its last word", hall.write(0, 35, 5, 0), 11);
        t.is("now it is wrong", hall.far(0, NONE), 1);
        t.noSuch("place 6", () -> hall.write(0, 35, 6, 0));
        t.noSuch("link 36", () -> hall.write(0, 36, 0, 0));
        t.is("a copy of that", hall.copy(0), 1);
        t.is("its last word", hall.write(1, 35, 5, 1), 0);
    }

    private static void wordThatWasThere() {
        RengaHall hall = Halls.made(3, 3, 2);
        hall.copy(NONE);
        t.is("the word", hall.write(0, 1, 0, 2), 1);
        t.is("the wrong one", hall.write(0, 1, 0, 0), 2);
        t.is("word 0", hall.write(0, 1, 0, 1), 0);
        t.is("by the same", hall.write(0, 1, 0, 1), 1);
        t.is("right again", hall.far(0, NONE), 0);
        t.is("the poem stays", hall.wordAt(1, 0), 1);
        t.is("it is not mended", hall.ofLink(1, 5), 0);
    }

    private static void writeCopyLinkAndPlace() {
        RengaHall hall = ofTwoWordsAndOne();
        Halls.link(hall, 0, 0, 1);
        Halls.link(hall, 1, 2);
        t.noSuch("no copy yet", () -> hall.write(0, 0, 0, 0));
        hall.copy(NONE);
        t.is("place 0 of link 0", hall.write(0, 0, 0, 0), 0);
        t.is("its last place", hall.write(0, 0, 1, 1), 1);
        t.is("the last link", hall.write(0, 1, 0, 2), 2);
        t.noSuch("copy -1", () -> hall.write(NONE, 0, 0, 0));
        t.noSuch("copy 1", () -> hall.write(1, 0, 0, 0));
        t.noSuch("copy least", () -> hall.write(LEAST, 0, 0, 0));
        t.noSuch("copy most", () -> hall.write(MOST, 0, 0, 0));
        t.noSuch("link -1", () -> hall.write(0, -1, 0, 0));
        t.noSuch("link 2", () -> hall.write(0, 2, 0, 0));
        t.noSuch("link 36", () -> hall.write(0, 36, 0, 0));
        t.noSuch("link least", () -> hall.write(0, LEAST, 0, 0));
        t.noSuch("link most", () -> hall.write(0, MOST, 0, 0));
        t.noSuch("place -1", () -> hall.write(0, 0, -1, 0));
        t.noSuch("place 2", () -> hall.write(0, 0, 2, 0));
        t.noSuch("place 1 of link 1", () -> hall.write(0, 1, 1, 0));
        t.noSuch("place 6", () -> hall.write(0, 0, 6, 0));
        t.noSuch("place least", () -> hall.write(0, 0, LEAST, 0));
        t.noSuch("place most", () -> hall.write(0, 0, MOST, 0));
        t.is("a link more", Halls.link(hall, 0, 0, 1), 2);
        t.noSuch("a link of the poem alone", () -> hall.write(0, 2, 0, 0));
        t.is("unchanged", hall.far(0, NONE), 2);
    }

    private static void writeLeastAndGreatestWord() {
        RengaHall hall = Halls.made(2, 2, 1);
        hall.copy(NONE);
        t.is("word 0", hall.write(0, 0, 0, 0), 0);
        t.is("word 1", hall.write(0, 0, 0, 1), 0);
        t.noSuch("word 2", () -> hall.write(0, 0, 0, 2));
        t.noSuch("word -1", () -> hall.write(0, 0, 0, -1));
        t.noSuch("word least", () -> hall.write(0, 0, 0, LEAST));
        t.noSuch("word most", () -> hall.write(0, 0, 0, MOST));
        Halls.addWords(hall, 38);
        t.is("word 39", hall.write(0, 0, 0, 39), 1);
        t.noSuch("word 40", () -> hall.write(0, 0, 0, 40));
        t.is("unchanged", hall.write(0, 0, 0, 0), 39);
    }

    private static void writeInOneCopyAlone() {
        RengaHall hall = Halls.made(3, 3, 2);
        for (int copy = 0; copy < 8; copy++) {
            hall.copy(NONE);
        }
        t.is("written in copy 3", hall.write(3, 0, 0, 2), 0);
        for (int copy = 0; copy < 8; copy++) {
            t.is("far", hall.far(copy, NONE), copy == 3 ? 1 : 0);
        }
        t.is("written in copy 7", hall.write(7, 1, 0, 2), 1);
        t.is("far from each other", hall.far(3, 7), 2);
    }

    private static void farFromItself() {
        RengaHall hall = Halls.made(2, 2, 2);
        t.is("the poem", hall.far(NONE, NONE), 0);
        hall.copy(NONE);
        hall.write(0, 0, 0, 1);
        t.is("a copy", hall.far(0, 0), 0);
        RengaHall begun = Halls.plain(2, 2);
        t.is("a poem without links", begun.far(NONE, NONE), 0);
    }

    private static void unlikeWords() {
        RengaHall hall = Halls.ofSixes(3, 2);
        hall.copy(NONE);
        hall.copy(NONE);
        for (int place = 0; place < 6; place++) {
            t.is("before", hall.far(0, 1), place);
            hall.write(0, 1, place, 0);
            t.is("one more", hall.far(0, 1), place + 1);
            t.is("the other way", hall.far(1, 0), place + 1);
            t.is("and the poem", hall.far(NONE, 0), place + 1);
        }
        for (int place = 0; place < 6; place++) {
            hall.write(1, 1, place, 0);
        }
        t.is("both wrong alike", hall.far(0, 1), 0);
        hall.write(0, 0, 0, 1);
        hall.write(0, 0, 1, 0);
        t.is("the same words in other places", hall.far(0, 1), 2);
    }

    private static void placesThatOneAloneHas() {
        RengaHall hall = ofTwoWordsAndOne();
        hall.copy(NONE);
        Halls.link(hall, 0, 0, 1);
        hall.copy(NONE);
        Halls.link(hall, 1, 2);
        hall.copy(NONE);
        t.is("3 places", hall.far(0, 2), 3);
        t.is("the other way", hall.far(2, 0), 3);
        t.is("2 places", hall.far(0, 1), 2);
        t.is("1 place", hall.far(1, NONE), 1);
        t.is("none", hall.far(2, NONE), 0);
        hall.write(1, 0, 0, 1);
        t.is("and one unlike", hall.far(1, 2), 2);
        hall.write(2, 0, 0, 1);
        t.is("and none unlike", hall.far(1, 2), 1);
    }

    private static void asFarAsCanBe() {
        RengaHall hall = Halls.ofSixes(36, 0);
        hall.copy(NONE);
        for (int link = 0; link < 36; link++) {
            int first = link % 2 == 0 ? 0 : 6;
            Halls.link(hall, link % 2, first, first + 1, first + 2, first + 3, first + 4, first + 5);
        }
        t.is("36 links of 6 words", hall.far(NONE, 0), 216);
        t.is("a copy of all", hall.far(0, hall.copy(NONE)), 216);
        t.is("the source of that", hall.source(1), NONE);
        t.is("the source of none", hall.source(0), NONE);
    }

    private static void farOfLeastAndGreatestCopy() {
        RengaHall hall = Halls.made(2, 2, 2);
        t.noSuch("no copy yet", () -> hall.far(0, NONE));
        t.noSuch("no other yet", () -> hall.far(NONE, 0));
        hall.copy(NONE);
        hall.copy(NONE);
        t.is("0 and 1", hall.far(0, 1), 0);
        t.noSuch("copy 2", () -> hall.far(2, 0));
        t.noSuch("other 2", () -> hall.far(0, 2));
        t.noSuch("copy -2", () -> hall.far(-2, 0));
        t.noSuch("other -2", () -> hall.far(0, -2));
        t.noSuch("both", () -> hall.far(2, 2));
        t.noSuch("copy least", () -> hall.far(LEAST, 0));
        t.noSuch("other most", () -> hall.far(0, MOST));
        for (int copy = 2; copy < 8; copy++) {
            hall.copy(NONE);
        }
        t.is("7 and NONE", hall.far(7, NONE), 0);
        t.is("NONE and 7", hall.far(NONE, 7), 0);
        t.noSuch("copy 8", () -> hall.far(8, 0));
        t.noSuch("other 8", () -> hall.far(0, 8));
    }

    private static void farWithoutAPoem() {
        RengaHall hall = new RengaHall();
        t.notNow("no poem", () -> hall.far(NONE, NONE));
        t.noSuch("copy ahead of no poem", () -> hall.far(0, NONE));
        t.noSuch("other ahead of no poem", () -> hall.far(NONE, 0));
        t.noSuch("copy ahead of no poem", () -> hall.far(-2, NONE));
        hall.begin(2, 0, 5, 5);
        t.is("a poem", hall.far(NONE, NONE), 0);
    }

    private static void sourceWithoutAnotherCopy() {
        RengaHall hall = Halls.made(3, 2, 2);
        hall.copy(NONE);
        t.is("the poem", hall.source(0), NONE);
        hall.write(0, 0, 0, 2);
        hall.write(0, 1, 0, 2);
        t.is("the poem, though all is wrong", hall.source(0), NONE);
    }

    private static void ofSeveralThePoem() {
        RengaHall hall = Halls.made(4, 4, 2);
        hall.copy(NONE);
        hall.copy(0);
        t.is("0 from the poem and copy 0", hall.source(1), NONE);
        t.is("0 from the poem and copy 1", hall.source(0), NONE);
        hall.write(1, 0, 0, 2);
        t.is("1 from the poem and copy 0", hall.source(1), NONE);
        hall.mend(0, 3);
        t.is("2 from the poem, 1 from copy 0", hall.source(1), 0);
        t.is("1 from the poem and copy 1", hall.source(0), NONE);
    }

    private static void thenTheLowestCopy() {
        RengaHall hall = Halls.made(4, 4, 2);
        hall.copy(NONE);
        hall.write(0, 0, 0, 3);
        hall.copy(0);
        hall.copy(0);
        hall.copy(0);
        t.is("0 from copies 1, 2 and 3", hall.source(0), 1);
        t.is("0 from copies 0, 2 and 3", hall.source(1), 0);
        t.is("0 from copies 0, 1 and 2", hall.source(3), 0);
        hall.write(0, 1, 0, 3);
        t.is("0 from copies 1 and 2", hall.source(3), 1);
        t.is("0 from copies 2 and 3", hall.source(1), 2);
        t.is("1 from copies 1, 2 and 3", hall.source(0), 1);
    }

    private static void theLeastFar() {
        RengaHall hall = Halls.ofSixes(3, 1);
        for (int copy = 0; copy < 8; copy++) {
            hall.copy(NONE);
            for (int place = 0; place < 6; place++) {
                hall.write(copy, 0, place, 6);
            }
        }
        for (int copy = 0; copy < 7; copy++) {
            hall.write(copy, 0, copy % 6, 7);
            hall.write(copy, 0, (copy + 1) % 6, 8);
        }
        hall.write(6, 0, 0, 6);
        hall.write(6, 0, 1, 9);
        t.is("copy 7 is 1 from copy 6, 2 from the others", hall.source(7), 6);
        t.is("copy 6 is 1 from copy 7", hall.source(6), 7);
        t.is("6 from the poem", hall.far(7, NONE), 6);
        for (int place = 0; place < 6; place++) {
            hall.write(7, 0, place, place);
        }
        t.is("as the poem", hall.source(7), NONE);
    }

    private static void sourceIsNotItself() {
        RengaHall hall = Halls.made(4, 4, 2);
        hall.copy(NONE);
        hall.copy(NONE);
        hall.write(1, 0, 0, 3);
        hall.write(1, 1, 0, 3);
        hall.copy(NONE);
        hall.write(2, 0, 0, 3);
        t.is("1 from copy 2, 2 from the poem and copy 0", hall.source(1), 2);
        t.is("1 from the poem, copies 0 and 1", hall.source(2), NONE);
    }

    private static void sourceOfLeastAndGreatestCopy() {
        RengaHall hall = Halls.made(2, 2, 2);
        t.noSuch("no copy", () -> hall.source(0));
        t.noSuch("no poem", () -> new RengaHall().source(0));
        for (int copy = 0; copy < 8; copy++) {
            int behind = copy;
            t.noSuch("not yet", () -> hall.source(behind));
            hall.copy(NONE);
            t.is("there", hall.source(copy), NONE);
        }
        t.noSuch("8", () -> hall.source(8));
        t.noSuch("the poem has none", () -> hall.source(NONE));
        t.noSuch("least", () -> hall.source(LEAST));
        t.noSuch("most", () -> hall.source(MOST));
    }

    /** A poem to be of 3 links: words 0 and 1 can be one, word 2 alone the one behind it. */
    private static RengaHall ofTwoWordsAndOne() {
        RengaHall hall = Halls.withPoets(2);
        hall.word(2, NONE, 0);
        hall.word(3, NONE, 0);
        hall.word(5, NONE, 0);
        hall.call(0, 2);
        hall.begin(3, 0, 5, 5);
        return hall;
    }
}

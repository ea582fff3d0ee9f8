/** Makes halls for the tests, offers rows and makes links in them. */
final class Halls {
    private static final int NONE = RengaHall.NONE;

    private Halls() {
    }

    /** A hall with so many poets. */
    static RengaHall withPoets(int poets) {
        RengaHall hall = new RengaHall();
        for (int i = 0; i < poets; i++) {
            hall.poet();
        }
        return hall;
    }

    /** Adds so many words of 5 sounds, without season and signs, that call nothing to mind. */
    static void addWords(RengaHall hall, int words) {
        for (int i = 0; i < words; i++) {
            hall.word(5, NONE, 0);
        }
    }

    /** Lets each of the first words call each other one of them to mind. */
    static void callAll(RengaHall hall, int words) {
        for (int word = 0; word < words; word++) {
            for (int other = 0; other < word; other++) {
                hall.call(word, other);
            }
        }
    }

    /**
     * A hall with two poets, so many words of 5 sounds without season and signs, each of which
     * calls each other one to mind, and a poem of so many links of 5 sounds, begun with span 0.
     */
    static RengaHall plain(int words, int links) {
        RengaHall hall = withPoets(2);
        addWords(hall, words);
        callAll(hall, words);
        hall.begin(links, 0, 5, 5);
        return hall;
    }

    /** A plain hall of which the first links are made: link i of poet i % 2 has word i. */
    static RengaHall made(int words, int links, int made) {
        RengaHall hall = plain(words, links);
        for (int link = 0; link < made; link++) {
            link(hall, link % 2, link);
        }
        return hall;
    }

    /**
     * A hall with two poets and twelve words of 5 sounds, in which as many links of 6 words each
     * were made as are told: those with even numbers have words 0 to 5, the others 6 to 11.
     */
    static RengaHall ofSixes(int links, int made) {
        RengaHall hall = withPoets(2);
        addWords(hall, 12);
        hall.call(0, 6);
        hall.begin(links, 0, 30, 30);
        for (int link = 0; link < made; link++) {
            int first = link % 2 == 0 ? 0 : 6;
            link(hall, link % 2, first, first + 1, first + 2, first + 3, first + 4, first + 5);
        }
        return hall;
    }

    /** Offers the words in place of the draft. */
    static int offer(RengaHall hall, int poet, int... words) {
        hall.clear();
        for (int word : words) {
            hall.add(word);
        }
        return hall.offer(poet);
    }

    /** Makes the words the next link; returns its number, or below 0 the fault. */
    static int link(RengaHall hall, int poet, int... words) {
        int offer = offer(hall, poet, words);
        return offer < 0 ? offer : hall.choose(offer);
    }
}

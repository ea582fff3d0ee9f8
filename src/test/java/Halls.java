/** Makes halls for the tests, and tells all that can be asked of one. */
final class Halls {
    private static final int NONE = RengaHall.NONE;

    private Halls() {
    }

    /** A hall with so many poets. */
    static RengaHall withPoets(int poets) {
        RengaHall hall = new RengaHall();
        for (int i = 0; i < poets; i++) {
            hall.poet();
        }
        return hall;
    }

    /**
     * A hall with two poets, so many words of 5 sounds without season and signs, each of which
     * calls each other one to mind, and a poem of so many links of 5 sounds, begun with span 0.
     */
    static RengaHall plain(int words, int links) {
        RengaHall hall = withPoets(2);
        for (int word = 0; word < words; word++) {
            hall.word(5, NONE, 0);
            for (int other = 0; other < word; other++) {
                hall.call(word, other);
            }
        }
        hall.begin(links, 0, 5, 5);
        return hall;
    }

    /** Offers the words in place of the draft. */
    static int offer(RengaHall hall, int poet, int... words) {
        hall.clear();
        for (int word : words) {
            hall.add(word);
        }
        return hall.offer(poet);
    }

    /** Makes the words the next link; returns its number, or below 0 the fault. */
    static int link(RengaHall hall, int poet, int... words) {
        int offer = offer(hall, poet, words);
        return offer < 0 ? offer : hall.choose(offer);
    }

    /** All answers to questions, of a hall with so many poets and copies. */
    static String all(RengaHall hall, int poets, int copies) {
        StringBuilder all = new StringBuilder();
        all.append("links ").append(hall.links()).append(" offers ").append(hall.offers());
        all.append(" why ").append(hall.why()).append(" prize ").append(hall.prize());
        for (int poet = 0; poet < poets; poet++) {
            all.append(" chances ").append(hall.chances(poet));
        }
        for (int link = 0; link < hall.links(); link++) {
            all.append("\nlink ").append(link);
            for (int what = 0; what <= 5; what++) {
                all.append(' ').append(hall.ofLink(link, what));
            }
            all.append(" words");
            for (int place = 0; place < hall.ofLink(link, 3); place++) {
                all.append(' ').append(hall.wordAt(link, place));
            }
            all.append(" fault ").append(hall.faultAnew(link)).append(" hand ").append(hall.hand(link));
        }
        for (int copy = 0; copy < copies; copy++) {
            all.append("\ncopy ").append(copy).append(" source ").append(hall.source(copy));
            for (int other = NONE; other < copies; other++) {
                all.append(' ').append(hall.far(copy, other));
            }
        }
        return all.toString();
    }
}

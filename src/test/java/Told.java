import java.util.function.IntSupplier;

/** Tells in one text what a hall answers, so that two halls can be compared. */
final class Told {
    private static final int NONE = RengaHall.NONE;
    private static final int POETS = 6, COPIES = 8, JUDGES = 4, LINKS = 36;

    private Told() {
    }

    /** The answer, or the name of the exception in its stead. */
    private static String answer(IntSupplier call) {
        try {
            return " " + call.getAsInt();
        } catch (RuntimeException e) {
            return " " + e.getClass().getSimpleName();
        }
    }

    /** All answers to questions; the hall is as it was then. */
    static String questions(RengaHall hall) {
        StringBuilder all = new StringBuilder();
        all.append("links ").append(hall.links()).append(" offers ").append(hall.offers());
        all.append(" why ").append(hall.why()).append(" prize ").append(hall.prize());
        for (int poet = 0; poet < POETS; poet++) {
            int it = poet;
            all.append(" chances").append(answer(() -> hall.chances(it)));
        }
        for (int link = 0; link < hall.links(); link++) {
            all.append("\nlink ").append(link);
            for (int what = 0; what <= 5; what++) {
                all.append(' ').append(hall.ofLink(link, what));
            }
            all.append(" words");
            for (int place = 0; place < hall.ofLink(link, 3); place++) {
                all.append(' ').append(hall.wordAt(link, place));
            }
            all.append(" fault ").append(hall.faultAnew(link)).append(" hand ").append(hall.hand(link));
        }
        for (int copy = 0; copy < COPIES; copy++) {
            int it = copy;
            all.append("\ncopy").append(answer(() -> hall.source(it)));
            for (int other = NONE; other <= copy; other++) {
                int its = other;
                all.append(answer(() -> hall.far(it, its)));
            }
        }
        return all.toString();
    }

    /**
     * All answers to questions, and then what other calls tell: the words of an offer, which is
     * chosen for that, the seats, the draft, points, words, poets and calls. The hall is another
     * one then.
     */
    static String all(RengaHall hall, int offer) {
        StringBuilder all = new StringBuilder(questions(hall));
        all.append("\noffer").append(answer(() -> hall.choose(offer))).append(words(hall));
        all.append("\nseats");
        for (int link = 0; link < LINKS; link++) {
            int it = link;
            all.append(answer(() -> hall.seat(it, 0)));
        }
        all.append("\npoints");
        for (int link = 0; link < hall.links(); link++) {
            for (int judge = 0; judge < JUDGES; judge++) {
                all.append(' ').append(hall.give(judge, link, 0));
            }
        }
        all.append(draft(hall));
        all.append("\nword").append(answer(() -> hall.word(1, NONE, 0)));
        all.append(" poet").append(answer(hall::poet)).append(" calls");
        for (int word = 0; word < 8; word++) {
            int it = word;
            all.append(answer(() -> hall.call(it, it + 1) ? 1 : 0));
        }
        return all.toString();
    }

    /**
     * What the draft is, told by offering it, for a poem of its own if there is no other, and by
     * its words if it is kept: a draft of 30 sounds can be.
     */
    private static String draft(RengaHall hall) {
        StringBuilder all = new StringBuilder("\ndraft");
        String kept = answer(() -> hall.offer(5));
        if (kept.endsWith("StateException")) {
            hall.begin(2, 0, 30, 30);
            kept += answer(() -> hall.offer(5));
        }
        all.append(kept).append(" why ").append(hall.why()).append(" words ").append(hall.clear());
        all.append(answer(() -> hall.choose(0)));
        return all.append(words(hall)).toString();
    }

    private static String words(RengaHall hall) {
        StringBuilder all = new StringBuilder();
        int latest = hall.links() - 1;
        for (int place = 0; place < 6; place++) {
            int it = place;
            all.append(answer(() -> hall.wordAt(latest, it)));
        }
        return all.append(" poet").append(answer(() -> hall.ofLink(latest, 0))).toString();
    }
}

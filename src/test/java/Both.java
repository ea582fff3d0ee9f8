import java.util.Arrays;

/**
 * A RengaHall and a PlainHall, at which the same calls are made so that their answers can be
 * compared. What an object answers behind its 512th call is free: no more are made.
 */
final class Both {
    static final int CALLS = 512;
    private static final int THROWN = -1001;

    final PlainHall plain = new PlainHall();
    private final RengaHall hall = new RengaHall();
    private final StringBuilder told = new StringBuilder();
    private int calls;
    private long last;
    private boolean isUnlike;

    /** Whether both answer the call alike; an exception is a number far below all answers. */
    boolean same(String name, int... a) {
        if (calls >= CALLS) {
            return true;
        }
        calls++;
        long got;
        try {
            got = ofHall(name, a);
        } catch (RuntimeException e) {
            got = number(e, THROWN - 3);
        }
        try {
            last = ofPlain(name, a);
        } catch (RuntimeException e) {
            last = number(e, THROWN - 4);
        }
        told.append(name).append(Arrays.toString(a)).append(" answered ").append(got);
        told.append(", due is ").append(last).append('\n');
        isUnlike |= got != last;
        return got == last;
    }

    int calls() {
        return calls;
    }

    /** What is due for the latest call. */
    long last() {
        return last;
    }

    /** Whether an exception is due for the latest call. */
    boolean hasThrown() {
        return last <= THROWN;
    }

    /** All calls and what both answered, the latest one at the end. */
    String told() {
        return told.toString();
    }

    /** All calls and what both answered, if one of the answers was not the one that is due. */
    String unlike() {
        return isUnlike ? told() : "";
    }

    /** The number of an exception; the other number if no call of the document throws it. */
    private static long number(RuntimeException e, long other) {
        if (e.getClass() == IndexOutOfBoundsException.class) {
            return THROWN;
        }
        if (e.getClass() == IllegalArgumentException.class) {
            return THROWN - 1;
        }
        return e.getClass() == IllegalStateException.class ? THROWN - 2 : other;
    }

    private long ofHall(String name, int[] a) {
        switch (name) {
            case "word": return hall.word(a[0], a[1], a[2]);
            case "call": return hall.call(a[0], a[1]) ? 1 : 0;
            case "poet": return hall.poet();
            case "begin": hall.begin(a[0], a[1], a[2], a[3]); return 0;
            case "seat": return hall.seat(a[0], a[1]);
            case "add": return hall.add(a[0]);
            case "clear": return hall.clear();
            case "offer": return hall.offer(a[0]);
            case "why": return hall.why();
            case "choose": return hall.choose(a[0]);
            case "mend": return hall.mend(a[0], a[1]);
            case "give": return hall.give(a[0], a[1], a[2]);
            case "copy": return hall.copy(a[0]);
            case "write": return hall.write(a[0], a[1], a[2], a[3]);
            case "hide": return hall.hide(a[0], a[1] == 1) ? 1 : 0;
            case "links": return hall.links();
            case "offers": return hall.offers();
            case "ofLink": return hall.ofLink(a[0], a[1]);
            case "wordAt": return hall.wordAt(a[0], a[1]);
            case "faultAnew": return hall.faultAnew(a[0]);
            case "chances": return hall.chances(a[0]);
            case "prize": return hall.prize();
            case "far": return hall.far(a[0], a[1]);
            case "source": return hall.source(a[0]);
            default: return hall.hand(a[0]);
        }
    }

    private long ofPlain(String name, int[] a) {
        switch (name) {
            case "word": return plain.word(a[0], a[1], a[2]);
            case "call": return plain.call(a[0], a[1]);
            case "poet": return plain.poet();
            case "begin": return plain.begin(a[0], a[1], a[2], a[3]);
            case "seat": return plain.seat(a[0], a[1]);
            case "add": return plain.add(a[0]);
            case "clear": return plain.clear();
            case "offer": return plain.offer(a[0]);
            case "why": return plain.why();
            case "choose": return plain.choose(a[0]);
            case "mend": return plain.mend(a[0], a[1]);
            case "give": return plain.give(a[0], a[1], a[2]);
            case "copy": return plain.copy(a[0]);
            case "write": return plain.write(a[0], a[1], a[2], a[3]);
            case "hide": return plain.hide(a[0], a[1] == 1);
            case "links": return plain.links();
            case "offers": return plain.offers();
            case "ofLink": return plain.ofLink(a[0], a[1]);
            case "wordAt": return plain.wordAt(a[0], a[1]);
            case "faultAnew": return plain.faultAnew(a[0]);
            case "chances": return plain.chances(a[0]);
            case "prize": return plain.prize();
            case "far": return plain.far(a[0], a[1]);
            case "source": return plain.source(a[0]);
            default: return plain.hand(a[0]);
        }
    }
}

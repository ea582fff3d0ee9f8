/**
 * A hall in which poets make poems in turn: the words, the poets, one poem at a time with its
 * draft and offers, and the judges, copies and hidden links that belong to it.
 */
public final class RengaHall {
    public static final int NONE = -1;
    public static final int SPRING = 0, SUMMER = 1, AUTUMN = 2, WINTER = 3;
    public static final int MOON = 8, BLOSSOM = 9;

    private static final int MAX_WORDS = 40;
    private static final int MAX_SOUNDS = 12;
    private static final int ALL_SIGNS = 1023;
    private static final int SUBJECT_COUNT = 8;
    private static final int ALL_SUBJECTS = 255;

    private static final int MAX_POETS = 6;
    private static final int MIN_LINKS = 2;
    private static final int MAX_LINKS = 36;
    private static final int MAX_SPAN = 10;
    private static final int MIN_LINK_SOUNDS = 2;
    private static final int MAX_LINK_SOUNDS = 40;
    private static final int MAX_ROW = 6;
    private static final int MAX_OFFERS = 4;
    private static final int MAX_COPIES = 8;
    private static final int JUDGE_COUNT = 4;
    private static final int MAX_POINTS = 10;

    private static final int NO_SEAT = 0, MOON_SEAT = 1, BLOSSOM_SEAT = 2;

    private static final int NO_FAULT = 0;
    private static final int SOUNDS = 1, MIXED = 2, AGAIN = 3, TURN = 4;
    private static final int JOIN = 5, LEAVE = 6, LENGTH = 7, SEAT = 8;

    private static final int ASK_POET = 0, ASK_SEASON = 1, ASK_SIGNS = 2;
    private static final int ASK_SIZE = 3, ASK_RUN = 4, ASK_MENDED = 5;

    private static final int LIKE_WORD = 3;

    private final Stock stock;
    private final Poem poem;
    private final Scribe scribe;
    private final Verse draft;
    private final Verse[] offered;
    private final int[] offerers;
    private final Sheet[] sheets;
    // Kept only to be used again: they hold nothing from one call to the next.
    private final Verse trial;
    private final Means means;
    private int poetCount;
    private int offerCount;
    private int copyCount;
    private int latestCause;

    public RengaHall() {
        Stock words = new Stock();
        Poem links = new Poem();
        stock = words;
        poem = links;
        scribe = new Scribe(words, links);
        draft = new Verse();
        trial = new Verse();
        means = new Means();
        offerers = new int[MAX_OFFERS];
        offered = new Verse[MAX_OFFERS];
        for (int offer = 0; offer < MAX_OFFERS; offer++) {
            offered[offer] = new Verse();
        }
        sheets = new Sheet[MAX_COPIES];
        for (int copy = 0; copy < MAX_COPIES; copy++) {
            sheets[copy] = new Sheet();
        }
        latestCause = NONE;
    }

    // ---- words, poets

    public int word(int sounds, int season, int signs)
            throws IllegalArgumentException, IllegalStateException {
        needRange(sounds, 1, MAX_SOUNDS);
        needRange(season, NONE, WINTER);
        needRange(signs, 0, ALL_SIGNS);
        if (stock.isFull()) {
            throw new IllegalStateException("there are 40 words already");
        }
        return stock.put(sounds, season, signs);
    }

    public boolean call(int word, int other)
            throws IndexOutOfBoundsException, IllegalArgumentException {
        needWord(word);
        needWord(other);
        if (word == other) {
            throw new IllegalArgumentException("a word does not call itself to mind");
        }
        return stock.bind(word, other);
    }

    public int poet() throws IllegalStateException {
        if (poetCount >= MAX_POETS) {
            throw new IllegalStateException("there are 6 poets already");
        }
        poetCount++;
        return poetCount - 1;
    }

    // ---- poems

    public void begin(int links, int span, int first, int second)
            throws IllegalArgumentException, IllegalStateException {
        needRange(links, MIN_LINKS, MAX_LINKS);
        needRange(span, 0, MAX_SPAN);
        needRange(first, MIN_LINK_SOUNDS, MAX_LINK_SOUNDS);
        needRange(second, MIN_LINK_SOUNDS, MAX_LINK_SOUNDS);
        if (poem.isOpen() && poem.made > 0) {
            throw new IllegalStateException("the poem is not finished");
        }
        poem.restart(links, span, first, second);
        offerCount = 0;
        copyCount = 0;
    }

    public int seat(int link, int what)
            throws IndexOutOfBoundsException, IllegalArgumentException, IllegalStateException {
        if (link < poem.made || link >= poem.length) {
            throw new IndexOutOfBoundsException("there is no such link to come");
        }
        needRange(what, NO_SEAT, BLOSSOM_SEAT);
        needNoOffers();
        int before = poem.seatAt(link);
        poem.setSeat(link, what);
        return before;
    }

    public int add(int word) throws IndexOutOfBoundsException, IllegalStateException {
        needWord(word);
        if (draft.size >= MAX_ROW) {
            throw new IllegalStateException("the draft has 6 words already");
        }
        draft.append(word, stock);
        return draft.size;
    }

    public int clear() {
        int before = draft.size;
        draft.empty();
        return before;
    }

    public int offer(int poet) throws IndexOutOfBoundsException, IllegalStateException {
        needPoet(poet);
        if (!poem.isOpen()) {
            throw new IllegalStateException("there is no poem with a link to come");
        }
        if (offerCount >= MAX_OFFERS) {
            throw new IllegalStateException("4 offers are kept already");
        }
        int fault = scribe.firstFault(draft, poem.made, poet);
        if (fault != NO_FAULT) {
            latestCause = scribe.causeOf(fault, draft, poem.made, poet);
            return -fault;
        }
        offered[offerCount].take(draft, stock);
        offerers[offerCount] = poet;
        offerCount++;
        draft.empty();
        return offerCount - 1;
    }

    public int why() {
        return latestCause;
    }

    public int choose(int offer) throws IndexOutOfBoundsException {
        if (offer < 0 || offer >= offerCount) {
            throw new IndexOutOfBoundsException("there is no such offer");
        }
        poem.extend(offered[offer], offerers[offer], stock);
        offerCount = 0;
        return poem.made - 1;
    }

    public int mend(int place, int word) throws IndexOutOfBoundsException, IllegalStateException {
        int latest = poem.made - 1;
        needLink(latest);
        needPlace(latest, place);
        needWord(word);
        needNoOffers();
        trial.takeMended(poem.verses[latest], place, word, stock);
        int fault = scribe.firstFault(trial, latest, NONE);
        if (fault != NO_FAULT) {
            latestCause = scribe.causeOf(fault, trial, latest, NONE);
            return -fault;
        }
        poem.mendLatest(trial, stock);
        return 0;
    }

    // ---- judges, copies, hands

    public int give(int judge, int link, int points)
            throws IndexOutOfBoundsException, IllegalArgumentException {
        if (judge < 0 || judge >= JUDGE_COUNT) {
            throw new IndexOutOfBoundsException("there is no such judge");
        }
        needLink(link);
        needRange(points, 0, MAX_POINTS);
        int before = poem.points[judge][link];
        poem.points[judge][link] = points;
        return before;
    }

    public int copy(int of) throws IndexOutOfBoundsException, IllegalStateException {
        needText(of);
        needPoem();
        if (copyCount >= MAX_COPIES) {
            throw new IllegalStateException("there are 8 copies already");
        }
        fillSheet(sheets[copyCount], of);
        copyCount++;
        return copyCount - 1;
    }

    public int write(int copy, int link, int place, int word) throws IndexOutOfBoundsException {
        needCopy(copy);
        needWord(word);
        int before = textWord(copy, link, place);
        if (before == NONE) {
            throw new IndexOutOfBoundsException("the copy has no such link or place");
        }
        sheets[copy].put(link, place, word);
        return before;
    }

    public boolean hide(int link, boolean is) throws IndexOutOfBoundsException {
        needLink(link);
        boolean before = poem.hidden[link];
        poem.hidden[link] = is;
        return before;
    }

    // ---- what is asked

    public int links() {
        return poem.made;
    }

    public int offers() {
        return offerCount;
    }

    public int ofLink(int link, int what)
            throws IndexOutOfBoundsException, IllegalArgumentException {
        needLink(link);
        needRange(what, ASK_POET, ASK_MENDED);
        switch (what) {
            case ASK_POET:
                return poem.hidden[link] ? NONE : poem.makerAt(link);
            case ASK_SEASON:
                return poem.seasonAt(link);
            case ASK_SIGNS:
                return poem.signsAt(link);
            case ASK_SIZE:
                return poem.verses[link].size;
            case ASK_RUN:
                return poem.runAt(link);
            default:
                return poem.mended[link] ? 1 : 0;
        }
    }

    public int wordAt(int link, int place) throws IndexOutOfBoundsException {
        needLink(link);
        needPlace(link, place);
        return poem.wordOrNone(link, place);
    }

    public int faultAnew(int link) throws IndexOutOfBoundsException {
        needLink(link);
        return scribe.firstFault(poem.verses[link], link, poem.makerAt(link));
    }

    public int chances(int poet) throws IndexOutOfBoundsException {
        needPoet(poet);
        if (!poem.isOpen()) {
            return 0;
        }
        int count = 0;
        for (int first = 0; first < stock.count; first++) {
            count += chanceOf(first, NONE, poet);
            for (int second = 0; second < stock.count; second++) {
                count += chanceOf(first, second, poet);
            }
        }
        return count;
    }

    public int prize() {
        means.reset();
        for (int link = 0; link < poem.made; link++) {
            for (int judge = 0; judge < JUDGE_COUNT; judge++) {
                int points = poem.pointsOf(judge, link);
                if (points != NONE) {
                    means.enter(poem.makerAt(link), points);
                }
            }
        }
        return means.greatest();
    }

    public int far(int copy, int other) throws IndexOutOfBoundsException, IllegalStateException {
        needText(copy);
        needText(other);
        needPoem();
        return distance(copy, other);
    }

    public int source(int copy) throws IndexOutOfBoundsException {
        needCopy(copy);
        int source = NONE;
        int least = distance(copy, NONE);
        for (int other = 0; other < copyCount; other++) {
            int places = distance(copy, other);
            if (other != copy && places < least) {
                source = other;
                least = places;
            }
        }
        return source;
    }

    public int hand(int link) throws IndexOutOfBoundsException {
        needLink(link);
        means.reset();
        for (int other = 0; other < poem.made; other++) {
            if (other != link && !poem.hidden[other]) {
                means.enter(poem.makerAt(other), likeness(link, other));
            }
        }
        return means.greatest();
    }

    // ---- what arguments need

    private void needRange(int value, int least, int most) {
        if (value < least || value > most) {
            throw new IllegalArgumentException("an argument is out of its range");
        }
    }

    private void needWord(int word) {
        if (!stock.has(word)) {
            throw new IndexOutOfBoundsException("there is no such word");
        }
    }

    private void needPoet(int poet) {
        if (poet < 0 || poet >= poetCount) {
            throw new IndexOutOfBoundsException("there is no such poet");
        }
    }

    private void needLink(int link) {
        if (!poem.has(link)) {
            throw new IndexOutOfBoundsException("there is no such link");
        }
    }

    private void needPlace(int link, int place) {
        if (poem.wordOrNone(link, place) == NONE) {
            throw new IndexOutOfBoundsException("the link has no such place");
        }
    }

    private void needCopy(int copy) {
        if (copy < 0 || copy >= copyCount) {
            throw new IndexOutOfBoundsException("there is no such copy");
        }
    }

    private void needText(int text) {
        if (text != NONE) {
            needCopy(text);
        }
    }

    private void needPoem() {
        if (!poem.isBegun()) {
            throw new IllegalStateException("there is no poem");
        }
    }

    private void needNoOffers() {
        if (offerCount > 0) {
            throw new IllegalStateException("offers are kept");
        }
    }

    // ---- what calls are made of

    /** 1 if the poet could offer the row of the two words, or of the first alone; 0 if not. */
    private int chanceOf(int first, int second, int poet) {
        trial.empty();
        trial.append(first, stock);
        if (second != NONE) {
            trial.append(second, stock);
        }
        return scribe.firstFault(trial, poem.made, poet) == NO_FAULT ? 1 : 0;
    }

    private int likeness(int link, int other) {
        int words = Long.bitCount(poem.wordSetAt(link) & poem.wordSetAt(other));
        int signs = Integer.bitCount(poem.signsAt(link) & poem.signsAt(other));
        return LIKE_WORD * words + signs;
    }

    /** The word at a place of a text, a copy or, by NONE, the poem as it is; NONE without one. */
    private int textWord(int text, int link, int place) {
        if (text == NONE) {
            return poem.wordOrNone(link, place);
        }
        boolean isCopy = text >= 0 && text < copyCount;
        return isCopy ? sheets[text].wordOrNone(link, place) : NONE;
    }

    private void fillSheet(Sheet sheet, int of) {
        for (int link = 0; link < MAX_LINKS; link++) {
            for (int place = 0; place < MAX_ROW; place++) {
                sheet.put(link, place, textWord(of, link, place));
            }
        }
    }

    private int distance(int text, int other) {
        int places = 0;
        for (int link = 0; link < MAX_LINKS; link++) {
            for (int place = 0; place < MAX_ROW; place++) {
                if (textWord(text, link, place) != textWord(other, link, place)) {
                    places++;
                }
            }
        }
        return places;
    }

    /** The words that there are, and which of them call each other to mind. */
    private static final class Stock {
        private final int[] sounds = new int[MAX_WORDS];
        private final int[] seasons = new int[MAX_WORDS];
        private final int[] signs = new int[MAX_WORDS];
        private final long[] called = new long[MAX_WORDS];
        private int count;

        boolean has(int word) {
            return word >= 0 && word < count;
        }

        boolean isFull() {
            return count >= MAX_WORDS;
        }

        int put(int newSounds, int newSeason, int newSigns) {
            if (isFull()) {
                return NONE;
            }
            sounds[count] = newSounds;
            seasons[count] = newSeason;
            signs[count] = newSigns;
            count++;
            return count - 1;
        }

        /** Lets both call each other to mind; tells whether they did so already. */
        boolean bind(int word, int other) {
            if (!has(word) || !has(other)) {
                return false;
            }
            boolean before = (called[word] >> other & 1L) != 0;
            called[word] |= 1L << other;
            called[other] |= 1L << word;
            return before;
        }

        int soundsOf(int word) {
            return has(word) ? sounds[word] : 0;
        }

        int seasonOf(int word) {
            return has(word) ? seasons[word] : NONE;
        }

        int signsOf(int word) {
            return has(word) ? signs[word] : 0;
        }

        long calledBy(int word) {
            return has(word) ? called[word] : 0L;
        }
    }

    /** A row of words, and what follows from them: a draft, an offer or a link. */
    private static final class Verse {
        private final int[] words = new int[MAX_ROW];
        private int size;
        private int sounds;
        private int season = NONE;
        private int signs;
        private long wordSet;

        void empty() {
            size = 0;
            sounds = 0;
            season = NONE;
            signs = 0;
            wordSet = 0L;
        }

        void append(int word, Stock stock) {
            if (size >= MAX_ROW || !stock.has(word)) {
                return;
            }
            words[size] = word;
            size++;
            sounds += stock.soundsOf(word);
            if (season == NONE) {
                season = stock.seasonOf(word);
            }
            signs |= stock.signsOf(word);
            wordSet |= 1L << word;
        }

        void take(Verse other, Stock stock) {
            takeMended(other, NONE, NONE, stock);
        }

        /** Becomes the other row, but with the word at the place. */
        void takeMended(Verse other, int place, int word, Stock stock) {
            empty();
            for (int at = 0; at < other.size; at++) {
                append(at == place ? word : other.wordOrNone(at), stock);
            }
        }

        int wordOrNone(int place) {
            return place >= 0 && place < size && place < MAX_ROW ? words[place] : NONE;
        }
    }

    /** The one poem: its measure, its seats and its links. */
    private static final class Poem {
        private int length;
        private int span;
        private int evenSounds;
        private int oddSounds;
        private int made;
        private final int[] seats = new int[MAX_LINKS];
        private final Verse[] verses = new Verse[MAX_LINKS];
        private final int[] makers = new int[MAX_LINKS];
        private final boolean[] hidden = new boolean[MAX_LINKS];
        private final boolean[] mended = new boolean[MAX_LINKS];
        private final int[][] points = new int[JUDGE_COUNT][MAX_LINKS];

        Poem() {
            for (int link = 0; link < MAX_LINKS; link++) {
                verses[link] = new Verse();
            }
        }

        boolean isBegun() {
            return length > 0;
        }

        /** Whether a link is to come. */
        boolean isOpen() {
            return made < length;
        }

        boolean has(int link) {
            return link >= 0 && link < made;
        }

        void restart(int links, int newSpan, int first, int second) {
            length = links;
            span = newSpan;
            evenSounds = first;
            oddSounds = second;
            made = 0;
            for (int link = 0; link < MAX_LINKS; link++) {
                seats[link] = NO_SEAT;
            }
        }

        void extend(Verse verse, int maker, Stock stock) {
            if (made >= MAX_LINKS) {
                return;
            }
            verses[made].take(verse, stock);
            makers[made] = maker;
            hidden[made] = false;
            mended[made] = false;
            for (int judge = 0; judge < JUDGE_COUNT; judge++) {
                points[judge][made] = NONE;
            }
            made++;
        }

        void mendLatest(Verse verse, Stock stock) {
            if (!has(made - 1)) {
                return;
            }
            verses[made - 1].take(verse, stock);
            mended[made - 1] = true;
        }

        void setSeat(int link, int what) {
            if (link >= 0 && link < MAX_LINKS) {
                seats[link] = what;
            }
        }

        int seatAt(int link) {
            return link >= 0 && link < MAX_LINKS ? seats[link] : NO_SEAT;
        }

        int soundsAt(int link) {
            return (link & 1) == 0 ? evenSounds : oddSounds;
        }

        int makerAt(int link) {
            return has(link) ? makers[link] : NONE;
        }

        int seasonAt(int link) {
            return has(link) ? verses[link].season : NONE;
        }

        int signsAt(int link) {
            return has(link) ? verses[link].signs : 0;
        }

        long wordSetAt(int link) {
            return has(link) ? verses[link].wordSet : 0L;
        }

        int wordOrNone(int link, int place) {
            return has(link) ? verses[link].wordOrNone(place) : NONE;
        }

        int pointsOf(int judge, int link) {
            boolean isThere = judge >= 0 && judge < JUDGE_COUNT && has(link);
            return isThere ? points[judge][link] : NONE;
        }

        int runAt(int link) {
            int season = seasonAt(link);
            if (season == NONE) {
                return 0;
            }
            int run = 0;
            for (int at = link; at >= 0 && seasonAt(at) == season; at--) {
                run++;
            }
            return run;
        }
    }

    /** Looks for faults in a row of words that a poet offers as a link of the poem. */
    private static final class Scribe {
        private static final int LONG_SEASON_LEAST = 3, LONG_SEASON_MOST = 5;
        private static final int SHORT_SEASON_LEAST = 1, SHORT_SEASON_MOST = 3;
        private static final int SEASON_REST = 4;

        private final Stock stock;
        private final Poem poem;

        Scribe(Stock words, Poem links) {
            stock = words;
            poem = links;
        }

        /** The first fault; by NONE as the poet, TURN is not looked at. */
        int firstFault(Verse verse, int link, int poet) {
            for (int fault = SOUNDS; fault <= SEAT; fault++) {
                if (causeOf(fault, verse, link, poet) != NONE) {
                    return fault;
                }
            }
            return NO_FAULT;
        }

        /** The cause of the fault; NONE if the row does not have it. */
        int causeOf(int fault, Verse verse, int link, int poet) {
            switch (fault) {
                case SOUNDS:
                    return verse.sounds == poem.soundsAt(link) ? NONE : verse.sounds;
                case MIXED:
                    return unlikeSeasonPlace(verse);
                case AGAIN:
                    return wordAgainPlace(verse, link);
                case TURN:
                    return poet == poem.makerAt(link - 1) ? poet : NONE;
                case JOIN:
                    return link == 0 || joins(verse, link - 1) ? NONE : link - 1;
                case LEAVE:
                    return lowestSubject(verse.signs & poem.signsAt(link - 2));
                case LENGTH:
                    return wrongSeason(verse.season, link);
                default:
                    return wrongSeat(verse.signs, poem.seatAt(link));
            }
        }

        private int unlikeSeasonPlace(Verse verse) {
            for (int place = 0; place < verse.size; place++) {
                int season = stock.seasonOf(verse.wordOrNone(place));
                if (season != NONE && season != verse.season) {
                    return place;
                }
            }
            return NONE;
        }

        private int wordAgainPlace(Verse verse, int link) {
            long ahead = 0L;
            for (int other = link - poem.span; other < link; other++) {
                ahead |= poem.wordSetAt(other);
            }
            for (int place = 0; place < verse.size; place++) {
                long bit = 1L << verse.wordOrNone(place);
                if ((ahead & bit) != 0) {
                    return place;
                }
                ahead |= bit;
            }
            return NONE;
        }

        private boolean joins(Verse verse, int ahead) {
            if ((verse.signs & poem.signsAt(ahead) & ALL_SUBJECTS) != 0) {
                return true;
            }
            long words = poem.wordSetAt(ahead);
            for (int place = 0; place < verse.size; place++) {
                if ((stock.calledBy(verse.wordOrNone(place)) & words) != 0) {
                    return true;
                }
            }
            return false;
        }

        private int lowestSubject(int signs) {
            for (int subject = 0; subject < SUBJECT_COUNT; subject++) {
                if ((signs >> subject & 1) != 0) {
                    return subject;
                }
            }
            return NONE;
        }

        /** The season that is left too early, goes on too long or comes back too soon. */
        private int wrongSeason(int season, int link) {
            int ahead = poem.seasonAt(link - 1);
            int run = poem.runAt(link - 1);
            if (ahead != NONE && season != ahead && run < leastRun(ahead)) {
                return ahead;
            }
            if (ahead != NONE && season == ahead && run >= mostRun(ahead)) {
                return ahead;
            }
            if (season != NONE && season != ahead && isLately(season, link)) {
                return season;
            }
            return NONE;
        }

        private boolean isLately(int season, int link) {
            for (int other = link - SEASON_REST; other < link; other++) {
                if (poem.seasonAt(other) == season) {
                    return true;
                }
            }
            return false;
        }

        private boolean isLong(int season) {
            return season == SPRING || season == AUTUMN;
        }

        private int leastRun(int season) {
            return isLong(season) ? LONG_SEASON_LEAST : SHORT_SEASON_LEAST;
        }

        private int mostRun(int season) {
            return isLong(season) ? LONG_SEASON_MOST : SHORT_SEASON_MOST;
        }

        private int wrongSeat(int signs, int seat) {
            boolean hasMoon = (signs >> MOON & 1) != 0;
            boolean hasBlossom = (signs >> BLOSSOM & 1) != 0;
            if (hasMoon != (seat == MOON_SEAT)) {
                return MOON_SEAT;
            }
            return hasBlossom != (seat == BLOSSOM_SEAT) ? BLOSSOM_SEAT : NONE;
        }
    }

    /** A copy: the words at its places, NONE where it has none. */
    private static final class Sheet {
        private final int[][] words = new int[MAX_LINKS][MAX_ROW];

        void put(int link, int place, int word) {
            if (isOnSheet(link, place)) {
                words[link][place] = word;
            }
        }

        int wordOrNone(int link, int place) {
            return isOnSheet(link, place) ? words[link][place] : NONE;
        }

        private boolean isOnSheet(int link, int place) {
            return link >= 0 && link < MAX_LINKS && place >= 0 && place < MAX_ROW;
        }
    }

    /** Numbers for each poet, of which the means are compared. */
    private static final class Means {
        private final int[] sums = new int[MAX_POETS];
        private final int[] counts = new int[MAX_POETS];

        void reset() {
            for (int poet = 0; poet < MAX_POETS; poet++) {
                sums[poet] = 0;
                counts[poet] = 0;
            }
        }

        void enter(int poet, int number) {
            if (poet >= 0 && poet < MAX_POETS) {
                sums[poet] += number;
                counts[poet]++;
            }
        }

        /** The lowest poet with the greatest mean; NONE without any number. */
        int greatest() {
            int best = NONE;
            for (int poet = 0; poet < MAX_POETS; poet++) {
                if (counts[poet] > 0 && (best == NONE || isGreater(poet, best))) {
                    best = poet;
                }
            }
            return best;
        }

        // Multiplied out, for a quotient would be rounded.
        private boolean isGreater(int poet, int other) {
            return sums[poet] * counts[other] > sums[other] * counts[poet];
        }
    }
}

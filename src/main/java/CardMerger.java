/**
 * A merger of address books: cards with names and sets of values in several books, syncs that merge
 * what was changed here and there since the last one, cards that are linked and shown as one,
 * suggested pairs that can be turned down for good or for now, and edits of what is shown.
 */
public final class CardMerger {
    public static final int NONE = -1;
    public static final int PHONE = 0, MAIL = 1;
    public static final int MINE = 0, THEIRS = 1, BASE = 2;

    private static final int BOOKS = 3;
    private static final int MOST_CARDS = 24;
    private static final int NAMES = 32;
    private static final int VALUES = 30;
    private static final int VERSIONS = 3;
    private static final int KINDS = 2;

    private static final int PHONE_POINTS = 3;
    private static final int MAIL_POINTS = 2;
    private static final int NAME_POINTS = 2;
    private static final int TOP_SCORE = (PHONE_POINTS + MAIL_POINTS) * VALUES + NAME_POINTS;

    private static final int LOWER_WEIGHT = 100;

    private final Cards cards;
    private final Links links;
    private final Refusals refusals;
    private final int[] pairsOfScore;

    public CardMerger() {
        cards = new Cards();
        links = new Links();
        refusals = new Refusals();
        pairsOfScore = new int[TOP_SCORE + 1];
    }

    // ---- cards

    public int add(int book, int name)
            throws IndexOutOfBoundsException, IllegalArgumentException, IllegalStateException {
        checkBook(book);
        checkArgument(isName(name));
        if (cards.count >= MOST_CARDS) {
            throw new IllegalStateException("there are 24 cards");
        }
        return cards.append(book, name);
    }

    public boolean turn(int card, int version, int kind, int value)
            throws IndexOutOfBoundsException, IllegalArgumentException {
        checkCard(card);
        checkArgument(isChangeable(version) && isKind(kind) && isValue(value));
        int turned = cards.setOf(card, version, kind) ^ (1 << value);
        cards.putSet(card, version, kind, turned);
        return has(turned, value);
    }

    public int rename(int card, int version, int name)
            throws IndexOutOfBoundsException, IllegalArgumentException {
        checkCard(card);
        checkArgument(isChangeable(version) && isName(name));
        int before = cards.nameIn(card, version);
        cards.putName(card, version, name);
        return before;
    }

    public int sync(int book) throws IndexOutOfBoundsException {
        checkBook(book);
        int clashes = 0;
        for (int card = 0; card < cards.count; card++) {
            if (cards.isIn(card, book)) {
                if (cards.namesClash(card)) {
                    clashes++;
                }
                cards.mergeVersions(card);
            }
        }
        return clashes;
    }

    public int cards() {
        return cards.count;
    }

    public int values(int card, int version, int kind)
            throws IndexOutOfBoundsException, IllegalArgumentException {
        checkCard(card);
        checkArgument(isVersion(version) && isKind(kind));
        return cards.setOf(card, version, kind);
    }

    public int nameOf(int card, int version)
            throws IndexOutOfBoundsException, IllegalArgumentException {
        checkCard(card);
        checkArgument(isVersion(version));
        return cards.nameIn(card, version);
    }

    public int merged(int card, int kind)
            throws IndexOutOfBoundsException, IllegalArgumentException {
        checkCard(card);
        checkArgument(isKind(kind));
        return cards.mergedSet(card, kind);
    }

    public int mergedByValues(int card, int kind)
            throws IndexOutOfBoundsException, IllegalArgumentException {
        checkCard(card);
        checkArgument(isKind(kind));
        return cards.mergedSetByValues(card, kind);
    }

    public int unsynced(int book) throws IndexOutOfBoundsException {
        checkBook(book);
        int found = 0;
        for (int card = 0; card < cards.count; card++) {
            if (cards.isIn(card, book) && !cards.isSynced(card)) {
                found++;
            }
        }
        return found;
    }

    // ---- links

    public int link(int one, int other)
            throws IndexOutOfBoundsException, IllegalArgumentException, IllegalStateException {
        checkTwoCards(one, other);
        if (links.areLinked(one, other)) {
            throw new IllegalStateException("these two are linked");
        }
        links.connect(one, other);
        return Integer.bitCount(links.groupOf(one));
    }

    public boolean cut(int one, int other)
            throws IndexOutOfBoundsException, IllegalStateException {
        checkCard(one);
        checkCard(other);
        if (!links.areLinked(one, other)) {
            throw new IllegalStateException("these two are not linked");
        }
        links.disconnect(one, other);
        return links.areTogether(one, other);
    }

    public int group(int card) throws IndexOutOfBoundsException {
        checkCard(card);
        return links.groupOf(card);
    }

    public int groups() {
        int found = 0;
        for (int card = 0; card < cards.count; card++) {
            if (links.isLowestOfGroup(card)) {
                found++;
            }
        }
        return found;
    }

    public int preferred(int card) throws IndexOutOfBoundsException {
        checkCard(card);
        return cards.preferredOf(card, links.groupOf(card));
    }

    public int shown(int card, int kind)
            throws IndexOutOfBoundsException, IllegalArgumentException {
        checkCard(card);
        checkArgument(isKind(kind));
        return cards.mineOfAll(links.groupOf(card), kind);
    }

    public int edit(int card, int kind, int value)
            throws IndexOutOfBoundsException, IllegalArgumentException {
        checkCard(card);
        checkArgument(isKind(kind) && isValue(value));
        int group = links.groupOf(card);
        if (has(cards.mineOfAll(group, kind), value)) {
            return takeOutOfMine(group, kind, value);
        }
        int chosen = cards.preferredOf(card, group);
        cards.putSet(chosen, MINE, kind, cards.setOf(chosen, MINE, kind) | (1 << value));
        return 1 << chosen;
    }

    // ---- pairs

    public int score(int one, int other)
            throws IndexOutOfBoundsException, IllegalArgumentException {
        checkTwoCards(one, other);
        return scoreOf(one, other);
    }

    public int pairs() {
        return tallyPairs();
    }

    public int pairAt(int place) throws IndexOutOfBoundsException {
        int found = tallyPairs();
        if (place < 0 || place >= found) {
            throw new IndexOutOfBoundsException("no such place");
        }
        int rest = place;
        int score = TOP_SCORE;
        while (score > 0 && rest >= pairsOfScore[score]) {
            rest -= pairsOfScore[score];
            score--;
        }
        return pairOfScore(score, rest);
    }

    public int turnDown(int one, int other, boolean forGood)
            throws IndexOutOfBoundsException, IllegalArgumentException, IllegalStateException {
        checkTwoCards(one, other);
        if (suggestedScore(one, other) == 0) {
            throw new IllegalStateException("they are no suggested pair");
        }
        if (forGood) {
            refusals.refuseForGood(one, other);
        } else {
            refusals.refuseForNow(one, other, cards.mineChangesOf(one, other));
        }
        return tallyPairs();
    }

    // ---- checks of arguments

    private void checkBook(int book) {
        if (book < 0 || book >= BOOKS) {
            throw new IndexOutOfBoundsException("no such book");
        }
    }

    private void checkCard(int card) {
        if (card < 0 || card >= cards.count) {
            throw new IndexOutOfBoundsException("no such card");
        }
    }

    private void checkTwoCards(int one, int other) {
        checkCard(one);
        checkCard(other);
        checkArgument(one != other);
    }

    private static void checkArgument(boolean fits) {
        if (!fits) {
            throw new IllegalArgumentException("an argument is out of its range");
        }
    }

    private static boolean isName(int name) {
        return name >= 0 && name < NAMES;
    }

    private static boolean isValue(int value) {
        return value >= 0 && value < VALUES;
    }

    private static boolean isKind(int kind) {
        return kind == PHONE || kind == MAIL;
    }

    private static boolean isChangeable(int version) {
        return version == MINE || version == THEIRS;
    }

    private static boolean isVersion(int version) {
        return isChangeable(version) || version == BASE;
    }

    // ---- sets as bits

    private static boolean has(int set, int member) {
        return (set & (1 << member)) != 0;
    }

    // ---- steps of the calls

    private int takeOutOfMine(int group, int kind, int value) {
        int changed = 0;
        for (int card = 0; card < cards.count; card++) {
            int mine = cards.setOf(card, MINE, kind);
            if (has(group, card) && has(mine, value)) {
                cards.putSet(card, MINE, kind, mine & ~(1 << value));
                changed |= 1 << card;
            }
        }
        return changed;
    }

    private int scoreOf(int one, int other) {
        if (links.areTogether(one, other)) {
            return 0;
        }
        int points = PHONE_POINTS * cards.countShared(one, other, PHONE)
                + MAIL_POINTS * cards.countShared(one, other, MAIL);
        boolean sameName = cards.nameIn(one, MINE) == cards.nameIn(other, MINE);
        return sameName ? points + NAME_POINTS : points;
    }

    /** The score of a suggested pair; 0 if the two cards are none. */
    private int suggestedScore(int one, int other) {
        if (refusals.stands(one, other, cards.mineChangesOf(one, other))) {
            return 0;
        }
        return scoreOf(one, other);
    }

    /** Counts the suggested pairs, and leaves in pairsOfScore how many there are of each score. */
    private int tallyPairs() {
        for (int score = 0; score <= TOP_SCORE; score++) {
            pairsOfScore[score] = 0;
        }
        int found = 0;
        for (int lower = 0; lower < cards.count; lower++) {
            for (int upper = lower + 1; upper < cards.count; upper++) {
                int score = suggestedScore(lower, upper);
                if (score > 0 && score <= TOP_SCORE) {
                    pairsOfScore[score]++;
                    found++;
                }
            }
        }
        return found;
    }

    /** The pair at a place among those of one score, which stand in the order of their cards. */
    private int pairOfScore(int score, int place) {
        int rest = place;
        for (int lower = 0; lower < cards.count; lower++) {
            for (int upper = lower + 1; upper < cards.count; upper++) {
                if (suggestedScore(lower, upper) == score) {
                    if (rest == 0) {
                        return LOWER_WEIGHT * lower + upper;
                    }
                    rest--;
                }
            }
        }
        return NONE;
    }

    /** The cards: the book of each, and the name and the sets of values of its versions. */
    private static final class Cards {
        private final int[] books;
        private final int[][] names;
        private final int[][] sets;
        // Counts the changes of MINE, so that a change that was taken back is still seen as one.
        private final int[] mineChanges;
        private int count;

        Cards() {
            books = new int[MOST_CARDS];
            names = new int[VERSIONS][MOST_CARDS];
            sets = new int[VERSIONS * KINDS][MOST_CARDS];
            mineChanges = new int[MOST_CARDS];
            count = 0;
        }

        int append(int book, int name) {
            int card = count;
            books[card] = book;
            for (int version = 0; version < VERSIONS; version++) {
                names[version][card] = name;
            }
            count++;
            return card;
        }

        boolean isIn(int card, int book) {
            return books[card] == book;
        }

        int nameIn(int card, int version) {
            return names[version][card];
        }

        int setOf(int card, int version, int kind) {
            return sets[version * KINDS + kind][card];
        }

        void putName(int card, int version, int name) {
            if (version == MINE && names[version][card] != name) {
                mineChanges[card]++;
            }
            names[version][card] = name;
        }

        void putSet(int card, int version, int kind, int set) {
            if (version == MINE && setOf(card, version, kind) != set) {
                mineChanges[card]++;
            }
            sets[version * KINDS + kind][card] = set;
        }

        /** Grows with every change of MINE of one of the two cards. */
        int mineChangesOf(int one, int other) {
            return mineChanges[one] + mineChanges[other];
        }

        int mergedSet(int card, int kind) {
            int mine = setOf(card, MINE, kind);
            int theirs = setOf(card, THEIRS, kind);
            int base = setOf(card, BASE, kind);
            return (mine & theirs) | ((mine ^ theirs) & ~base);
        }

        int mergedSetByValues(int card, int kind) {
            int mine = setOf(card, MINE, kind);
            int theirs = setOf(card, THEIRS, kind);
            int base = setOf(card, BASE, kind);
            int merged = 0;
            for (int value = 0; value < VALUES; value++) {
                boolean inMine = has(mine, value);
                boolean inTheirs = has(theirs, value);
                boolean inBase = has(base, value);
                boolean added = !inBase && (inMine || inTheirs);
                boolean takenAway = inBase && (!inMine || !inTheirs);
                if (added || (inBase && !takenAway)) {
                    merged |= 1 << value;
                }
            }
            return merged;
        }

        int mergedName(int card) {
            int mine = nameIn(card, MINE);
            return mine == nameIn(card, BASE) ? nameIn(card, THEIRS) : mine;
        }

        boolean namesClash(int card) {
            int mine = nameIn(card, MINE);
            int theirs = nameIn(card, THEIRS);
            int base = nameIn(card, BASE);
            return mine != theirs && mine != base && theirs != base;
        }

        void mergeVersions(int card) {
            int name = mergedName(card);
            int phones = mergedSet(card, PHONE);
            int mails = mergedSet(card, MAIL);
            for (int version = 0; version < VERSIONS; version++) {
                putName(card, version, name);
                putSet(card, version, PHONE, phones);
                putSet(card, version, MAIL, mails);
            }
        }

        boolean isSynced(int card) {
            int name = mergedName(card);
            int phones = mergedSet(card, PHONE);
            int mails = mergedSet(card, MAIL);
            for (int version = 0; version < VERSIONS; version++) {
                if (nameIn(card, version) != name
                        || setOf(card, version, PHONE) != phones
                        || setOf(card, version, MAIL) != mails) {
                    return false;
                }
            }
            return true;
        }

        int countShared(int one, int other, int kind) {
            return Integer.bitCount(setOf(one, MINE, kind) & setOf(other, MINE, kind));
        }

        int preferredOf(int member, int group) {
            int best = member;
            for (int card = 0; card < count; card++) {
                if (has(group, card) && isAhead(card, best)) {
                    best = card;
                }
            }
            return best;
        }

        private boolean isAhead(int one, int other) {
            return books[one] < books[other] || (books[one] == books[other] && one < other);
        }

        int mineOfAll(int group, int kind) {
            int all = 0;
            for (int card = 0; card < count; card++) {
                if (has(group, card)) {
                    all |= setOf(card, MINE, kind);
                }
            }
            return all;
        }
    }

    /** The links of cards, and the groups that they make; sets of cards are bits. */
    private static final class Links {
        private final int[] linked;
        private final int[] groups;

        Links() {
            linked = new int[MOST_CARDS];
            groups = new int[MOST_CARDS];
            for (int card = 0; card < MOST_CARDS; card++) {
                groups[card] = 1 << card;
            }
        }

        boolean areLinked(int one, int other) {
            return has(linked[one], other);
        }

        boolean areTogether(int one, int other) {
            return has(groups[one], other);
        }

        int groupOf(int card) {
            return groups[card];
        }

        boolean isLowestOfGroup(int card) {
            int below = (1 << card) - 1;
            return (groups[card] & below) == 0;
        }

        void connect(int one, int other) {
            linked[one] |= 1 << other;
            linked[other] |= 1 << one;
            putGroup(groups[one] | groups[other]);
        }

        void disconnect(int one, int other) {
            linked[one] &= ~(1 << other);
            linked[other] &= ~(1 << one);
            // A cut leaves at most two groups, one around each of the two cards.
            putGroup(reachedFrom(one));
            putGroup(reachedFrom(other));
        }

        private void putGroup(int group) {
            for (int card = 0; card < MOST_CARDS; card++) {
                if (has(group, card)) {
                    groups[card] = group;
                }
            }
        }

        private int reachedFrom(int card) {
            int reached = 1 << card;
            // The longest way from card to card has fewer steps than there are cards.
            for (int step = 0; step < MOST_CARDS; step++) {
                reached |= linkedToAny(reached);
            }
            return reached;
        }

        private int linkedToAny(int set) {
            int found = 0;
            for (int card = 0; card < MOST_CARDS; card++) {
                if (has(set, card)) {
                    found |= linked[card];
                }
            }
            return found;
        }
    }

    /** Which pairs were turned down, for good or for now. */
    private static final class Refusals {
        private final int[] forGood;
        // The changes of MINE that the two cards had when they were turned down for now.
        private final int[][] changesThen;

        Refusals() {
            forGood = new int[MOST_CARDS];
            changesThen = new int[MOST_CARDS][MOST_CARDS];
            for (int one = 0; one < MOST_CARDS; one++) {
                for (int other = 0; other < MOST_CARDS; other++) {
                    changesThen[one][other] = NONE;
                }
            }
        }

        void refuseForGood(int one, int other) {
            forGood[one] |= 1 << other;
            forGood[other] |= 1 << one;
        }

        void refuseForNow(int one, int other, int changes) {
            changesThen[one][other] = changes;
            changesThen[other][one] = changes;
        }

        boolean stands(int one, int other, int changes) {
            return has(forGood[one], other) || changesThen[one][other] == changes;
        }
    }
}

/** Objects to begin a test with, and all that can be asked of them. */
final class Scenes {
    static final int FULL = 24;

    private static final int PHONE = CardMerger.PHONE, MAIL = CardMerger.MAIL;
    private static final int MINE = CardMerger.MINE, THEIRS = CardMerger.THEIRS;

    private Scenes() {
    }

    /**
     * Five cards. Linked: 0 with 1, 1 with 2. Suggested: 0, 2 and 3 with 4, and 2 with 3; turned down: 0 with 3
     * for good, 1 with 3 for now; without a score: 1 with 4. The cards 0 and 4 wait for a sync, names of 4 clash.
     */
    static CardMerger five() {
        CardMerger x = new CardMerger();
        int[] books = {2, 1, 1, 0, 2};
        int[] names = {7, 7, 8, 7, 9};
        for (int card = 0; card < 5; card++) {
            x.add(books[card], names[card]);
        }
        for (int card : new int[] {0, 2, 3, 4}) {
            x.turn(card, MINE, PHONE, 0);
        }
        x.turn(2, MINE, MAIL, 29);
        x.turn(4, MINE, MAIL, 29);
        x.sync(0);
        x.sync(1);
        x.sync(2);
        x.link(0, 1);
        x.link(1, 2);
        x.turn(0, THEIRS, PHONE, 0);
        x.rename(4, MINE, 4);
        x.rename(4, THEIRS, 3);
        x.turnDown(0, 3, true);
        x.turnDown(1, 3, false);
        return x;
    }

    /** As many cards as there can be, in all books, none like another one. */
    static CardMerger full() {
        CardMerger x = new CardMerger();
        for (int card = 0; card < FULL; card++) {
            x.add(card % 3, card);
        }
        return x;
    }

    /** As many cards as there can be, all of one book and with one name. */
    static CardMerger fullOfOneName(int book, int name) {
        CardMerger x = new CardMerger();
        for (int card = 0; card < FULL; card++) {
            x.add(book, name);
        }
        return x;
    }

    /** What the versions of all cards hold, and how many cards, groups and pairs there are. */
    static String counted(CardMerger x) {
        StringBuilder told = new StringBuilder();
        for (int card = 0; card < x.cards(); card++) {
            told.append("card ").append(card);
            for (int version = 0; version < 3; version++) {
                told.append(' ').append(x.nameOf(card, version));
                told.append('/').append(x.values(card, version, PHONE));
                told.append('/').append(x.values(card, version, MAIL));
            }
            told.append("; ");
        }
        told.append(x.cards()).append(" cards, ").append(x.groups()).append(" groups, ");
        return told.append(x.pairs()).append(" pairs").toString();
    }

    /** All that can be asked of an object: too many calls for one that is full. */
    static String told(CardMerger x) {
        StringBuilder told = new StringBuilder(counted(x)).append("; unsynced");
        for (int book = 0; book < 3; book++) {
            told.append(' ').append(x.unsynced(book));
        }
        int cards = x.cards();
        for (int card = 0; card < cards; card++) {
            told.append("; of ").append(card).append(": ").append(x.group(card));
            told.append(' ').append(x.preferred(card));
            for (int kind = PHONE; kind <= MAIL; kind++) {
                told.append(' ').append(x.shown(card, kind));
                told.append(' ').append(x.merged(card, kind));
                told.append(' ').append(x.mergedByValues(card, kind));
            }
            for (int other = card + 1; other < cards; other++) {
                told.append(' ').append(x.score(card, other));
            }
        }
        int pairs = x.pairs();
        for (int place = 0; place < pairs; place++) {
            told.append("; pair ").append(x.pairAt(place));
        }
        return told.toString();
    }

    /** Goes on with the object of five() so that what it holds without showing it comes to light. */
    static String goOn(CardMerger x) {
        StringBuilder told = new StringBuilder();
        told.append(x.cut(0, 1)).append(' ').append(x.cut(1, 2)).append(' ').append(x.pairs()).append(' ');
        x.turn(3, MINE, MAIL, 1);
        x.rename(1, MINE, 4);
        for (int book = 0; book < 3; book++) {
            told.append(x.sync(book)).append(' ');
        }
        told.append(x.add(0, 31)).append(' ');
        return told.append(told(x)).toString();
    }
}

/** Promises 1 to 11: a new object, cards, their versions and syncs. */
public final class CardsTest {
    private static final int PHONE = CardMerger.PHONE, MAIL = CardMerger.MAIL;
    private static final int MINE = CardMerger.MINE, THEIRS = CardMerger.THEIRS, BASE = CardMerger.BASE;
    private static final int[] NO_CARD_OF_TWO = {-1, 2, 24, 72, Integer.MAX_VALUE, Integer.MIN_VALUE};
    private static final int[] NO_BOOK = {-1, 3, 24, Integer.MAX_VALUE, Integer.MIN_VALUE};
    private static final int[] NO_KIND = {-1, 2, Integer.MAX_VALUE, Integer.MIN_VALUE};
    private static final int[] NO_VERSION = {-1, 3, Integer.MAX_VALUE, Integer.MIN_VALUE};
    private static final int[] NO_VALUE = {-1, 30, 31, 32, Integer.MAX_VALUE, Integer.MIN_VALUE};
    private static final int[] NO_NAME = {-1, 32, Integer.MAX_VALUE, Integer.MIN_VALUE};

    public static void main(String[] args) {
        promise1NewObject();
        promise2Add();
        promise2AddRefused();
        promise3Turn();
        promise3TurnRefused();
        promise4Rename();
        promise4RenameRefused();
        promise5SyncOfSets();
        promise5SyncOfNames();
        promise5SyncOfOneBook();
        promise6Cards();
        promise7Values();
        promise8NameOf();
        promise9And10Merged();
        promise9And10MergedRefused();
        promise11Unsynced();
        Checks.end("CardsTest");
    }

    private static CardMerger twoCards() {
        CardMerger x = new CardMerger();
        x.add(0, 4);
        x.add(2, 31);
        return x;
    }

    private static void promise1NewObject() {
        CardMerger x = new CardMerger();
        Checks.answers("1: cards of a new object", 0, () -> x.cards());
        Checks.answers("1: groups of a new object", 0, () -> x.groups());
        Checks.answers("1: pairs of a new object", 0, () -> x.pairs());
        Checks.refuses("1: card 0 of a new object", Checks.PLACE, () -> x.nameOf(0, MINE));
        Checks.answers("1: nothing to sync", 0, () -> x.sync(0) + x.unsynced(0));
        CardMerger y = new CardMerger();
        y.add(0, 0);
        Checks.answers("1: objects do not share their cards", 0, () -> x.cards());
    }

    private static void promise2Add() {
        CardMerger x = new CardMerger();
        for (int card = 0; card < 24; card++) {
            int number = card;
            int name = card == 0 ? 31 : card;
            Checks.answers("2: number of a card", card, () -> x.add(number % 3, name));
            for (int version = MINE; version <= BASE; version++) {
                int seen = version;
                Checks.answers("2: name of a new card", name, () -> x.nameOf(number, seen));
                Checks.answers("2: phones of a new card", 0, () -> x.values(number, seen, PHONE));
                Checks.answers("2: mails of a new card", 0, () -> x.values(number, seen, MAIL));
            }
        }
        Checks.answers("2: a new card is its own group", 24, () -> x.groups());
        Checks.refuses("2: a 25th card", Checks.STATE, () -> x.add(0, 0));
        Checks.refuses("2: a 25th card without book", Checks.PLACE, () -> x.add(3, 0));
        Checks.refuses("2: a 25th card without name", Checks.ARGUMENT, () -> x.add(2, 32));
        Checks.answers("2: cards after the refusals", 24, () -> x.cards());
    }

    private static void promise2AddRefused() {
        CardMerger x = new CardMerger();
        for (int book : NO_BOOK) {
            Checks.refuses("2: book " + book, Checks.PLACE, () -> x.add(book, 0));
            Checks.refuses("2: book before name", Checks.PLACE, () -> x.add(book, 32));
        }
        for (int name : NO_NAME) {
            Checks.refuses("2: name " + name, Checks.ARGUMENT, () -> x.add(0, name));
        }
        Checks.answers("2: a refused card is not added", 0, () -> x.cards());
        Checks.answers("2: the greatest book and name", 0, () -> x.add(2, 31));
        Checks.answers("2: the lowest book and name", 1, () -> x.add(0, 0));
    }

    private static void promise3Turn() {
        CardMerger x = twoCards();
        Checks.holds("3: a value comes", true, () -> x.turn(0, MINE, PHONE, 29));
        Checks.holds("3: another value comes", true, () -> x.turn(0, MINE, PHONE, 0));
        Checks.answers("3: both are there", Checks.set(0, 29), () -> x.values(0, MINE, PHONE));
        Checks.answers("3: not in THEIRS", 0, () -> x.values(0, THEIRS, PHONE));
        Checks.answers("3: not in BASE", 0, () -> x.values(0, BASE, PHONE));
        Checks.answers("3: not in the mails", 0, () -> x.values(0, MINE, MAIL));
        Checks.answers("3: not in another card", 0, () -> x.values(1, MINE, PHONE));
        Checks.holds("3: a value goes", false, () -> x.turn(0, MINE, PHONE, 29));
        Checks.answers("3: the other one stays", Checks.set(0), () -> x.values(0, MINE, PHONE));
        Checks.holds("3: a mail comes to THEIRS", true, () -> x.turn(1, THEIRS, MAIL, 7));
        Checks.answers("3: the mail is in THEIRS", Checks.set(7), () -> x.values(1, THEIRS, MAIL));
        Checks.answers("3: the mail is not in MINE", 0, () -> x.values(1, MINE, MAIL));
    }

    private static void promise3TurnRefused() {
        CardMerger x = twoCards();
        for (int card : NO_CARD_OF_TWO) {
            Checks.refuses("3: card " + card, Checks.PLACE, () -> x.turn(card, MINE, PHONE, 0) ? 1 : 0);
            Checks.refuses("3: card before version", Checks.PLACE, () -> x.turn(card, BASE, 2, 30) ? 1 : 0);
        }
        Checks.refuses("3: BASE", Checks.ARGUMENT, () -> x.turn(0, BASE, PHONE, 0) ? 1 : 0);
        for (int version : NO_VERSION) {
            Checks.refuses("3: version " + version, Checks.ARGUMENT, () -> x.turn(0, version, PHONE, 0) ? 1 : 0);
        }
        for (int kind : NO_KIND) {
            Checks.refuses("3: kind " + kind, Checks.ARGUMENT, () -> x.turn(0, MINE, kind, 0) ? 1 : 0);
        }
        for (int value : NO_VALUE) {
            Checks.refuses("3: value " + value, Checks.ARGUMENT, () -> x.turn(0, THEIRS, MAIL, value) ? 1 : 0);
        }
        Checks.answers("3: a refused turn changes nothing", 0, () -> x.unsynced(0) + x.unsynced(2));
    }

    private static void promise4Rename() {
        CardMerger x = twoCards();
        Checks.answers("4: the name before", 4, () -> x.rename(0, MINE, 0));
        Checks.answers("4: the name between", 0, () -> x.rename(0, MINE, 31));
        Checks.answers("4: the name now", 31, () -> x.nameOf(0, MINE));
        Checks.answers("4: THEIRS keeps its name", 4, () -> x.nameOf(0, THEIRS));
        Checks.answers("4: THEIRS before", 4, () -> x.rename(0, THEIRS, 9));
        Checks.answers("4: THEIRS now", 9, () -> x.nameOf(0, THEIRS));
        Checks.answers("4: BASE keeps its name", 4, () -> x.nameOf(0, BASE));
        Checks.answers("4: MINE keeps its name", 31, () -> x.nameOf(0, MINE));
        Checks.answers("4: the same name again", 9, () -> x.rename(0, THEIRS, 9));
        Checks.answers("4: another card keeps its name", 31, () -> x.nameOf(1, THEIRS));
    }

    private static void promise4RenameRefused() {
        CardMerger x = twoCards();
        for (int card : NO_CARD_OF_TWO) {
            Checks.refuses("4: card " + card, Checks.PLACE, () -> x.rename(card, MINE, 0));
            Checks.refuses("4: card before version", Checks.PLACE, () -> x.rename(card, BASE, 32));
        }
        Checks.refuses("4: BASE", Checks.ARGUMENT, () -> x.rename(0, BASE, 0));
        for (int version : NO_VERSION) {
            Checks.refuses("4: version " + version, Checks.ARGUMENT, () -> x.rename(0, version, 0));
        }
        for (int name : NO_NAME) {
            Checks.refuses("4: name " + name, Checks.ARGUMENT, () -> x.rename(0, MINE, name));
        }
        Checks.answers("4: a refused rename changes nothing", 4, () -> x.nameOf(0, MINE));
    }

    /** A card of which every way to be in MINE, THEIRS and BASE has one value: bit 0 MINE, 1 THEIRS, 2 BASE. */
    private static CardMerger allWays(int kind) {
        CardMerger x = new CardMerger();
        x.add(1, 0);
        for (int way = 4; way < 8; way++) {
            x.turn(0, MINE, kind, way);
        }
        x.sync(1);
        for (int way = 0; way < 8; way++) {
            boolean inBase = way >= 4;
            if (((way & 1) != 0) != inBase) {
                x.turn(0, MINE, kind, way);
            }
            if (((way & 2) != 0) != inBase) {
                x.turn(0, THEIRS, kind, way);
            }
        }
        return x;
    }

    private static void promise5SyncOfSets() {
        for (int kind = PHONE; kind <= MAIL; kind++) {
            int of = kind;
            CardMerger x = allWays(kind);
            Checks.answers("5: MINE before", Checks.set(1, 3, 5, 7), () -> x.values(0, MINE, of));
            Checks.answers("5: THEIRS before", Checks.set(2, 3, 6, 7), () -> x.values(0, THEIRS, of));
            Checks.answers("5: BASE before", Checks.set(4, 5, 6, 7), () -> x.values(0, BASE, of));
            Checks.answers("5: values do not clash", 0, () -> x.sync(1));
            for (int version = MINE; version <= BASE; version++) {
                int seen = version;
                Checks.answers("5: merged set", Checks.set(1, 2, 3, 7), () -> x.values(0, seen, of));
                Checks.answers("5: other kind", 0, () -> x.values(0, seen, 1 - of));
            }
        }
    }

    private static void checkSyncOfNames(int mine, int theirs, int due, int clashes) {
        CardMerger x = new CardMerger();
        x.add(0, 5);
        x.rename(0, MINE, mine);
        x.rename(0, THEIRS, theirs);
        Checks.answers("5: clashes", clashes, () -> x.sync(0));
        for (int version = MINE; version <= BASE; version++) {
            int seen = version;
            Checks.answers("5: merged name of " + mine + " and " + theirs, due, () -> x.nameOf(0, seen));
        }
        Checks.answers("5: no clash again", 0, () -> x.sync(0));
    }

    private static void promise5SyncOfNames() {
        checkSyncOfNames(5, 5, 5, 0);
        checkSyncOfNames(6, 5, 6, 0);
        checkSyncOfNames(5, 7, 7, 0);
        checkSyncOfNames(8, 8, 8, 0);
        checkSyncOfNames(6, 7, 6, 1);
        checkSyncOfNames(0, 31, 0, 1);
    }

    private static void promise5SyncOfOneBook() {
        CardMerger x = new CardMerger();
        for (int card = 0; card < 6; card++) {
            x.add(card % 2, 0);
            x.rename(card, MINE, 1);
            x.rename(card, THEIRS, card == 4 ? 1 : 2);
        }
        Checks.answers("5: a book without cards", 0, () -> x.sync(2));
        Checks.answers("5: two of three clash", 2, () -> x.sync(0));
        Checks.answers("5: another book is not synced", 0, () -> x.nameOf(1, BASE));
        Checks.answers("5: the last of the book is synced", 1, () -> x.nameOf(4, BASE));
        Checks.answers("5: all three clash", 3, () -> x.sync(1));
        for (int book : NO_BOOK) {
            Checks.refuses("5: book " + book, Checks.PLACE, () -> x.sync(book));
        }
    }

    private static void promise6Cards() {
        CardMerger x = new CardMerger();
        for (int card = 1; card <= 24; card++) {
            int due = card;
            x.add(card % 3, 0);
            Checks.answers("6: cards", due, () -> x.cards());
        }
        x.link(0, 1);
        x.sync(0);
        Checks.answers("6: linked cards are still two", 24, () -> x.cards());
    }

    private static void promise7Values() {
        CardMerger x = twoCards();
        x.turn(1, MINE, PHONE, 1);
        x.turn(1, THEIRS, PHONE, 2);
        x.turn(1, MINE, MAIL, 3);
        x.sync(2);
        x.turn(1, MINE, PHONE, 4);
        x.turn(1, THEIRS, MAIL, 5);
        Checks.answers("7: MINE, phones", Checks.set(1, 2, 4), () -> x.values(1, MINE, PHONE));
        Checks.answers("7: THEIRS, phones", Checks.set(1, 2), () -> x.values(1, THEIRS, PHONE));
        Checks.answers("7: BASE, phones", Checks.set(1, 2), () -> x.values(1, BASE, PHONE));
        Checks.answers("7: MINE, mails", Checks.set(3), () -> x.values(1, MINE, MAIL));
        Checks.answers("7: THEIRS, mails", Checks.set(3, 5), () -> x.values(1, THEIRS, MAIL));
        Checks.answers("7: BASE, mails", Checks.set(3), () -> x.values(1, BASE, MAIL));
        for (int card : NO_CARD_OF_TWO) {
            Checks.refuses("7: card " + card, Checks.PLACE, () -> x.values(card, MINE, PHONE));
            Checks.refuses("7: card before version", Checks.PLACE, () -> x.values(card, 3, 2));
        }
        for (int version : NO_VERSION) {
            Checks.refuses("7: version " + version, Checks.ARGUMENT, () -> x.values(0, version, PHONE));
        }
        for (int kind : NO_KIND) {
            Checks.refuses("7: kind " + kind, Checks.ARGUMENT, () -> x.values(0, BASE, kind));
        }
    }

    private static void promise8NameOf() {
        CardMerger x = twoCards();
        x.rename(0, MINE, 1);
        x.rename(0, THEIRS, 2);
        Checks.answers("8: MINE", 1, () -> x.nameOf(0, MINE));
        Checks.answers("8: THEIRS", 2, () -> x.nameOf(0, THEIRS));
        Checks.answers("8: BASE", 4, () -> x.nameOf(0, BASE));
        Checks.answers("8: another card", 31, () -> x.nameOf(1, BASE));
        for (int card : NO_CARD_OF_TWO) {
            Checks.refuses("8: card " + card, Checks.PLACE, () -> x.nameOf(card, MINE));
            Checks.refuses("8: card before version", Checks.PLACE, () -> x.nameOf(card, 3));
        }
        for (int version : NO_VERSION) {
            Checks.refuses("8: version " + version, Checks.ARGUMENT, () -> x.nameOf(0, version));
        }
    }

    private static void promise9And10Merged() {
        for (int kind = PHONE; kind <= MAIL; kind++) {
            int of = kind;
            CardMerger x = allWays(kind);
            Checks.answers("9: merged", Checks.set(1, 2, 3, 7), () -> x.merged(0, of));
            Checks.answers("10: mergedByValues", Checks.set(1, 2, 3, 7), () -> x.mergedByValues(0, of));
            Checks.answers("9: merged of the other kind", 0, () -> x.merged(0, 1 - of));
            Checks.answers("10: mergedByValues of the other kind", 0, () -> x.mergedByValues(0, 1 - of));
            Checks.answers("9: asking does not sync", Checks.set(1, 3, 5, 7), () -> x.values(0, MINE, of));
            x.turn(0, THEIRS, of, 0);
            x.turn(0, MINE, of, 29);
            Checks.answers("9: merged at the edges", Checks.set(0, 1, 2, 3, 7, 29), () -> x.merged(0, of));
            Checks.answers("10: at the edges", Checks.set(0, 1, 2, 3, 7, 29), () -> x.mergedByValues(0, of));
            x.sync(1);
            Checks.answers("9: merged after a sync", Checks.set(0, 1, 2, 3, 7, 29), () -> x.merged(0, of));
            Checks.answers("10: after a sync", Checks.set(0, 1, 2, 3, 7, 29), () -> x.mergedByValues(0, of));
        }
    }

    private static void promise9And10MergedRefused() {
        CardMerger x = twoCards();
        for (int card : NO_CARD_OF_TWO) {
            Checks.refuses("9: card " + card, Checks.PLACE, () -> x.merged(card, PHONE));
            Checks.refuses("9: card before kind", Checks.PLACE, () -> x.merged(card, 2));
            Checks.refuses("10: card " + card, Checks.PLACE, () -> x.mergedByValues(card, PHONE));
            Checks.refuses("10: card before kind", Checks.PLACE, () -> x.mergedByValues(card, 2));
        }
        for (int kind : NO_KIND) {
            Checks.refuses("9: kind " + kind, Checks.ARGUMENT, () -> x.merged(0, kind));
            Checks.refuses("10: kind " + kind, Checks.ARGUMENT, () -> x.mergedByValues(0, kind));
        }
    }

    private static void promise11Unsynced() {
        CardMerger x = new CardMerger();
        for (int card = 0; card < 8; card++) {
            x.add(1, 0);
        }
        x.add(2, 0);
        Checks.answers("11: new cards", 0, () -> x.unsynced(1));
        x.turn(0, MINE, PHONE, 0);
        Checks.answers("11: MINE alone, a phone", 1, () -> x.unsynced(1));
        x.turn(1, THEIRS, MAIL, 29);
        Checks.answers("11: THEIRS alone, a mail", 2, () -> x.unsynced(1));
        x.rename(2, MINE, 1);
        Checks.answers("11: MINE alone, the name", 3, () -> x.unsynced(1));
        x.rename(3, THEIRS, 1);
        Checks.answers("11: THEIRS alone, the name", 4, () -> x.unsynced(1));
        x.turn(4, MINE, MAIL, 3);
        x.turn(4, THEIRS, MAIL, 3);
        Checks.answers("11: the same on both sides changes BASE", 5, () -> x.unsynced(1));
        x.rename(5, MINE, 6);
        x.rename(5, THEIRS, 6);
        Checks.answers("11: the same name on both sides changes BASE", 6, () -> x.unsynced(1));
        x.turn(6, MINE, PHONE, 3);
        x.turn(6, MINE, PHONE, 3);
        x.rename(7, THEIRS, 0);
        Checks.answers("11: a change that was taken back", 6, () -> x.unsynced(1));
        Checks.answers("11: another book", 0, () -> x.unsynced(2));
        x.sync(1);
        Checks.answers("11: after a sync", 0, () -> x.unsynced(1));
        for (int book : NO_BOOK) {
            Checks.refuses("11: book " + book, Checks.PLACE, () -> x.unsynced(book));
        }
    }
}

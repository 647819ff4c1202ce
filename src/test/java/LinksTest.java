/** Promises 12 to 18: links, groups, what is shown and edited. */
public final class LinksTest {
    private static final int PHONE = CardMerger.PHONE, MAIL = CardMerger.MAIL;
    private static final int MINE = CardMerger.MINE, THEIRS = CardMerger.THEIRS, BASE = CardMerger.BASE;
    private static final int[] NO_CARD_OF_FIVE = {-1, 5, 24, 32, Integer.MAX_VALUE, Integer.MIN_VALUE};
    private static final int[] NO_KIND = {-1, 2, Integer.MAX_VALUE, Integer.MIN_VALUE};
    private static final int[] NO_VALUE = {-1, 30, 31, 32, Integer.MAX_VALUE, Integer.MIN_VALUE};

    public static void main(String[] args) {
        promise12Link();
        promise12LinkRefused();
        promise13Cut();
        promise13CutRefused();
        promise13CutOfLongChain();
        promise14Group();
        promise15Groups();
        promise16Preferred();
        promise17Shown();
        promise18EditTakesOut();
        promise18EditPutsIn();
        promise18EditRefused();
        promises12To18OfAllCards();
        Checks.end("LinksTest");
    }

    /** Cards 0 to 4 in the books 2, 1, 1, 0, 2. */
    private static CardMerger fiveCards() {
        CardMerger x = new CardMerger();
        int[] books = {2, 1, 1, 0, 2};
        for (int card = 0; card < 5; card++) {
            x.add(books[card], card);
        }
        return x;
    }

    private static void promise12Link() {
        CardMerger x = fiveCards();
        Checks.answers("12: two", 2, () -> x.link(0, 1));
        Checks.answers("12: two others of two books", 2, () -> x.link(4, 3));
        Checks.answers("12: two groups become one", 4, () -> x.link(1, 3));
        Checks.answers("12: inside of a group", 4, () -> x.link(0, 4));
        Checks.answers("12: of one book", 5, () -> x.link(2, 1));
        Checks.answers("12: all are one group", Checks.set(0, 1, 2, 3, 4), () -> x.group(2));
    }

    private static void promise12LinkRefused() {
        CardMerger x = fiveCards();
        x.link(0, 1);
        Checks.refuses("12: linked already", Checks.STATE, () -> x.link(0, 1));
        Checks.refuses("12: linked the other way", Checks.STATE, () -> x.link(1, 0));
        Checks.refuses("12: itself", Checks.ARGUMENT, () -> x.link(1, 1));
        for (int card : NO_CARD_OF_FIVE) {
            Checks.refuses("12: one " + card, Checks.PLACE, () -> x.link(card, 0));
            Checks.refuses("12: other " + card, Checks.PLACE, () -> x.link(0, card));
            Checks.refuses("12: both " + card, Checks.PLACE, () -> x.link(card, card));
        }
        Checks.answers("12: refused links are none", 4, () -> x.groups());
    }

    private static void promise13Cut() {
        CardMerger x = fiveCards();
        x.link(0, 1);
        x.link(1, 2);
        x.link(2, 0);
        x.link(2, 3);
        Checks.holds("13: there is another way", true, () -> x.cut(1, 0));
        Checks.answers("13: the group is whole", Checks.set(0, 1, 2, 3), () -> x.group(0));
        Checks.holds("13: in two", false, () -> x.cut(2, 0));
        Checks.answers("13: one part", Checks.set(0), () -> x.group(0));
        Checks.answers("13: the other part", Checks.set(1, 2, 3), () -> x.group(3));
        Checks.holds("13: in two again", false, () -> x.cut(2, 1));
        Checks.answers("13: what is left", Checks.set(2, 3), () -> x.group(2));
        Checks.answers("13: linked again", 3, () -> x.link(0, 2));
    }

    private static void promise13CutRefused() {
        CardMerger x = fiveCards();
        x.link(0, 1);
        x.link(1, 2);
        Checks.refuses("13: of one group, but not linked", Checks.STATE, () -> x.cut(0, 2) ? 1 : 0);
        Checks.refuses("13: not of one group", Checks.STATE, () -> x.cut(0, 3) ? 1 : 0);
        Checks.refuses("13: itself", Checks.STATE, () -> x.cut(1, 1) ? 1 : 0);
        for (int card : NO_CARD_OF_FIVE) {
            Checks.refuses("13: one " + card, Checks.PLACE, () -> x.cut(card, 0) ? 1 : 0);
            Checks.refuses("13: other " + card, Checks.PLACE, () -> x.cut(0, card) ? 1 : 0);
            Checks.refuses("13: both " + card, Checks.PLACE, () -> x.cut(card, card) ? 1 : 0);
        }
        Checks.answers("13: refused cuts are none", Checks.set(0, 1, 2), () -> x.group(0));
        x.cut(0, 1);
        Checks.refuses("13: cut already", Checks.STATE, () -> x.cut(1, 0) ? 1 : 0);
    }

    private static void promise13CutOfLongChain() {
        CardMerger x = new CardMerger();
        int[] order = new int[24];
        for (int place = 0; place < 24; place++) {
            // The numbers jump along the chain, so that no walk in their order reaches its end at once.
            order[place] = (place * 7 + 23) % 24;
            x.add(0, 0);
        }
        for (int place = 1; place < 24; place++) {
            int due = place + 1;
            int card = order[place];
            int before = order[place - 1];
            Checks.answers("12: a chain grows", due, () -> x.link(card, before));
        }
        x.link(order[0], order[23]);
        Checks.holds("13: a ring stays whole", true, () -> x.cut(order[11], order[12]));
        Checks.answers("13: all cards from one end", 0xFFFFFF, () -> x.group(order[12]));
        Checks.holds("13: the chain breaks", false, () -> x.cut(order[23], order[0]));
        int half = 0;
        for (int place = 0; place < 12; place++) {
            half |= 1 << order[place];
        }
        int due = half;
        Checks.answers("13: one half", due, () -> x.group(order[0]));
        Checks.answers("13: the other half", 0xFFFFFF & ~due, () -> x.group(order[23]));
        Checks.answers("13: two groups", 2, () -> x.groups());
    }

    private static void promise14Group() {
        CardMerger x = fiveCards();
        Checks.answers("14: itself", Checks.set(4), () -> x.group(4));
        x.link(4, 0);
        x.link(0, 2);
        for (int card : new int[] {0, 2, 4}) {
            Checks.answers("14: the same for all", Checks.set(0, 2, 4), () -> x.group(card));
        }
        Checks.answers("14: another card", Checks.set(1), () -> x.group(1));
        for (int card : NO_CARD_OF_FIVE) {
            Checks.refuses("14: card " + card, Checks.PLACE, () -> x.group(card));
        }
    }

    private static void promise15Groups() {
        CardMerger x = fiveCards();
        Checks.answers("15: none is linked", 5, () -> x.groups());
        x.link(4, 0);
        Checks.answers("15: two are linked", 4, () -> x.groups());
        x.link(0, 2);
        x.link(2, 4);
        Checks.answers("15: three are linked", 3, () -> x.groups());
        x.link(1, 3);
        Checks.answers("15: all are linked", 2, () -> x.groups());
        x.cut(4, 0);
        Checks.answers("15: a cut with another way", 2, () -> x.groups());
        x.cut(4, 2);
        Checks.answers("15: a cut without one", 3, () -> x.groups());
        x.add(0, 0);
        Checks.answers("15: a card more", 4, () -> x.groups());
    }

    private static void promise16Preferred() {
        CardMerger x = fiveCards();
        Checks.answers("16: itself", 4, () -> x.preferred(4));
        x.link(4, 0);
        Checks.answers("16: of one book the lowest number", 0, () -> x.preferred(4));
        x.link(2, 4);
        Checks.answers("16: the lowest book", 2, () -> x.preferred(0));
        x.link(0, 1);
        Checks.answers("16: of the lowest book the lowest number", 1, () -> x.preferred(2));
        x.link(4, 3);
        Checks.answers("16: the lowest book, a greater number", 3, () -> x.preferred(1));
        Checks.answers("16: of itself", 3, () -> x.preferred(3));
        x.cut(3, 4);
        Checks.answers("16: after a cut", 1, () -> x.preferred(4));
        for (int card : NO_CARD_OF_FIVE) {
            Checks.refuses("16: card " + card, Checks.PLACE, () -> x.preferred(card));
        }
    }

    private static void promise17Shown() {
        CardMerger x = fiveCards();
        x.turn(0, MINE, PHONE, 0);
        x.turn(1, MINE, PHONE, 29);
        x.turn(1, MINE, PHONE, 0);
        x.turn(2, MINE, PHONE, 5);
        x.turn(1, THEIRS, PHONE, 6);
        x.turn(1, MINE, MAIL, 7);
        Checks.answers("17: alone", Checks.set(0), () -> x.shown(0, PHONE));
        x.link(0, 1);
        Checks.answers("17: phones of both", Checks.set(0, 29), () -> x.shown(0, PHONE));
        Checks.answers("17: the same for the other", Checks.set(0, 29), () -> x.shown(1, PHONE));
        Checks.answers("17: mails", Checks.set(7), () -> x.shown(0, MAIL));
        Checks.answers("17: another group", Checks.set(5), () -> x.shown(2, PHONE));
        x.sync(1);
        Checks.answers("17: what a sync brings", Checks.set(0, 6, 29), () -> x.shown(0, PHONE));
        x.turn(1, MINE, PHONE, 6);
        Checks.answers("17: BASE is not shown", Checks.set(0, 29), () -> x.shown(0, PHONE));
        for (int card : NO_CARD_OF_FIVE) {
            Checks.refuses("17: card " + card, Checks.PLACE, () -> x.shown(card, PHONE));
            Checks.refuses("17: card before kind", Checks.PLACE, () -> x.shown(card, 2));
        }
        for (int kind : NO_KIND) {
            Checks.refuses("17: kind " + kind, Checks.ARGUMENT, () -> x.shown(0, kind));
        }
    }

    private static void promise18EditTakesOut() {
        CardMerger x = fiveCards();
        x.link(0, 1);
        x.link(1, 2);
        for (int card : new int[] {0, 2, 4}) {
            x.turn(card, MINE, MAIL, 29);
            x.turn(card, MINE, MAIL, 1);
            x.turn(card, MINE, PHONE, 29);
            x.turn(card, THEIRS, MAIL, 29);
        }
        Checks.answers("18: taken out", Checks.set(0, 2), () -> x.edit(1, MAIL, 29));
        Checks.answers("18: out of all of the group", Checks.set(1), () -> x.shown(1, MAIL));
        Checks.answers("18: out of the first", Checks.set(1), () -> x.values(0, MINE, MAIL));
        Checks.answers("18: out of the last", Checks.set(1), () -> x.values(2, MINE, MAIL));
        Checks.answers("18: not out of THEIRS", Checks.set(29), () -> x.values(2, THEIRS, MAIL));
        Checks.answers("18: not out of the phones", Checks.set(29), () -> x.shown(0, PHONE));
        Checks.answers("18: not out of another group", Checks.set(1, 29), () -> x.values(4, MINE, MAIL));
    }

    private static void promise18EditPutsIn() {
        CardMerger x = fiveCards();
        x.link(0, 2);
        x.link(2, 4);
        x.turn(1, MINE, PHONE, 3);
        x.turn(2, THEIRS, PHONE, 3);
        Checks.answers("18: comes to the preferred card", Checks.set(2), () -> x.edit(4, PHONE, 3));
        Checks.answers("18: it is there", Checks.set(3), () -> x.values(2, MINE, PHONE));
        Checks.answers("18: not in others of the group", 0, () -> x.values(4, MINE, PHONE));
        Checks.answers("18: not in BASE", 0, () -> x.values(2, BASE, PHONE));
        Checks.answers("18: not in the mails", 0, () -> x.values(2, MINE, MAIL));
        Checks.answers("18: a second one", Checks.set(2), () -> x.edit(0, PHONE, 0));
        Checks.answers("18: both are there", Checks.set(0, 3), () -> x.shown(0, PHONE));
        Checks.answers("18: and goes again", Checks.set(2), () -> x.edit(2, PHONE, 3));
        Checks.answers("18: it is gone", Checks.set(0), () -> x.shown(0, PHONE));
        x.turn(2, MINE, PHONE, 9);
        x.turn(2, THEIRS, PHONE, 10);
        Checks.answers("18: with others in MINE and THEIRS", Checks.set(2), () -> x.edit(0, PHONE, 11));
        Checks.answers("18: MINE keeps its others", Checks.set(0, 9, 11), () -> x.values(2, MINE, PHONE));
        Checks.answers("18: THEIRS stays", Checks.set(3, 10), () -> x.values(2, THEIRS, PHONE));
        Checks.answers("18: alone", Checks.set(3), () -> x.edit(3, MAIL, 29));
        Checks.answers("18: it is there, alone", Checks.set(29), () -> x.values(3, MINE, MAIL));
    }

    private static void promises12To18OfAllCards() {
        CardMerger x = new CardMerger();
        for (int card = 0; card < 24; card++) {
            x.add(2 - card / 12, 0);
        }
        for (int card = 1; card < 24; card++) {
            x.link(0, card);
            x.turn(card, MINE, MAIL, card);
        }
        Checks.answers("14: all cards", 0xFFFFFF, () -> x.group(23));
        Checks.answers("15: of all cards", 1, () -> x.groups());
        Checks.answers("16: of all cards", 12, () -> x.preferred(0));
        Checks.answers("17: of all cards", 0xFFFFFE, () -> x.shown(0, MAIL));
        Checks.answers("18: out of the last card", Checks.set(23), () -> x.edit(1, MAIL, 23));
        Checks.answers("18: to the preferred of all cards", Checks.set(12), () -> x.edit(1, MAIL, 0));
        Checks.answers("11: of all but the emptied last card", 11, () -> x.unsynced(1));
        Checks.answers("5: of all cards", 0, () -> x.sync(1));
        Checks.answers("11: after a sync of the last card", 0, () -> x.unsynced(1));
        Checks.answers("11: of another book", 11, () -> x.unsynced(2));
        Checks.holds("13: of all cards", false, () -> x.cut(23, 0));
        Checks.answers("14: without the last", 0x7FFFFF, () -> x.group(0));
        Checks.answers("14: the last alone", 0x800000, () -> x.group(23));
    }

    private static void promise18EditRefused() {
        CardMerger x = fiveCards();
        for (int card : NO_CARD_OF_FIVE) {
            Checks.refuses("18: card " + card, Checks.PLACE, () -> x.edit(card, PHONE, 0));
            Checks.refuses("18: card before kind", Checks.PLACE, () -> x.edit(card, 2, 30));
        }
        for (int kind : NO_KIND) {
            Checks.refuses("18: kind " + kind, Checks.ARGUMENT, () -> x.edit(0, kind, 0));
        }
        for (int value : NO_VALUE) {
            Checks.refuses("18: value " + value, Checks.ARGUMENT, () -> x.edit(0, MAIL, value));
        }
        Checks.answers("18: a refused edit changes nothing", 0,
                () -> x.unsynced(0) + x.unsynced(1) + x.unsynced(2));
    }
}

/** Promises 19 to 22: scores, suggested pairs and turning them down. */
public final class PairsTest {
    private static final int PHONE = CardMerger.PHONE, MAIL = CardMerger.MAIL;
    private static final int MINE = CardMerger.MINE, THEIRS = CardMerger.THEIRS;
    private static final int[] NO_CARD_OF_FOUR = {-1, 4, 24, 32, Integer.MAX_VALUE, Integer.MIN_VALUE};

    public static void main(String[] args) {
        promise19Score();
        promise19ScoreOfAllValues();
        promise19ScoreRefused();
        promise20Pairs();
        promise20PairsOfAllCards();
        promise21PairAt();
        promise21PairAtOfManyCards();
        promise21PairAtRefused();
        promise22ForGood();
        promise22ForGoodOfManyPairs();
        promise22ForNowUntilMineIsAnother();
        promise22ForNowWhatBringsItBack();
        promise22ForNowWhatDoesNot();
        promise22Again();
        promise22Refused();
        Checks.end("PairsTest");
    }

    /** Cards 0 to 3 with the names 0 to 3, so that no two have a score. */
    private static CardMerger fourCards() {
        CardMerger x = new CardMerger();
        for (int card = 0; card < 4; card++) {
            x.add(card % 3, card);
        }
        return x;
    }

    private static void give(CardMerger x, int kind, int value, int... cards) {
        for (int card : cards) {
            x.turn(card, MINE, kind, value);
        }
    }

    private static void promise19Score() {
        CardMerger x = fourCards();
        Checks.answers("19: nothing is the same", 0, () -> x.score(0, 1));
        give(x, PHONE, 0, 0, 1);
        Checks.answers("19: one phone", 3, () -> x.score(0, 1));
        give(x, PHONE, 29, 0, 1);
        Checks.answers("19: two phones", 6, () -> x.score(1, 0));
        give(x, MAIL, 29, 0, 1);
        Checks.answers("19: and one mail", 8, () -> x.score(0, 1));
        give(x, MAIL, 3, 0, 1);
        Checks.answers("19: and two mails", 10, () -> x.score(0, 1));
        x.rename(1, MINE, 0);
        Checks.answers("19: and the name", 12, () -> x.score(0, 1));
        give(x, PHONE, 4, 0);
        give(x, MAIL, 4, 1);
        Checks.answers("19: a phone is no mail", 12, () -> x.score(0, 1));
        x.turn(1, THEIRS, PHONE, 4);
        x.rename(2, THEIRS, 0);
        Checks.answers("19: THEIRS does not count", 12, () -> x.score(0, 1));
        Checks.answers("19: the name of THEIRS does not count", 0, () -> x.score(0, 2));
        x.link(0, 2);
        x.link(2, 1);
        Checks.answers("19: in one group", 0, () -> x.score(0, 1));
        x.cut(2, 1);
        x.turnDown(0, 1, true);
        Checks.answers("19: turned down, it is still the score", 12, () -> x.score(0, 1));
    }

    private static void promise19ScoreOfAllValues() {
        CardMerger x = new CardMerger();
        x.add(0, 8);
        x.add(0, 8);
        for (int value = 0; value < 30; value++) {
            give(x, PHONE, value, 0, 1);
            give(x, MAIL, value, 0, 1);
        }
        Checks.answers("19: all that can be the same", 152, () -> x.score(0, 1));
        Checks.answers("21: the pair with all that can be the same", 1, () -> x.pairAt(0));
        Checks.answers("20: it is one pair", 1, () -> x.pairs());
        x.turn(0, MINE, MAIL, 0);
        Checks.answers("21: the pair with one mail less", 1, () -> x.pairAt(0));
    }

    private static void promise19ScoreRefused() {
        CardMerger x = fourCards();
        Checks.refuses("19: itself", Checks.ARGUMENT, () -> x.score(3, 3));
        for (int card : NO_CARD_OF_FOUR) {
            Checks.refuses("19: one " + card, Checks.PLACE, () -> x.score(card, 0));
            Checks.refuses("19: other " + card, Checks.PLACE, () -> x.score(0, card));
            Checks.refuses("19: both " + card, Checks.PLACE, () -> x.score(card, card));
        }
    }

    private static void promise20Pairs() {
        CardMerger x = fourCards();
        Checks.answers("20: none", 0, () -> x.pairs());
        give(x, PHONE, 1, 0, 1, 3);
        Checks.answers("20: three of one phone", 3, () -> x.pairs());
        x.rename(2, MINE, 3);
        Checks.answers("20: and one of a name", 4, () -> x.pairs());
        x.link(1, 3);
        Checks.answers("20: linked ones are none", 3, () -> x.pairs());
        x.link(2, 0);
        Checks.answers("20: others are linked too", 3, () -> x.pairs());
        x.link(2, 3);
        Checks.answers("20: all are one group", 0, () -> x.pairs());
        x.cut(2, 3);
        Checks.answers("20: cut", 3, () -> x.pairs());
        x.turnDown(0, 1, true);
        Checks.answers("20: turned down", 2, () -> x.pairs());
    }

    private static void promise20PairsOfAllCards() {
        CardMerger x = new CardMerger();
        for (int card = 0; card < 24; card++) {
            x.add(card % 3, 0);
        }
        Checks.answers("20: all are pairs", 276, () -> x.pairs());
        Checks.answers("21: the first", 1, () -> x.pairAt(0));
        Checks.answers("21: the last of card 0", 23, () -> x.pairAt(22));
        Checks.answers("21: the first of card 1", 102, () -> x.pairAt(23));
        Checks.answers("21: the last", 2223, () -> x.pairAt(275));
        Checks.refuses("21: behind the last", Checks.PLACE, () -> x.pairAt(276));
    }

    private static void promise21PairAt() {
        CardMerger x = fourCards();
        give(x, MAIL, 5, 2, 3);
        give(x, PHONE, 5, 1, 3);
        give(x, PHONE, 6, 0, 3);
        x.rename(0, MINE, 2);
        Checks.answers("21: of the same score the lowest lower card", 3, () -> x.pairAt(0));
        Checks.answers("21: then the next lower card", 103, () -> x.pairAt(1));
        Checks.answers("21: of a lower score the lowest lower card", 2, () -> x.pairAt(2));
        Checks.answers("21: the last", 203, () -> x.pairAt(3));
        give(x, MAIL, 7, 2, 3);
        Checks.answers("21: the greatest score comes first", 203, () -> x.pairAt(0));
        Checks.answers("21: and the others after it", 3, () -> x.pairAt(1));
        x.turnDown(2, 3, false);
        Checks.answers("21: one that was turned down is left out", 3, () -> x.pairAt(0));
        x.link(3, 0);
        Checks.answers("21: one that was linked is left out", 103, () -> x.pairAt(0));
    }

    private static void promise21PairAtOfManyCards() {
        CardMerger x = new CardMerger();
        for (int card = 0; card < 24; card++) {
            x.add(0, card);
        }
        give(x, MAIL, 0, 10, 2, 9, 1);
        int[] due = {102, 109, 110, 209, 210, 910};
        for (int place = 0; place < due.length; place++) {
            int at = place;
            Checks.answers("21: the lower card, then the other one", due[at], () -> x.pairAt(at));
        }
    }

    private static void promise21PairAtRefused() {
        CardMerger x = fourCards();
        Checks.refuses("21: there is none", Checks.PLACE, () -> x.pairAt(0));
        give(x, PHONE, 5, 1, 3);
        for (int place : new int[] {-1, 1, 2, Integer.MAX_VALUE, Integer.MIN_VALUE}) {
            Checks.refuses("21: place " + place, Checks.PLACE, () -> x.pairAt(place));
        }
        Checks.answers("21: there is one", 103, () -> x.pairAt(0));
    }

    private static void promise22ForGood() {
        CardMerger x = fourCards();
        give(x, PHONE, 1, 0, 1, 2);
        Checks.answers("22: two are left", 2, () -> x.turnDown(1, 0, true));
        Checks.answers("22: the first now", 2, () -> x.pairAt(0));
        give(x, PHONE, 2, 0, 1);
        x.rename(0, MINE, 1);
        x.edit(1, MAIL, 3);
        x.sync(0);
        x.sync(1);
        x.link(0, 1);
        x.cut(0, 1);
        Checks.answers("22: never again", 2, () -> x.pairs());
        Checks.refuses("22: for good again", Checks.STATE, () -> x.turnDown(0, 1, true));
        Checks.refuses("22: for now after for good", Checks.STATE, () -> x.turnDown(0, 1, false));
        give(x, PHONE, 3, 0, 1);
        Checks.answers("22: still never again", 2, () -> x.pairs());
        Checks.answers("22: the others can be turned down too", 1, () -> x.turnDown(0, 2, true));
        Checks.answers("22: and the last", 0, () -> x.turnDown(2, 1, true));
    }

    private static void promise22ForGoodOfManyPairs() {
        CardMerger x = new CardMerger();
        for (int card = 0; card < 24; card++) {
            x.add(0, 0);
        }
        int[] all = new int[276];
        int count = 0;
        for (int lower = 0; lower < 24; lower++) {
            for (int upper = lower + 1; upper < 24; upper++) {
                all[count++] = 100 * lower + upper;
            }
        }
        // The steps jump, so that each card is turned down as the lower and as the other one of a pair; which
        // pair comes next is not asked of the object, since nothing is promised after its 512th call.
        for (int step = 0; step < 276; step++) {
            int pair = all[step * 31 % 276];
            int one = step % 2 == 0 ? pair / 100 : pair % 100;
            int other = pair / 100 + pair % 100 - one;
            int due = 275 - step;
            Checks.answers("22: one less each time", due, () -> x.turnDown(one, other, true));
        }
        Checks.answers("22: none is left", 0, () -> x.pairs());
    }

    private static CardMerger turnedDownForNow() {
        CardMerger x = fourCards();
        give(x, PHONE, 1, 0, 1, 2);
        Checks.answers("22: for now", 2, () -> x.turnDown(0, 1, false));
        Checks.refuses("22: it is none now", Checks.STATE, () -> x.turnDown(1, 0, false));
        Checks.refuses("22: nor for good", Checks.STATE, () -> x.turnDown(1, 0, true));
        return x;
    }

    private static void promise22ForNowUntilMineIsAnother() {
        for (int card = 0; card < 2; card++) {
            int changed = card;
            CardMerger x = turnedDownForNow();
            x.turn(changed, MINE, MAIL, 9);
            Checks.answers("22: it is again", 3, () -> x.pairs());
            x.turn(changed, MINE, MAIL, 9);
            Checks.answers("22: also when it came back", 3, () -> x.pairs());
            x.turnDown(0, 1, false);
            x.rename(changed, MINE, 20);
            x.turn(1 - changed, MINE, MAIL, 8);
            Checks.answers("22: and when both names and values are others", 3, () -> x.pairs());
            CardMerger y = turnedDownForNow();
            y.turn(changed, MINE, PHONE, 1);
            Checks.answers("22: without a score it is none", 1, () -> y.pairs());
            y.turn(changed, MINE, PHONE, 1);
            Checks.answers("22: it came back between two looks", 3, () -> y.pairs());
        }
    }

    private static void promise22ForNowWhatBringsItBack() {
        CardMerger x = turnedDownForNow();
        x.rename(1, MINE, 30);
        Checks.answers("22: a name", 3, () -> x.pairs());
        Checks.answers("22: turned down once more", 2, () -> x.turnDown(0, 1, false));
        x.turn(1, THEIRS, MAIL, 2);
        Checks.answers("22: a change of THEIRS alone", 2, () -> x.pairs());
        x.sync(1);
        Checks.answers("22: a sync that changes MINE", 3, () -> x.pairs());
        x.turnDown(0, 1, false);
        x.rename(0, THEIRS, 29);
        Checks.answers("22: a name of THEIRS alone", 2, () -> x.pairs());
        x.sync(0);
        Checks.answers("22: a sync that brings a name", 3, () -> x.pairs());
        x.turnDown(0, 1, false);
        x.turn(0, THEIRS, MAIL, 6);
        x.sync(0);
        Checks.answers("22: a sync that brings a mail", 3, () -> x.pairs());
        x.turnDown(0, 1, false);
        x.edit(0, MAIL, 8);
        Checks.answers("22: an edit that puts in", 3, () -> x.pairs());
        x.turnDown(0, 1, false);
        x.edit(0, MAIL, 8);
        Checks.answers("22: an edit that takes out", 3, () -> x.pairs());
    }

    private static void promise22ForNowWhatDoesNot() {
        CardMerger x = turnedDownForNow();
        x.rename(0, MINE, 0);
        Checks.answers("22: the same name again", 2, () -> x.pairs());
        x.sync(0);
        x.sync(1);
        Checks.answers("22: a sync that takes over MINE", 2, () -> x.pairs());
        x.turn(2, MINE, MAIL, 2);
        x.rename(3, MINE, 9);
        Checks.answers("22: another card", 2, () -> x.pairs());
        x.link(0, 1);
        x.cut(1, 0);
        Checks.answers("22: a link and its cut", 2, () -> x.pairs());
        x.link(3, 0);
        x.edit(0, MAIL, 20);
        Checks.answers("22: an edit that puts in changes the preferred card", 3, () -> x.pairs());
        CardMerger y = turnedDownForNow();
        y.link(2, 1);
        y.edit(2, MAIL, 20);
        Checks.answers("22: it came to card 1", Checks.set(20), () -> y.values(1, MINE, MAIL));
        Checks.answers("22: an edit of the group changes its preferred card", 2, () -> y.pairs());
        CardMerger z = turnedDownForNow();
        z.link(1, 3);
        z.edit(1, MAIL, 20);
        Checks.answers("22: an edit that changes another card of the group", 2, () -> z.pairs());
        Checks.answers("22: it came to card 3", Checks.set(20), () -> z.values(3, MINE, MAIL));
        Checks.refuses("22: a refused rename", Checks.ARGUMENT, () -> z.rename(0, MINE, 32));
        Checks.refuses("22: a refused turn", Checks.ARGUMENT, () -> z.turn(0, MINE, PHONE, 30) ? 1 : 0);
        Checks.answers("22: what is refused changes nothing", 2, () -> z.pairs());
    }

    private static void promise22Again() {
        CardMerger x = turnedDownForNow();
        x.turn(0, MINE, MAIL, 4);
        Checks.answers("22: for good after for now", 2, () -> x.turnDown(0, 1, true));
        x.turn(0, MINE, MAIL, 4);
        Checks.answers("22: now for good", 2, () -> x.pairs());
        Checks.answers("22: another one for now", 1, () -> x.turnDown(2, 0, false));
        x.turn(1, MINE, MAIL, 4);
        Checks.answers("22: each pair for itself", 1, () -> x.pairs());
        x.turn(2, MINE, MAIL, 5);
        Checks.answers("22: the second one is again", 2, () -> x.pairs());
    }

    private static void promise22Refused() {
        CardMerger x = fourCards();
        give(x, PHONE, 1, 0, 1);
        Checks.refuses("22: without a score", Checks.STATE, () -> x.turnDown(0, 2, true));
        Checks.refuses("22: itself", Checks.ARGUMENT, () -> x.turnDown(0, 0, true));
        for (int card : NO_CARD_OF_FOUR) {
            Checks.refuses("22: one " + card, Checks.PLACE, () -> x.turnDown(card, 0, true));
            Checks.refuses("22: other " + card, Checks.PLACE, () -> x.turnDown(0, card, false));
            Checks.refuses("22: both " + card, Checks.PLACE, () -> x.turnDown(card, card, true));
        }
        give(x, MAIL, 4, 0, 2);
        Checks.answers("22: what was refused is suggested later", 2, () -> x.pairs());
        x.link(0, 1);
        Checks.refuses("22: in one group", Checks.STATE, () -> x.turnDown(0, 1, true));
        x.cut(0, 1);
        Checks.answers("22: cut, it is suggested", 2, () -> x.pairs());
    }
}

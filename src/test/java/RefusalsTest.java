/**
 * The "Throws" of the promises, each by itself: the call throws, it throws the exception that is listed first
 * if several apply, and it changes nothing.
 */
public final class RefusalsTest {
    private static final String PLACE = Checks.PLACE, ARGUMENT = Checks.ARGUMENT, STATE = Checks.STATE;
    private static final int PHONE = CardMerger.PHONE, MAIL = CardMerger.MAIL;
    private static final int MINE = CardMerger.MINE, THEIRS = CardMerger.THEIRS, BASE = CardMerger.BASE;

    // Beside the nearest and the farthest ones, such as a shift or a narrower number would wrap round to a good one.
    private static final int[] NO_BOOK = {-1, 3, 4, 32, 256, 65536, Integer.MAX_VALUE, Integer.MIN_VALUE};
    private static final int[] NO_CARD = {-1, 5, 23, 24, -32, 32, 64, 256, 65536, Integer.MAX_VALUE, Integer.MIN_VALUE};
    private static final int[] NO_KIND = {-1, 2, -32, 32, 256, 65536, Integer.MAX_VALUE, Integer.MIN_VALUE};
    private static final int[] NO_VERSION = {-1, 3, -32, 32, 256, 65536, Integer.MAX_VALUE, Integer.MIN_VALUE};
    private static final int[] NO_CHANGEABLE = {-1, 2, 3, -32, 32, 256, 65536, Integer.MAX_VALUE, Integer.MIN_VALUE};
    private static final int[] NO_VALUE = {-1, 30, 31, 32, -32, 64, 256, 65536, Integer.MAX_VALUE, Integer.MIN_VALUE};
    private static final int[] NO_NAME = {-1, 32, 33, -32, 64, 256, 65536, Integer.MAX_VALUE, Integer.MIN_VALUE};

    private static final String TOLD = Scenes.told(Scenes.five());
    private static final String TOLD_LATER = Scenes.goOn(Scenes.five());
    private static final String COUNTED = Scenes.counted(Scenes.full());

    interface Use {
        long of(CardMerger x);
    }

    public static void main(String[] args) {
        addWithoutSuchABook();
        addWithNameOutOfRange();
        addTo24Cards();
        turnWithoutSuchACard();
        turnWithVersionKindOrValueOutOfRange();
        renameWithoutSuchACard();
        renameWithVersionOrNameOutOfRange();
        syncWithoutSuchABook();
        valuesWithoutSuchACard();
        valuesWithVersionOrKindOutOfRange();
        nameOfWithoutSuchACard();
        nameOfWithVersionOutOfRange();
        mergedWithoutSuchACard();
        mergedWithKindOutOfRange();
        mergedByValuesWithoutSuchACard();
        mergedByValuesWithKindOutOfRange();
        unsyncedWithoutSuchABook();
        linkWithoutSuchACard();
        linkOfTheSame();
        linkOfLinkedOnes();
        cutWithoutSuchACard();
        cutOfUnlinkedOnes();
        groupWithoutSuchACard();
        preferredWithoutSuchACard();
        shownWithoutSuchACard();
        shownWithKindOutOfRange();
        editWithoutSuchACard();
        editWithKindOrValueOutOfRange();
        scoreWithoutSuchACard();
        scoreOfTheSame();
        pairAtWithoutSuchAPlace();
        turnDownWithoutSuchACard();
        turnDownOfTheSame();
        turnDownOfNoSuggestedPair();
        newObjectHasNoSuchCardAndPlace();
        fullObjectHasNoSuchCard();
        Checks.end("RefusalsTest");
    }

    private static void refused(String what, String due, Use use) {
        CardMerger x = Scenes.five();
        Checks.refuses(what, due, () -> use.of(x));
        Checks.same(what + ", what can be asked then", Scenes.told(x), TOLD);
        Checks.same(what + ", what comes later", Scenes.goOn(x), TOLD_LATER);
    }

    private static void refusedByFull(String what, String due, Use use) {
        CardMerger x = Scenes.full();
        Checks.refuses(what, due, () -> use.of(x));
        Checks.same(what + ", what can be asked then", Scenes.counted(x), COUNTED);
    }

    private static long bit(boolean answer) {
        return answer ? 1 : 0;
    }

    // ---- cards

    private static void addWithoutSuchABook() {
        for (int book : NO_BOOK) {
            refused("2: add to book " + book, PLACE, x -> x.add(book, 0));
            refused("2: add to book " + book + ", name 32", PLACE, x -> x.add(book, 32));
            refusedByFull("2: add a 25th card to book " + book, PLACE, x -> x.add(book, 31));
            refusedByFull("2: add a 25th card to book " + book + ", name -1", PLACE, x -> x.add(book, -1));
        }
    }

    private static void addWithNameOutOfRange() {
        for (int name : NO_NAME) {
            refused("2: add name " + name, ARGUMENT, x -> x.add(0, name));
            refusedByFull("2: add a 25th card, name " + name, ARGUMENT, x -> x.add(2, name));
        }
    }

    private static void addTo24Cards() {
        for (int book = 0; book <= 2; book++) {
            int to = book;
            refusedByFull("2: add a 25th card to book " + to, STATE, x -> x.add(to, 0));
            refusedByFull("2: add a 25th card to book " + to + ", name 31", STATE, x -> x.add(to, 31));
        }
    }

    private static void turnWithoutSuchACard() {
        for (int card : NO_CARD) {
            refused("3: turn of card " + card, PLACE, x -> bit(x.turn(card, MINE, PHONE, 0)));
            refused("3: of card " + card + ", version 2", PLACE, x -> bit(x.turn(card, BASE, PHONE, 0)));
            refused("3: of card " + card + ", kind 2", PLACE, x -> bit(x.turn(card, THEIRS, 2, 0)));
            refused("3: of card " + card + ", value 30", PLACE, x -> bit(x.turn(card, MINE, MAIL, 30)));
            refused("3: of card " + card + ", all else", PLACE, x -> bit(x.turn(card, 3, -1, -1)));
        }
    }

    private static void turnWithVersionKindOrValueOutOfRange() {
        for (int version : NO_CHANGEABLE) {
            refused("3: turn of version " + version, ARGUMENT, x -> bit(x.turn(0, version, PHONE, 0)));
        }
        for (int kind : NO_KIND) {
            refused("3: turn of kind " + kind, ARGUMENT, x -> bit(x.turn(4, MINE, kind, 29)));
            refused("3: turn of kind " + kind, ARGUMENT, x -> bit(x.turn(4, THEIRS, kind, 0)));
        }
        for (int value : NO_VALUE) {
            refused("3: turn of value " + value, ARGUMENT, x -> bit(x.turn(0, MINE, PHONE, value)));
            refused("3: turn of value " + value, ARGUMENT, x -> bit(x.turn(4, THEIRS, MAIL, value)));
        }
    }

    private static void renameWithoutSuchACard() {
        for (int card : NO_CARD) {
            refused("4: rename of card " + card, PLACE, x -> x.rename(card, MINE, 0));
            refused("4: of card " + card + ", version 2", PLACE, x -> x.rename(card, BASE, 0));
            refused("4: of card " + card + ", name 32", PLACE, x -> x.rename(card, THEIRS, 32));
            refused("4: of card " + card + ", all else", PLACE, x -> x.rename(card, -1, -1));
        }
    }

    private static void renameWithVersionOrNameOutOfRange() {
        for (int version : NO_CHANGEABLE) {
            refused("4: rename of version " + version, ARGUMENT, x -> x.rename(0, version, 31));
        }
        for (int name : NO_NAME) {
            refused("4: rename to " + name, ARGUMENT, x -> x.rename(0, MINE, name));
            refused("4: rename of THEIRS to " + name, ARGUMENT, x -> x.rename(4, THEIRS, name));
        }
    }

    private static void syncWithoutSuchABook() {
        for (int book : NO_BOOK) {
            refused("5: sync of book " + book, PLACE, x -> x.sync(book));
        }
    }

    private static void valuesWithoutSuchACard() {
        for (int card : NO_CARD) {
            refused("7: values of card " + card, PLACE, x -> x.values(card, MINE, PHONE));
            refused("7: of card " + card + ", version 3", PLACE, x -> x.values(card, 3, MAIL));
            refused("7: of card " + card + ", kind 2", PLACE, x -> x.values(card, BASE, 2));
            refused("7: of card " + card + ", all else", PLACE, x -> x.values(card, -1, -1));
        }
    }

    private static void valuesWithVersionOrKindOutOfRange() {
        for (int version : NO_VERSION) {
            refused("7: values of version " + version, ARGUMENT, x -> x.values(0, version, PHONE));
        }
        for (int kind : NO_KIND) {
            refused("7: values of kind " + kind, ARGUMENT, x -> x.values(4, BASE, kind));
        }
    }

    private static void nameOfWithoutSuchACard() {
        for (int card : NO_CARD) {
            refused("8: name of card " + card, PLACE, x -> x.nameOf(card, MINE));
            refused("8: of card " + card + ", version 3", PLACE, x -> x.nameOf(card, 3));
        }
    }

    private static void nameOfWithVersionOutOfRange() {
        for (int version : NO_VERSION) {
            refused("8: name of version " + version, ARGUMENT, x -> x.nameOf(4, version));
        }
    }

    private static void mergedWithoutSuchACard() {
        for (int card : NO_CARD) {
            refused("9: merged of card " + card, PLACE, x -> x.merged(card, MAIL));
            refused("9: of card " + card + ", kind 2", PLACE, x -> x.merged(card, 2));
        }
    }

    private static void mergedWithKindOutOfRange() {
        for (int kind : NO_KIND) {
            refused("9: merged of kind " + kind, ARGUMENT, x -> x.merged(0, kind));
        }
    }

    private static void mergedByValuesWithoutSuchACard() {
        for (int card : NO_CARD) {
            refused("10: mergedByValues of card " + card, PLACE, x -> x.mergedByValues(card, MAIL));
            refused("10: of card " + card + ", kind 2", PLACE, x -> x.mergedByValues(card, 2));
        }
    }

    private static void mergedByValuesWithKindOutOfRange() {
        for (int kind : NO_KIND) {
            refused("10: mergedByValues of kind " + kind, ARGUMENT, x -> x.mergedByValues(0, kind));
        }
    }

    private static void unsyncedWithoutSuchABook() {
        for (int book : NO_BOOK) {
            refused("11: unsynced of book " + book, PLACE, x -> x.unsynced(book));
        }
    }

    // ---- links

    private static void linkWithoutSuchACard() {
        for (int card : NO_CARD) {
            refused("12: link of card " + card, PLACE, x -> x.link(card, 3));
            refused("12: link with card " + card, PLACE, x -> x.link(4, card));
            refused("12: link of card " + card + " with itself", PLACE, x -> x.link(card, card));
        }
    }

    private static void linkOfTheSame() {
        for (int card = 0; card < 5; card++) {
            int of = card;
            refused("12: link of " + of + " with itself", ARGUMENT, x -> x.link(of, of));
        }
    }

    private static void linkOfLinkedOnes() {
        refused("12: link of 0 and 1 again", STATE, x -> x.link(0, 1));
        refused("12: link of 1 and 0 again", STATE, x -> x.link(1, 0));
        refused("12: link of 2 and 1 again", STATE, x -> x.link(2, 1));
    }

    private static void cutWithoutSuchACard() {
        for (int card : NO_CARD) {
            refused("13: cut of card " + card, PLACE, x -> bit(x.cut(card, 0)));
            refused("13: cut from card " + card, PLACE, x -> bit(x.cut(1, card)));
            refused("13: cut of card " + card + " from itself", PLACE, x -> bit(x.cut(card, card)));
        }
    }

    private static void cutOfUnlinkedOnes() {
        refused("13: cut of two groups", STATE, x -> bit(x.cut(3, 4)));
        refused("13: cut of one group, not linked", STATE, x -> bit(x.cut(0, 2)));
        refused("13: cut of one group, not linked", STATE, x -> bit(x.cut(2, 0)));
        for (int card = 0; card < 5; card++) {
            int of = card;
            refused("13: cut of " + of + " from itself", STATE, x -> bit(x.cut(of, of)));
        }
    }

    private static void groupWithoutSuchACard() {
        for (int card : NO_CARD) {
            refused("14: group of card " + card, PLACE, x -> x.group(card));
        }
    }

    private static void preferredWithoutSuchACard() {
        for (int card : NO_CARD) {
            refused("16: preferred of card " + card, PLACE, x -> x.preferred(card));
        }
    }

    private static void shownWithoutSuchACard() {
        for (int card : NO_CARD) {
            refused("17: shown for card " + card, PLACE, x -> x.shown(card, PHONE));
            refused("17: for card " + card + ", kind 2", PLACE, x -> x.shown(card, 2));
        }
    }

    private static void shownWithKindOutOfRange() {
        for (int kind : NO_KIND) {
            refused("17: shown of kind " + kind, ARGUMENT, x -> x.shown(4, kind));
        }
    }

    private static void editWithoutSuchACard() {
        for (int card : NO_CARD) {
            refused("18: edit of card " + card, PLACE, x -> x.edit(card, PHONE, 0));
            refused("18: of card " + card + ", kind 2", PLACE, x -> x.edit(card, 2, 29));
            refused("18: of card " + card + ", value 30", PLACE, x -> x.edit(card, MAIL, 30));
            refused("18: of card " + card + ", all else", PLACE, x -> x.edit(card, -1, -1));
        }
    }

    private static void editWithKindOrValueOutOfRange() {
        for (int kind : NO_KIND) {
            refused("18: edit of kind " + kind, ARGUMENT, x -> x.edit(0, kind, 0));
        }
        for (int value : NO_VALUE) {
            refused("18: edit of phone " + value, ARGUMENT, x -> x.edit(0, PHONE, value));
            refused("18: edit of mail " + value, ARGUMENT, x -> x.edit(4, MAIL, value));
        }
    }

    // ---- pairs

    private static void scoreWithoutSuchACard() {
        for (int card : NO_CARD) {
            refused("19: score of card " + card, PLACE, x -> x.score(card, 0));
            refused("19: score with card " + card, PLACE, x -> x.score(4, card));
            refused("19: score of card " + card + " with itself", PLACE, x -> x.score(card, card));
        }
    }

    private static void scoreOfTheSame() {
        for (int card = 0; card < 5; card++) {
            int of = card;
            refused("19: score of " + of + " with itself", ARGUMENT, x -> x.score(of, of));
        }
    }

    private static void pairAtWithoutSuchAPlace() {
        for (int place : new int[] {-1, 4, 5, -32, 32, 64, 256, 65536, Integer.MAX_VALUE, Integer.MIN_VALUE}) {
            refused("21: pair at " + place + " of four", PLACE, x -> x.pairAt(place));
        }
    }

    private static void turnDownWithoutSuchACard() {
        for (int card : NO_CARD) {
            refused("22: turn down of card " + card, PLACE, x -> x.turnDown(card, 4, true));
            refused("22: turn down with card " + card, PLACE, x -> x.turnDown(2, card, false));
            refused("22: turn down of card " + card + " with itself", PLACE, x -> x.turnDown(card, card, true));
        }
    }

    private static void turnDownOfTheSame() {
        for (int card = 0; card < 5; card++) {
            int of = card;
            refused("22: turn down of " + of + " with itself", ARGUMENT, x -> x.turnDown(of, of, true));
            refused("22: turn down of " + of + " with itself", ARGUMENT, x -> x.turnDown(of, of, false));
        }
    }

    private static void turnDownOfNoSuggestedPair() {
        int[][] none = {{1, 4}, {0, 1}, {0, 2}, {0, 3}, {1, 3}};
        String[] why = {"without a score", "linked", "in one group", "turned down for good", "turned down for now"};
        for (int which = 0; which < none.length; which++) {
            int one = none[which][0];
            int other = none[which][1];
            String what = "22: turn down, " + why[which];
            refused(what + ", for good", STATE, x -> x.turnDown(one, other, true));
            refused(what + ", for now", STATE, x -> x.turnDown(one, other, false));
            refused(what + ", the other way, for good", STATE, x -> x.turnDown(other, one, true));
            refused(what + ", the other way, for now", STATE, x -> x.turnDown(other, one, false));
        }
    }

    // ---- no card, and as many as there can be

    private static final String[] WITH_A_CARD = {"turn", "rename", "values", "nameOf", "merged", "mergedByValues",
        "link one", "link other", "cut one", "cut other", "group", "preferred", "shown", "edit", "score one",
        "score other", "turnDown one", "turnDown other"};

    private static long ask(CardMerger x, int which, int card) {
        switch (which) {
            case 0: return bit(x.turn(card, MINE, PHONE, 0));
            case 1: return x.rename(card, THEIRS, 0);
            case 2: return x.values(card, BASE, MAIL);
            case 3: return x.nameOf(card, MINE);
            case 4: return x.merged(card, PHONE);
            case 5: return x.mergedByValues(card, PHONE);
            case 6: return x.link(card, 0);
            case 7: return x.link(0, card);
            case 8: return bit(x.cut(card, 0));
            case 9: return bit(x.cut(0, card));
            case 10: return x.group(card);
            case 11: return x.preferred(card);
            case 12: return x.shown(card, MAIL);
            case 13: return x.edit(card, MAIL, 29);
            case 14: return x.score(card, 0);
            case 15: return x.score(0, card);
            case 16: return x.turnDown(card, 0, true);
            default: return x.turnDown(0, card, false);
        }
    }

    private static void newObjectHasNoSuchCardAndPlace() {
        for (int which = 0; which < WITH_A_CARD.length; which++) {
            int call = which;
            for (int card : new int[] {-1, 0, 1, 23, 24}) {
                CardMerger x = new CardMerger();
                String what = "1: " + WITH_A_CARD[call] + ", card " + card + " of a new object";
                Checks.refuses(what, PLACE, () -> ask(x, call, card));
                Checks.same(what + ", then", Scenes.told(x), Scenes.told(new CardMerger()));
            }
        }
        for (int place : new int[] {-1, 0, 1}) {
            Checks.refuses("1: pair at " + place + " of a new object", PLACE, () -> new CardMerger().pairAt(place));
        }
    }

    private static void fullObjectHasNoSuchCard() {
        for (int which = 0; which < WITH_A_CARD.length; which++) {
            int call = which;
            for (int card : new int[] {-1, 24, 25, 31, 32, 47}) {
                refusedByFull(WITH_A_CARD[call] + ", card " + card + " of 24", PLACE, x -> ask(x, call, card));
            }
            // Without a link and without a score only cut and turnDown refuse the last card.
            boolean asksForMore = WITH_A_CARD[call].startsWith("cut") || WITH_A_CARD[call].startsWith("turnDown");
            String due = asksForMore ? STATE : "fine";
            CardMerger x = Scenes.full();
            String got = Checks.outcome(() -> ask(x, call, 23));
            Checks.same(WITH_A_CARD[call] + ", card 23 of 24", got.startsWith("throws.") ? got : "fine", due);
        }
    }
}

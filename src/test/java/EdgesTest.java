/** The edges that the document names: the first and the last of each range, empty and full, nothing and all. */
public final class EdgesTest {
    private static final int PHONE = CardMerger.PHONE, MAIL = CardMerger.MAIL;
    private static final int MINE = CardMerger.MINE, THEIRS = CardMerger.THEIRS, BASE = CardMerger.BASE;
    private static final int CARDS = Scenes.FULL, NAMES = 32, VALUES = 30;
    private static final int ALL_CARDS = (1 << CARDS) - 1;
    private static final int ALL_VALUES = (1 << VALUES) - 1;
    private static final int ALL_PAIRS = CARDS * (CARDS - 1) / 2;

    public static void main(String[] args) {
        use512thCallAnswers();
        useAskingChangesNothing();
        termsEachBookTakesAllCards();
        termsEachNameFromFirstToLast();
        termsEachValueFromFirstToLast();
        termsEveryWayOfTheFirstAndTheLastValue();
        termsNamesClashIfAllThreeAreDifferent();
        turnToFullAndToEmpty();
        turnOfOneCardAndVersionAlone();
        renameToTheSameName();
        syncOfNoCards();
        syncOf24Clashes();
        syncOfFullSets();
        syncBringsWhatMergedTells();
        unsyncedFromNoneToAll();
        linkFromTwoToAll();
        linkOfAllPairs();
        cutOfAllLinksOfACard();
        groupOfOneAndOfAll();
        groupsFromNoneToAll();
        preferredOfOneBookAndOfTwo();
        shownEmptyAndFull();
        editOfTheFirstAndTheLastValue();
        editOfAllCards();
        scoreFromNoneToAll();
        scoreOfTheEndsOfAChain();
        pairsOfLessThanTwoCards();
        pairsFromNoneToAll();
        pairsOfTheLowestScore();
        pairAtFirstAndLast();
        pairAtOfTheGreatestScore();
        pairAtOfEachScoreApart();
        turnDownFromAllToNone();
        turnDownForGoodIsForEver();
        turnDownForNowIsUntilAnyValueIsAnother();
        turnDownForNowIsUntilAnyNameIsAnother();
        turnDownForNowTwice();
        turnDownForNowOfOnesLinkedSince();
        Checks.end("EdgesTest");
    }

    private static CardMerger cards(int count) {
        CardMerger x = new CardMerger();
        for (int card = 0; card < count; card++) {
            x.add(0, card);
        }
        return x;
    }

    private static void fill(CardMerger x, int card, int version, int kind) {
        for (int value = 0; value < VALUES; value++) {
            x.turn(card, version, kind, value);
        }
    }

    private static long bit(boolean answer) {
        return answer ? 1 : 0;
    }

    // ---- terms

    private static void use512thCallAnswers() {
        CardMerger x = cards(2);
        for (int call = 3; call < 511; call += 2) {
            x.turn(0, MINE, PHONE, 5);
            x.turn(1, MINE, PHONE, 5);
        }
        x.rename(1, MINE, 0);
        Checks.answers("the 512th call", 2, () -> x.score(0, 1));
    }

    private static void useAskingChangesNothing() {
        CardMerger x = Scenes.five();
        String first = Scenes.told(x);
        Checks.same("asked a second time", Scenes.told(x), first);
        Checks.same("asked before more calls", Scenes.goOn(x), Scenes.goOn(Scenes.five()));
    }

    private static void termsEachBookTakesAllCards() {
        for (int book = 0; book <= 2; book++) {
            int of = book;
            CardMerger x = new CardMerger();
            for (int card = 0; card < CARDS; card++) {
                int due = card;
                Checks.answers("2: cards of book " + of + " are numbered from 0", due, () -> x.add(of, 31));
                x.turn(card, MINE, MAIL, 29);
            }
            for (int other = 0; other <= 2; other++) {
                int asked = other;
                int due = asked == of ? CARDS : 0;
                Checks.answers("11: a card is in one book", due, () -> x.unsynced(asked));
                x.sync(asked);
                Checks.answers("5: all cards of a book, no other", asked >= of ? 0 : CARDS, () -> x.unsynced(of));
            }
        }
    }

    private static void termsEachNameFromFirstToLast() {
        for (int name = 0; name < NAMES; name++) {
            int due = name;
            CardMerger x = new CardMerger();
            Checks.answers("2: a card with name " + due, 0, () -> x.add(2, due));
            Checks.answers("8: MINE of a new card", due, () -> x.nameOf(0, MINE));
            Checks.answers("8: THEIRS of a new card", due, () -> x.nameOf(0, THEIRS));
            Checks.answers("8: BASE of a new card", due, () -> x.nameOf(0, BASE));
            CardMerger y = cards(1);
            y.rename(0, MINE, due);
            Checks.answers("4: MINE had this name", due, () -> y.rename(0, MINE, 0));
            y.rename(0, THEIRS, due);
            Checks.answers("5: no clash with the first name", 0, () -> y.sync(0));
            Checks.answers("5: the name comes from THEIRS to MINE", due, () -> y.nameOf(0, MINE));
            Checks.answers("5: the name comes from THEIRS to BASE", due, () -> y.nameOf(0, BASE));
        }
    }

    private static void termsEachValueFromFirstToLast() {
        for (int value = 0; value < VALUES; value++) {
            int of = value;
            for (int kind = PHONE; kind <= MAIL; kind++) {
                int in = kind;
                CardMerger x = cards(2);
                Checks.holds("3: value " + of + " comes", true, () -> x.turn(1, MINE, in, of));
                Checks.answers("7: it is one bit", 1 << of, () -> x.values(1, MINE, in));
                Checks.answers("9: it would come", 1 << of, () -> x.merged(1, in));
                Checks.answers("10: it would come", 1 << of, () -> x.mergedByValues(1, in));
                Checks.answers("17: it is shown", 1 << of, () -> x.shown(1, in));
                x.sync(0);
                Checks.answers("5: it came to BASE", 1 << of, () -> x.values(1, BASE, in));
                Checks.holds("3: it goes from THEIRS", false, () -> x.turn(1, THEIRS, in, of));
                Checks.answers("9: it would go", 0, () -> x.merged(1, in));
                Checks.answers("10: it would go", 0, () -> x.mergedByValues(1, in));
                Checks.answers("18: it goes from MINE", Checks.set(1), () -> x.edit(1, in, of));
                Checks.answers("18: it comes to MINE of card 0", Checks.set(0), () -> x.edit(0, in, of));
                Checks.answers("7: it came to card 0", 1 << of, () -> x.values(0, MINE, in));
                Checks.answers("18: it comes to MINE again", Checks.set(1), () -> x.edit(1, in, of));
                Checks.answers("19: both have it", in == PHONE ? 3 : 2, () -> x.score(0, 1));
            }
        }
    }

    /** Puts a value in MINE, THEIRS and BASE, or in some of them: bit 0 of the way is MINE, 1 THEIRS, 2 BASE. */
    private static CardMerger inSome(int way, int kind, int value) {
        CardMerger x = cards(1);
        boolean inBase = (way & 4) != 0;
        if (inBase) {
            x.turn(0, THEIRS, kind, value);
            x.sync(0);
        }
        if (((way & 1) != 0) != inBase) {
            x.turn(0, MINE, kind, value);
        }
        if (((way & 2) != 0) != inBase) {
            x.turn(0, THEIRS, kind, value);
        }
        return x;
    }

    private static void termsEveryWayOfTheFirstAndTheLastValue() {
        for (int value : new int[] {0, 29}) {
            for (int kind = PHONE; kind <= MAIL; kind++) {
                for (int way = 0; way < 8; way++) {
                    int in = kind;
                    boolean merged = way == 3 || way == 7 || way == 1 || way == 2;
                    int due = merged ? 1 << value : 0;
                    boolean changes = way != 0 && way != 7;
                    String what = "value " + value + " in some: " + way;
                    CardMerger x = inSome(way, kind, value);
                    Checks.answers("9: " + what, due, () -> x.merged(0, in));
                    Checks.answers("10: " + what, due, () -> x.mergedByValues(0, in));
                    Checks.answers("11: " + what, bit(changes), () -> x.unsynced(0));
                    Checks.answers("5: " + what, 0, () -> x.sync(0));
                    for (int version = MINE; version <= BASE; version++) {
                        int seen = version;
                        Checks.answers("5: synced " + what, due, () -> x.values(0, seen, in));
                    }
                }
            }
        }
    }

    private static void checkNames(int mine, int theirs, int base) {
        String what = mine + ", " + theirs + " and " + base;
        CardMerger x = new CardMerger();
        x.add(1, base);
        x.rename(0, MINE, mine);
        x.rename(0, THEIRS, theirs);
        int due = mine == base ? theirs : mine;
        boolean clash = mine != theirs && theirs != base && base != mine;
        boolean changes = mine != theirs || theirs != base;
        Checks.answers("11: the names " + what, bit(changes), () -> x.unsynced(1));
        Checks.answers("5: clashes of " + what, bit(clash), () -> x.sync(1));
        for (int version = MINE; version <= BASE; version++) {
            int seen = version;
            Checks.answers("5: the merged name of " + what, due, () -> x.nameOf(0, seen));
        }
        Checks.answers("11: the names are synced", 0, () -> x.unsynced(1));
    }

    private static void termsNamesClashIfAllThreeAreDifferent() {
        int[] names = {0, 1, 30, 31};
        for (int mine : names) {
            for (int theirs : names) {
                for (int base : names) {
                    checkNames(mine, theirs, base);
                }
            }
        }
    }

    // ---- cards

    private static void turnToFullAndToEmpty() {
        for (int version = MINE; version <= THEIRS; version++) {
            for (int kind = PHONE; kind <= MAIL; kind++) {
                int of = version;
                int in = kind;
                CardMerger x = cards(CARDS);
                fill(x, CARDS - 1, of, in);
                Checks.answers("7: all values", ALL_VALUES, () -> x.values(CARDS - 1, of, in));
                Checks.holds("3: one less than all", false, () -> x.turn(CARDS - 1, of, in, 29));
                Checks.answers("7: all but the last", ALL_VALUES >> 1, () -> x.values(CARDS - 1, of, in));
                Checks.holds("3: all again", true, () -> x.turn(CARDS - 1, of, in, 29));
                fill(x, CARDS - 1, of, in);
                Checks.answers("7: no values again", 0, () -> x.values(CARDS - 1, of, in));
                Checks.answers("11: as if nothing was", 0, () -> x.unsynced(0));
            }
        }
    }

    private static void turnOfOneCardAndVersionAlone() {
        for (int card : new int[] {0, 1, CARDS - 1}) {
            CardMerger x = Scenes.full();
            fill(x, card, MINE, PHONE);
            fill(x, card, THEIRS, MAIL);
            String told = Scenes.counted(x);
            String bare = "card " + card + " " + card + "/0/0 " + card + "/0/0 " + card + "/0/0; ";
            String full = "card " + card + " " + card + "/" + ALL_VALUES + "/0 " + card + "/0/" + ALL_VALUES + " "
                    + card + "/0/0; ";
            Checks.same("3: no other card, version and kind", told, Scenes.counted(Scenes.full()).replace(bare, full));
        }
    }

    private static void renameToTheSameName() {
        for (int name : new int[] {0, 31}) {
            CardMerger x = new CardMerger();
            x.add(0, name);
            Checks.answers("4: MINE to the same name", name, () -> x.rename(0, MINE, name));
            Checks.answers("4: THEIRS to the same name", name, () -> x.rename(0, THEIRS, name));
            Checks.answers("11: nothing is to be synced", 0, () -> x.unsynced(0));
        }
    }

    private static void syncOfNoCards() {
        for (int book = 0; book <= 2; book++) {
            int of = book;
            CardMerger x = new CardMerger();
            Checks.answers("5: of a new object", 0, () -> x.sync(of));
            Checks.answers("11: of a new object", 0, () -> x.unsynced(of));
            x.add((of + 1) % 3, 0);
            x.rename(0, MINE, 1);
            x.rename(0, THEIRS, 2);
            Checks.answers("5: of a book without cards", 0, () -> x.sync(of));
            Checks.answers("11: of a book without cards", 0, () -> x.unsynced(of));
            Checks.answers("8: another book's card is as it was", 2, () -> x.nameOf(0, THEIRS));
        }
    }

    private static void syncOf24Clashes() {
        CardMerger x = Scenes.fullOfOneName(2, 0);
        for (int card = 0; card < CARDS; card++) {
            x.rename(card, MINE, 30);
            x.rename(card, THEIRS, 31);
        }
        Checks.answers("5: all names clash", CARDS, () -> x.sync(2));
        for (int card = 0; card < CARDS; card++) {
            int of = card;
            Checks.answers("5: the name of MINE stays", 30, () -> x.nameOf(of, MINE));
            Checks.answers("5: THEIRS takes it", 30, () -> x.nameOf(of, THEIRS));
            Checks.answers("5: BASE takes it", 30, () -> x.nameOf(of, BASE));
        }
        Checks.answers("5: none clashes any more", 0, () -> x.sync(2));
    }

    private static void syncOfFullSets() {
        CardMerger x = cards(1);
        fill(x, 0, MINE, PHONE);
        fill(x, 0, THEIRS, MAIL);
        Checks.answers("9: all phones of MINE", ALL_VALUES, () -> x.merged(0, PHONE));
        Checks.answers("10: all phones of MINE", ALL_VALUES, () -> x.mergedByValues(0, PHONE));
        Checks.answers("9: all mails of THEIRS", ALL_VALUES, () -> x.merged(0, MAIL));
        Checks.answers("10: all mails of THEIRS", ALL_VALUES, () -> x.mergedByValues(0, MAIL));
        x.sync(0);
        Checks.answers("5: all phones came to BASE", ALL_VALUES, () -> x.values(0, BASE, PHONE));
        Checks.answers("5: all mails came to MINE", ALL_VALUES, () -> x.values(0, MINE, MAIL));
        fill(x, 0, THEIRS, PHONE);
        fill(x, 0, MINE, MAIL);
        Checks.answers("9: all phones are taken away", 0, () -> x.merged(0, PHONE));
        Checks.answers("10: all phones are taken away", 0, () -> x.mergedByValues(0, PHONE));
        Checks.answers("9: all mails are taken away", 0, () -> x.merged(0, MAIL));
        Checks.answers("10: all mails are taken away", 0, () -> x.mergedByValues(0, MAIL));
        x.sync(0);
        Checks.answers("5: MINE has no phones", 0, () -> x.values(0, MINE, PHONE));
        Checks.answers("5: BASE has no phones", 0, () -> x.values(0, BASE, PHONE));
        Checks.answers("5: THEIRS has no mails", 0, () -> x.values(0, THEIRS, MAIL));
        Checks.answers("5: BASE has no mails", 0, () -> x.values(0, BASE, MAIL));
    }

    private static void syncBringsWhatMergedTells() {
        CardMerger x = cards(1);
        for (int round = 0; round < 8; round++) {
            for (int value = 0; value < VALUES; value++) {
                if ((value * 7 + round) % 5 == 0) {
                    x.turn(0, MINE, round % 2, value);
                }
                if ((value * 5 + round) % 7 == 0) {
                    x.turn(0, THEIRS, round % 2, value);
                }
            }
            for (int kind = PHONE; kind <= MAIL; kind++) {
                int in = kind;
                int due = x.merged(0, in);
                Checks.answers("10: the same as merged", due, () -> x.mergedByValues(0, in));
                if (round % 3 == 2) {
                    x.sync(0);
                    Checks.answers("9: what a sync brings", due, () -> x.values(0, BASE, in));
                }
            }
        }
    }

    private static void unsyncedFromNoneToAll() {
        CardMerger x = Scenes.fullOfOneName(1, 5);
        for (int card = 0; card < CARDS; card++) {
            int due = card;
            Checks.answers("11: so many before", due, () -> x.unsynced(1));
            x.turn(card, card % 2, card / 2 % 2, card);
        }
        Checks.answers("11: all cards", CARDS, () -> x.unsynced(1));
        x.sync(0);
        x.sync(2);
        Checks.answers("11: all cards, after syncs of the other books", CARDS, () -> x.unsynced(1));
        x.sync(1);
        Checks.answers("11: none after a sync", 0, () -> x.unsynced(1));
    }

    // ---- links

    private static void linkFromTwoToAll() {
        CardMerger x = Scenes.full();
        for (int card = CARDS - 2; card >= 0; card--) {
            int one = card;
            int due = CARDS - card;
            Checks.answers("12: a group of " + due, due, () -> x.link(one, one + 1));
            Checks.answers("14: it goes to the last card", ALL_CARDS >> one << one, () -> x.group(CARDS - 1));
        }
        Checks.answers("12: the ends of a chain can be linked", CARDS, () -> x.link(CARDS - 1, 0));
    }

    private static void linkOfAllPairs() {
        CardMerger x = Scenes.full();
        for (int one = 0; one < CARDS; one++) {
            for (int other = one + 1; other < CARDS; other++) {
                int from = one;
                int to = other;
                int due = one == 0 ? other + 1 : CARDS;
                Checks.answers("12: link of " + from + " and " + to, due, () -> x.link(to, from));
            }
        }
        Checks.answers("15: all are one group", 1, () -> x.groups());
        for (int other = 0; other < CARDS; other++) {
            int to = other;
            String due = to == 11 ? Checks.ARGUMENT : Checks.STATE;
            Checks.refuses("12: there are links to all", due, () -> x.link(11, to));
        }
    }

    private static void cutOfAllLinksOfACard() {
        for (int card : new int[] {0, 12, CARDS - 1}) {
            CardMerger x = Scenes.full();
            int[] others = new int[CARDS - 1];
            for (int place = 0; place < CARDS - 1; place++) {
                others[place] = place < card ? place : place + 1;
                x.link(card, others[place]);
                if (place > 0) {
                    x.link(others[place - 1], others[place]);
                }
            }
            for (int place = 0; place < CARDS - 1; place++) {
                int other = others[place];
                boolean due = place < CARDS - 2;
                Checks.holds("13: link " + place + " of " + card + " is cut", due, () -> x.cut(card, other));
            }
            Checks.answers("14: it is alone", 1 << card, () -> x.group(card));
            Checks.answers("14: the others are one group", ALL_CARDS & ~(1 << card), () -> x.group(others[0]));
        }
    }

    private static void groupOfOneAndOfAll() {
        CardMerger x = Scenes.full();
        for (int card = 0; card < CARDS; card++) {
            int of = card;
            Checks.answers("14: itself alone", 1 << of, () -> x.group(of));
        }
        for (int card = 1; card < CARDS; card++) {
            x.link(card - 1, card);
        }
        for (int card = 0; card < CARDS; card++) {
            int of = card;
            Checks.answers("14: all cards", ALL_CARDS, () -> x.group(of));
        }
    }

    private static void groupsFromNoneToAll() {
        CardMerger x = new CardMerger();
        Checks.answers("15: no cards", 0, () -> x.groups());
        for (int card = 0; card < CARDS; card++) {
            int due = card + 1;
            x.add(2, 0);
            Checks.answers("15: each card a group", due, () -> x.groups());
        }
        for (int card = CARDS - 1; card > 0; card--) {
            int due = card;
            x.link(card, card - 1);
            Checks.answers("15: a group less", due, () -> x.groups());
        }
        for (int card = 1; card < CARDS; card++) {
            int due = card + 1;
            x.cut(card - 1, card);
            Checks.answers("15: a group more", due, () -> x.groups());
        }
    }

    private static void preferredOfOneBookAndOfTwo() {
        for (int book = 0; book <= 2; book++) {
            CardMerger x = Scenes.fullOfOneName(book, 0);
            for (int card = CARDS - 2; card >= 0; card--) {
                int due = card;
                x.link(CARDS - 1, card);
                Checks.answers("16: of one book the lowest number", due, () -> x.preferred(CARDS - 1));
            }
        }
        int[][] books = {{1, 0}, {2, 0}, {2, 1}};
        for (int[] two : books) {
            CardMerger x = new CardMerger();
            for (int card = 0; card < CARDS; card++) {
                x.add(card == CARDS - 1 ? two[1] : two[0], 0);
            }
            Checks.answers("16: itself alone", 0, () -> x.preferred(0));
            x.link(0, 1);
            Checks.answers("16: the lowest number", 0, () -> x.preferred(1));
            x.link(0, CARDS - 1);
            Checks.answers("16: the last card, of the lower book", CARDS - 1, () -> x.preferred(0));
        }
    }

    private static void shownEmptyAndFull() {
        CardMerger x = Scenes.full();
        for (int card = 1; card < CARDS; card++) {
            x.link(0, card);
        }
        Checks.answers("17: no phones", 0, () -> x.shown(0, PHONE));
        fill(x, CARDS - 1, MINE, MAIL);
        fill(x, CARDS - 2, THEIRS, PHONE);
        Checks.answers("17: no phones of THEIRS", 0, () -> x.shown(0, PHONE));
        Checks.answers("17: all mails of the last card", ALL_VALUES, () -> x.shown(0, MAIL));
        x.cut(0, CARDS - 1);
        Checks.answers("17: no mails without it", 0, () -> x.shown(0, MAIL));
        Checks.answers("17: all mails of it alone", ALL_VALUES, () -> x.shown(CARDS - 1, MAIL));
        for (int value = 0; value < VALUES; value++) {
            x.turn(value % (CARDS - 1), MINE, PHONE, value);
        }
        Checks.answers("17: all phones, of many cards", ALL_VALUES, () -> x.shown(7, PHONE));
    }

    private static void editOfTheFirstAndTheLastValue() {
        for (int value : new int[] {0, 29}) {
            for (int kind = PHONE; kind <= MAIL; kind++) {
                int in = kind;
                CardMerger x = new CardMerger();
                x.add(1, 0);
                x.add(0, 0);
                x.link(0, 1);
                Checks.answers("18: comes to the preferred card", Checks.set(1), () -> x.edit(0, in, value));
                Checks.answers("18: it is in MINE, no other", 1 << value, () -> x.values(1, MINE, in));
                Checks.answers("18: it is not in THEIRS", 0, () -> x.values(1, THEIRS, in));
                Checks.answers("18: nor in MINE of the other card", 0, () -> x.values(0, MINE, in));
                x.turn(0, MINE, in, value);
                Checks.answers("18: goes from both", Checks.set(0, 1), () -> x.edit(1, in, value));
                Checks.answers("18: it is not shown", 0, () -> x.shown(0, in));
                x.turn(0, MINE, in, value);
                Checks.answers("18: goes from the only one that has it", Checks.set(0), () -> x.edit(1, in, value));
                Checks.answers("11: as if nothing was", 0, () -> x.unsynced(0) + x.unsynced(1));
            }
        }
    }

    private static void editOfAllCards() {
        CardMerger x = Scenes.full();
        for (int card = 0; card < CARDS; card++) {
            x.turn(card, MINE, PHONE, 29);
            x.turn(card, MINE, PHONE, 28);
            x.turn(card, MINE, MAIL, 29);
            if (card > 0) {
                x.link(card, card - 1);
            }
        }
        Checks.answers("18: taken out of all cards", ALL_CARDS, () -> x.edit(23, PHONE, 29));
        for (int card = 0; card < CARDS; card++) {
            int of = card;
            Checks.answers("18: the other phone stays", Checks.set(28), () -> x.values(of, MINE, PHONE));
            Checks.answers("18: the mail stays", Checks.set(29), () -> x.values(of, MINE, MAIL));
        }
        Checks.answers("18: not to all cards again", Checks.set(0), () -> x.edit(23, PHONE, 29));
        Checks.answers("18: it is with the preferred card alone", Checks.set(28), () -> x.values(23, MINE, PHONE));
    }

    // ---- pairs

    private static void scoreFromNoneToAll() {
        CardMerger x = cards(2);
        int due = 0;
        for (int value = 0; value < VALUES; value++) {
            x.turn(0, MINE, PHONE, value);
            x.turn(0, MINE, MAIL, value);
            int before = due;
            Checks.answers("19: one alone has it", before, () -> x.score(0, 1));
            x.turn(1, MINE, PHONE, value);
            Checks.answers("19: 3 for each phone", before + 3, () -> x.score(1, 0));
            x.turn(1, MINE, MAIL, value);
            Checks.answers("19: 2 for each mail", before + 5, () -> x.score(0, 1));
            due = before + 5;
        }
        x.rename(1, MINE, 0);
        Checks.answers("19: 2 for the name", 152, () -> x.score(0, 1));
        x.link(1, 0);
        Checks.answers("19: 0 in one group", 0, () -> x.score(0, 1));
        Checks.answers("19: 0 in one group, the other way", 0, () -> x.score(1, 0));
        x.cut(1, 0);
        Checks.answers("19: all again", 152, () -> x.score(1, 0));
    }

    private static void scoreOfTheEndsOfAChain() {
        CardMerger x = Scenes.fullOfOneName(1, 9);
        for (int card = 1; card < CARDS; card++) {
            Checks.answers("19: of two groups", 2, () -> x.score(0, CARDS - 1));
            x.link(card, card - 1);
        }
        Checks.answers("19: the ends of a chain are in one group", 0, () -> x.score(0, CARDS - 1));
        x.cut(12, 11);
        Checks.answers("19: of the halves of a chain", 2, () -> x.score(0, CARDS - 1));
        Checks.answers("20: pairs of the halves of a chain", 144, () -> x.pairs());
    }

    private static void pairsOfLessThanTwoCards() {
        CardMerger x = new CardMerger();
        Checks.answers("20: no cards", 0, () -> x.pairs());
        x.add(0, 0);
        x.turn(0, MINE, PHONE, 0);
        Checks.answers("20: one card is no pair", 0, () -> x.pairs());
        Checks.refuses("21: one card is no pair", Checks.PLACE, () -> x.pairAt(0));
        x.add(2, 0);
        Checks.answers("20: two cards", 1, () -> x.pairs());
        Checks.answers("21: of two books", 1, () -> x.pairAt(0));
    }

    private static void pairsFromNoneToAll() {
        CardMerger x = Scenes.full();
        Checks.answers("20: none", 0, () -> x.pairs());
        for (int card = 1; card < CARDS; card++) {
            int due = card * (card + 1) / 2;
            x.rename(card, MINE, 0);
            Checks.answers("20: of " + (card + 1) + " with one name", due, () -> x.pairs());
        }
        for (int card = 1; card < CARDS; card++) {
            int due = ALL_PAIRS - card * (card + 1) / 2;
            x.link(card, card - 1);
            Checks.answers("20: " + (card + 1) + " are in one group", due, () -> x.pairs());
        }
    }

    private static void pairsOfTheLowestScore() {
        CardMerger x = cards(4);
        x.turn(0, MINE, MAIL, 0);
        x.turn(1, MINE, MAIL, 0);
        x.rename(3, MINE, 2);
        Checks.answers("20: one mail or the name is enough", 2, () -> x.pairs());
        Checks.refuses("22: nothing is not", Checks.STATE, () -> x.turnDown(0, 2, false));
        x.turn(1, MINE, MAIL, 0);
        x.rename(3, MINE, 3);
        Checks.answers("20: nothing is not", 0, () -> x.pairs());
    }

    private static void pairAtFirstAndLast() {
        CardMerger x = Scenes.fullOfOneName(0, 0);
        x.turn(22, MINE, PHONE, 29);
        x.turn(23, MINE, PHONE, 29);
        Checks.answers("21: the greatest score first", 2223, () -> x.pairAt(0));
        int place = 1;
        for (int lower = 0; lower < 22; lower++) {
            for (int other = lower + 1; other < CARDS; other++) {
                int at = place;
                int due = 100 * lower + other;
                Checks.answers("21: then the lower card, then the other one", due, () -> x.pairAt(at));
                place++;
            }
        }
        Checks.refuses("21: there are not so many", Checks.PLACE, () -> x.pairAt(ALL_PAIRS));
        Checks.refuses("21: below 0", Checks.PLACE, () -> x.pairAt(-1));
    }

    private static void pairAtOfTheGreatestScore() {
        CardMerger x = new CardMerger();
        for (int card = 0; card < 3; card++) {
            x.add(card, 31);
            fill(x, card, MINE, PHONE);
            fill(x, card, MINE, MAIL);
        }
        int[] alike = {1, 2, 102};
        for (int place = 0; place < 3; place++) {
            int at = place;
            Checks.answers("21: all have the greatest score", alike[at], () -> x.pairAt(at));
        }
        Checks.refuses("21: there are three", Checks.PLACE, () -> x.pairAt(3));
        x.turn(0, MINE, MAIL, 29);
        int[] apart = {102, 1, 2};
        for (int place = 0; place < 3; place++) {
            int at = place;
            Checks.answers("21: one has the greatest score", apart[at], () -> x.pairAt(at));
        }
        Checks.answers("22: it is turned down", 2, () -> x.turnDown(1, 2, true));
        Checks.answers("21: then none has the greatest score", 1, () -> x.pairAt(0));
        Checks.refuses("21: there are two", Checks.PLACE, () -> x.pairAt(2));
    }

    private static void pairAtOfEachScoreApart() {
        CardMerger x = cards(CARDS);
        // Each card from 1 to 21 shares a phone with card 23 and a mail with the next one.
        for (int value = 0; value < 22; value++) {
            x.turn(23, MINE, PHONE, value);
        }
        for (int card = 1; card < 22; card++) {
            x.turn(card, MINE, PHONE, card);
            x.turn(card, MINE, MAIL, card);
            x.turn(card + 1, MINE, MAIL, card);
        }
        x.rename(22, MINE, 23);
        x.turn(22, MINE, PHONE, 0);
        Checks.answers("20: as many as are alike", 21 + 21 + 1, () -> x.pairs());
        Checks.answers("21: a phone and the name", 2223, () -> x.pairAt(0));
        for (int card = 1; card < 22; card++) {
            int of = card;
            Checks.answers("21: then a phone each", 100 * of + 23, () -> x.pairAt(of));
            Checks.answers("21: then a mail each", 100 * of + of + 1, () -> x.pairAt(21 + of));
        }
        Checks.refuses("21: there are not so many", Checks.PLACE, () -> x.pairAt(43));
    }

    private static void turnDownFromAllToNone() {
        for (int round = 0; round < 2; round++) {
            boolean forGood = round == 0;
            CardMerger x = Scenes.fullOfOneName(2, 31);
            int left = ALL_PAIRS;
            for (int step = 1; step < CARDS; step++) {
                for (int card = 0; card + step < CARDS; card++) {
                    int lower = card;
                    int upper = card + step;
                    left--;
                    int due = left;
                    boolean turned = (step + card) % 2 == 0;
                    Checks.answers("22: so many are left", due,
                            () -> x.turnDown(turned ? upper : lower, turned ? lower : upper, forGood));
                }
            }
            Checks.refuses("21: none is left", Checks.PLACE, () -> x.pairAt(0));
            x.rename(23, MINE, 0);
            x.rename(23, MINE, 31);
            Checks.answers("22: those of the changed card", forGood ? 0 : 23, () -> x.pairs());
            x.rename(0, MINE, 0);
            x.rename(0, MINE, 31);
            Checks.answers("22: those of two changed cards", forGood ? 0 : 45, () -> x.pairs());
        }
    }

    private static void turnDownForGoodIsForEver() {
        CardMerger x = cards(2);
        x.rename(1, MINE, 0);
        Checks.answers("22: for good", 0, () -> x.turnDown(1, 0, true));
        fill(x, 0, MINE, PHONE);
        fill(x, 1, MINE, PHONE);
        Checks.answers("22: a greater score does not bring it back", 0, () -> x.pairs());
        fill(x, 0, MINE, PHONE);
        fill(x, 1, MINE, PHONE);
        x.rename(0, MINE, 20);
        x.rename(1, MINE, 20);
        Checks.answers("22: another name does not", 0, () -> x.pairs());
        x.link(0, 1);
        x.cut(0, 1);
        x.sync(0);
        Checks.answers("22: a link and a sync do not", 0, () -> x.pairs());
        Checks.refuses("21: it has no place", Checks.PLACE, () -> x.pairAt(0));
        Checks.refuses("22: it cannot be turned down again", Checks.STATE, () -> x.turnDown(0, 1, true));
        Checks.answers("19: it has a score", 2, () -> x.score(0, 1));
    }

    private static void turnDownForNowIsUntilAnyValueIsAnother() {
        for (int card = 0; card <= 1; card++) {
            for (int value = 0; value < VALUES; value++) {
                int changed = card;
                int kind = value % 2;
                int of = value;
                CardMerger x = cards(2);
                x.rename(1, MINE, 0);
                Checks.answers("22: for now", 0, () -> x.turnDown(0, 1, false));
                x.turn(changed, THEIRS, kind, of);
                Checks.answers("22: THEIRS does not bring it back", 0, () -> x.pairs());
                x.turn(changed, MINE, kind, of);
                Checks.answers("22: MINE does", 1, () -> x.pairs());
                x.turn(changed, MINE, kind, of);
                Checks.answers("22: also if it comes back to that", 1, () -> x.pairs());
            }
        }
    }

    private static void turnDownForNowIsUntilAnyNameIsAnother() {
        for (int card = 0; card <= 1; card++) {
            for (int name = 0; name < NAMES; name++) {
                int changed = card;
                int to = name;
                CardMerger x = cards(2);
                x.rename(1, MINE, 0);
                x.turn(0, MINE, MAIL, 29);
                x.turn(1, MINE, MAIL, 29);
                Checks.answers("22: for now", 0, () -> x.turnDown(0, 1, false));
                x.rename(changed, MINE, to);
                Checks.answers("22: only another name brings it back", bit(to != 0), () -> x.pairs());
                x.rename(changed, MINE, 0);
                Checks.answers("22: also if it comes back to that", bit(to != 0), () -> x.pairs());
            }
        }
    }

    private static void turnDownForNowTwice() {
        CardMerger x = cards(2);
        x.rename(1, MINE, 0);
        for (int round = 0; round < 40; round++) {
            int changed = round % 3 == 0 ? 0 : 1;
            Checks.answers("22: for now, once more", 0, () -> x.turnDown(changed, 1 - changed, false));
            Checks.refuses("22: it is none now", Checks.STATE, () -> x.turnDown(0, 1, false));
            x.turn(changed, MINE, PHONE, 0);
            Checks.answers("22: it is one again", 1, () -> x.pairs());
        }
        Checks.answers("22: and then for good", 0, () -> x.turnDown(0, 1, true));
        x.turn(0, MINE, PHONE, 0);
        Checks.answers("22: it is none any more", 0, () -> x.pairs());
    }

    private static void turnDownForNowOfOnesLinkedSince() {
        CardMerger x = cards(3);
        x.rename(1, MINE, 0);
        x.turnDown(0, 1, false);
        x.link(0, 2);
        x.link(2, 1);
        Checks.answers("18: an edit of their group changes one of both", Checks.set(0), () -> x.edit(1, PHONE, 3));
        Checks.answers("20: in one group they are no pair", 0, () -> x.pairs());
        x.cut(2, 1);
        Checks.answers("22: apart they are again", 1, () -> x.pairs());
        Checks.answers("21: it is this pair", 1, () -> x.pairAt(0));
    }
}

import java.io.IOException;
import java.nio.file.Files;
import java.nio.file.Path;
import java.util.ArrayList;
import java.util.List;
import java.util.regex.Matcher;
import java.util.regex.Pattern;

/** "Terms" of the document, sentence by sentence: above each test stand the words that it is about. */
public final class TermsTest {
    private static final int PHONE = CardMerger.PHONE, MAIL = CardMerger.MAIL;
    private static final int MINE = CardMerger.MINE, THEIRS = CardMerger.THEIRS, BASE = CardMerger.BASE;
    private static final int[] VERSIONS = {MINE, THEIRS, BASE};
    private static final int[] KINDS = {PHONE, MAIL};
    private static final int OLD = 5;

    public static void main(String[] args) throws IOException {
        threeBooks();
        atMost24CardsFrom0();
        aCardIsInOneBook();
        threeVersionsOfNamesAndSets();
        mergedSets();
        mergedNamesAndClashes();
        allVersionsBecomeTheMergedOne();
        linkedOfOneBookOrNot();
        groupsGoFromCardToCard();
        preferredCard();
        shownForTheWholeGroup();
        scoreOfPhonesMailsAndName();
        scoreByMineAloneOfDifferentGroups();
        suggestedAboveZero();
        turnedDownForGood();
        turnedDownForNow();
        whichExceptionIsThrown();
        theExceptionListedFirstIsThrown();
        whatThrowsChangesNothing();
        constants();
        headingsOfTheInterface();
        Checks.end("TermsTest");
    }

    /** Cards with the names 0, 1, 2 and so on, one in each of these books. */
    private static CardMerger cardsIn(int... books) {
        CardMerger x = new CardMerger();
        for (int card = 0; card < books.length; card++) {
            x.add(books[card], card);
        }
        return x;
    }

    // "There are 3 books, 0 to 2."
    private static void threeBooks() {
        CardMerger x = new CardMerger();
        for (int book = -2; book <= 4; book++) {
            int of = book;
            String what = "books: " + of;
            if (of >= 0 && of <= 2) {
                Checks.answers(what, of, () -> x.add(of, 0));
                Checks.answers(what, 0, () -> x.unsynced(of) + x.sync(of));
            } else {
                Checks.refuses(what, Checks.PLACE, () -> x.add(of, 0));
                Checks.refuses(what, Checks.PLACE, () -> x.unsynced(of));
                Checks.refuses(what, Checks.PLACE, () -> x.sync(of));
            }
        }
    }

    // "Cards are numbered from 0, at most 24;"
    private static void atMost24CardsFrom0() {
        CardMerger x = new CardMerger();
        for (int card = 0; card < 24; card++) {
            int number = card;
            Checks.refuses("cards: not there yet", Checks.PLACE, () -> x.group(number));
            Checks.answers("cards: numbered from 0", number, () -> x.add(1, 31));
            Checks.answers("cards: it is there", 1 << number, () -> x.group(number));
        }
        Checks.refuses("cards: at most 24", Checks.STATE, () -> x.add(1, 31));
        Checks.answers("cards: 24", 24, () -> x.cards());
    }

    // "a card is in one book."
    private static void aCardIsInOneBook() {
        for (int book = 0; book <= 2; book++) {
            int in = book;
            CardMerger x = cardsIn(book);
            x.rename(0, MINE, 9);
            for (int asked = 0; asked <= 2; asked++) {
                int of = asked;
                Checks.answers("book: in one alone", of == in ? 1 : 0, () -> x.unsynced(of));
            }
            x.sync((book + 1) % 3);
            x.sync((book + 2) % 3);
            Checks.answers("book: a sync of others is none of it", 0, () -> x.nameOf(0, BASE));
            x.sync(book);
            Checks.answers("book: a sync of its own is one", 9, () -> x.nameOf(0, BASE));
        }
    }

    // "It has three versions: MINE, THEIRS and BASE. A version has a name, 0 to 31, and for each of the kinds PHONE
    // and MAIL a set of values, 0 to 29 (as an int: bit v for the value v)."
    private static void threeVersionsOfNamesAndSets() {
        for (int value = 0; value <= 29; value++) {
            int of = value;
            CardMerger x = cardsIn(0);
            x.turn(0, MINE, PHONE, of);
            x.turn(0, MINE, MAIL, 29 - of);
            x.sync(0);
            x.turn(0, MINE, PHONE, of);
            x.turn(0, THEIRS, MAIL, 29 - of);
            x.rename(0, MINE, of + 2);
            x.rename(0, THEIRS, of + 1);
            int[] names = {of + 2, of + 1, 0};
            int[][] sets = {{0, 1 << (29 - of)}, {1 << of, 0}, {1 << of, 1 << (29 - of)}};
            for (int version : VERSIONS) {
                Checks.answers("versions: the name", names[version], () -> x.nameOf(0, version));
                for (int kind : KINDS) {
                    Checks.answers("versions: the set", sets[version][kind], () -> x.values(0, version, kind));
                }
            }
        }
        CardMerger x = cardsIn(0);
        Checks.refuses("versions: no fourth one", Checks.ARGUMENT, () -> x.nameOf(0, 3));
        Checks.refuses("versions: no name 32", Checks.ARGUMENT, () -> x.rename(0, MINE, 32));
        Checks.refuses("versions: no third kind", Checks.ARGUMENT, () -> x.values(0, MINE, 2));
        Checks.refuses("versions: no value 30", Checks.ARGUMENT, () -> x.turn(0, MINE, PHONE, 30) ? 1 : 0);
    }

    /** A card of which one value of one kind is in these versions alone. */
    private static CardMerger valueIn(int kind, int value, boolean mine, boolean theirs, boolean base) {
        CardMerger x = cardsIn(0);
        if (base) {
            x.turn(0, MINE, kind, value);
            x.sync(0);
        }
        if (mine != base) {
            x.turn(0, MINE, kind, value);
        }
        if (theirs != base) {
            x.turn(0, THEIRS, kind, value);
        }
        return x;
    }

    // "To sync a card is to merge its versions, of each kind: a value is in the merged set if it is in both MINE and
    // THEIRS, or in one of them and not in BASE."
    private static void mergedSets() {
        for (int way = 0; way < 8; way++) {
            boolean mine = (way & 1) != 0;
            boolean theirs = (way & 2) != 0;
            boolean base = (way & 4) != 0;
            boolean stays = (mine && theirs) || ((mine || theirs) && !base);
            for (int kind : KINDS) {
                for (int value : new int[] {0, 17, 29}) {
                    String what = "merged set: MINE " + mine + ", THEIRS " + theirs + ", BASE " + base;
                    int due = stays ? 1 << value : 0;
                    CardMerger x = valueIn(kind, value, mine, theirs, base);
                    Checks.answers(what, due, () -> x.merged(0, kind));
                    Checks.answers(what + ", by values", due, () -> x.mergedByValues(0, kind));
                    Checks.answers(what + ", the other kind", 0, () -> x.merged(0, 1 - kind));
                    Checks.answers(what + ", no name clashes", 0, () -> x.sync(0));
                    Checks.answers(what + ", after the sync", due, () -> x.values(0, MINE, kind));
                }
            }
        }
    }

    // "The merged name is that of THEIRS if the name of MINE is that of BASE, and otherwise that of MINE; the names
    // clash if all three are different."
    private static void mergedNamesAndClashes() {
        int[][] runs = {
            // MINE, THEIRS, merged, clashes; BASE is OLD
            {OLD, OLD, OLD, 0}, {OLD, 8, 8, 0}, {9, OLD, 9, 0}, {9, 9, 9, 0}, {9, 8, 9, 1},
            {0, 31, 0, 1}, {31, 0, 31, 1},
        };
        for (int[] run : runs) {
            CardMerger x = new CardMerger();
            x.add(2, OLD);
            x.rename(0, MINE, run[0]);
            x.rename(0, THEIRS, run[1]);
            String what = "merged name: of " + run[0] + " and " + run[1];
            Checks.answers(what + ", clashes", run[3], () -> x.sync(2));
            Checks.answers(what, run[2], () -> x.nameOf(0, MINE));
        }
    }

    // "Then all three versions become the merged one."
    private static void allVersionsBecomeTheMergedOne() {
        CardMerger x = new CardMerger();
        x.add(0, OLD);
        x.turn(0, MINE, PHONE, 3);
        x.turn(0, THEIRS, PHONE, 4);
        x.turn(0, THEIRS, MAIL, 29);
        x.rename(0, MINE, 6);
        x.rename(0, THEIRS, 7);
        x.sync(0);
        for (int version : VERSIONS) {
            Checks.answers("all versions: phones", Checks.set(3, 4), () -> x.values(0, version, PHONE));
            Checks.answers("all versions: mails", Checks.set(29), () -> x.values(0, version, MAIL));
            Checks.answers("all versions: the name", 6, () -> x.nameOf(0, version));
        }
    }

    // "Two cards can be linked, of one book or not;"
    private static void linkedOfOneBookOrNot() {
        for (int book = 0; book <= 2; book++) {
            for (int next = 0; next <= 2; next++) {
                CardMerger x = cardsIn(book, next);
                Checks.answers("linked: of the books " + book + " and " + next, 2, () -> x.link(1, 0));
                Checks.answers("linked: one group", Checks.set(0, 1), () -> x.group(0));
            }
        }
    }

    // "a group is a card and all to which one comes from it by links, from card to card."
    private static void groupsGoFromCardToCard() {
        CardMerger x = cardsIn(0, 1, 2, 0, 1, 2);
        Checks.answers("group: a card alone", Checks.set(3), () -> x.group(3));
        x.link(5, 0);
        x.link(3, 5);
        x.link(2, 3);
        for (int card : new int[] {0, 2, 3, 5}) {
            Checks.answers("group: from " + card, Checks.set(0, 2, 3, 5), () -> x.group(card));
        }
        Checks.answers("group: not linked", Checks.set(1), () -> x.group(1));
        Checks.answers("group: three groups", 3, () -> x.groups());
        x.link(4, 5);
        Checks.answers("group: two groups", 2, () -> x.groups());
        x.cut(5, 3);
        Checks.answers("group: one comes no farther", Checks.set(0, 4, 5), () -> x.group(0));
        Checks.answers("group: nor back", Checks.set(2, 3), () -> x.group(2));
        x.link(0, 2);
        x.link(5, 3);
        x.cut(3, 2);
        for (int card : new int[] {0, 2, 3, 4, 5}) {
            Checks.answers("group: on another way, from " + card, Checks.set(0, 2, 3, 4, 5), () -> x.group(card));
        }
    }

    // "The preferred card of a group is the one in the book with the lowest number, of several the one with the
    // lowest number."
    private static void preferredCard() {
        for (int books = 0; books < 27; books++) {
            int[] of = {books % 3, books / 3 % 3, books / 9};
            CardMerger x = cardsIn(of);
            x.link(2, 1);
            x.link(1, 0);
            int due = 0;
            for (int card = 1; card < 3; card++) {
                due = of[card] < of[due] ? card : due;
            }
            int preferred = due;
            for (int card = 0; card < 3; card++) {
                int asked = card;
                Checks.answers("preferred: of books " + books, preferred, () -> x.preferred(asked));
            }
        }
    }

    // "What is shown for a card is shown for its whole group: the name of MINE of the preferred card, and of each
    // kind all values that are in MINE of one of its cards."
    private static void shownForTheWholeGroup() {
        CardMerger x = cardsIn(2, 1, 2, 0);
        x.link(0, 1);
        x.link(1, 2);
        x.turn(0, MINE, PHONE, 0);
        x.turn(0, MINE, PHONE, 1);
        x.turn(1, MINE, PHONE, 0);
        x.turn(2, MINE, PHONE, 29);
        x.turn(2, MINE, MAIL, 7);
        x.turn(2, THEIRS, MAIL, 8);
        x.turn(3, MINE, MAIL, 9);
        x.rename(1, MINE, 30);
        x.rename(1, THEIRS, 20);
        for (int card = 0; card < 3; card++) {
            int of = card;
            Checks.answers("shown: the name", 30, () -> x.nameOf(x.preferred(of), MINE));
            Checks.answers("shown: phones", Checks.set(0, 1, 29), () -> x.shown(of, PHONE));
            Checks.answers("shown: mails", Checks.set(7), () -> x.shown(of, MAIL));
        }
        Checks.answers("shown: of another group", Checks.set(9), () -> x.shown(3, MAIL));
        Checks.answers("shown: none of the first group", 0, () -> x.shown(3, PHONE));
    }

    // "is 3 for each phone that both have, 2 for each mail that both have, and 2 more if their names are the same."
    private static void scoreOfPhonesMailsAndName() {
        for (int phones = 0; phones <= 3; phones++) {
            for (int mails = 0; mails <= 3; mails++) {
                CardMerger x = cardsIn(0, 1);
                for (int card = 0; card < 2; card++) {
                    for (int value = 0; value < 5; value++) {
                        // Beside what both have, each has values of its own.
                        turnIf(value < phones || value == 3 + card, x, card, PHONE, value);
                        turnIf(value < mails || value == 4 - card, x, card, MAIL, value);
                    }
                }
                int due = 3 * phones + 2 * mails;
                Checks.answers("score: " + phones + " phones, " + mails + " mails", due, () -> x.score(0, 1));
                x.rename(0, MINE, 1);
                Checks.answers("score: and the name", due + 2, () -> x.score(1, 0));
            }
        }
    }

    private static void turnIf(boolean has, CardMerger x, int card, int kind, int value) {
        if (has) {
            x.turn(card, MINE, kind, value);
        }
    }

    // "The score of two cards of different groups, by MINE alone,"
    private static void scoreByMineAloneOfDifferentGroups() {
        CardMerger x = cardsIn(0, 0, 2);
        for (int card = 0; card < 2; card++) {
            x.turn(card, THEIRS, PHONE, 3);
            x.turn(card, THEIRS, MAIL, 3);
            x.rename(card, THEIRS, 9);
        }
        Checks.answers("score: not by THEIRS", 0, () -> x.score(0, 1));
        x.sync(0);
        Checks.answers("score: by MINE", 7, () -> x.score(0, 1));
        x.turn(0, MINE, PHONE, 3);
        x.rename(1, MINE, 8);
        Checks.answers("score: not by BASE", 2, () -> x.score(0, 1));
        x.link(2, 0);
        Checks.answers("score: of different groups", 2, () -> x.score(0, 1));
        x.link(1, 2);
        Checks.answers("score: of one group", 0, () -> x.score(0, 1));
    }

    // "Two cards with a score above 0 are a suggested pair, if they were not turned down."
    private static void suggestedAboveZero() {
        CardMerger x = cardsIn(0, 1, 2, 2);
        Checks.answers("suggested: none has a score", 0, () -> x.pairs());
        x.turn(0, MINE, MAIL, 4);
        x.turn(2, MINE, MAIL, 4);
        Checks.answers("suggested: one has", 1, () -> x.pairs());
        Checks.answers("suggested: it", 2, () -> x.pairAt(0));
        x.rename(3, MINE, 1);
        Checks.answers("suggested: two have", 2, () -> x.pairs());
        Checks.answers("suggested: one was turned down", 1, () -> x.turnDown(2, 0, false));
        Checks.answers("suggested: the other one", 103, () -> x.pairAt(0));
        Checks.answers("suggested: that one was turned down too", 0, () -> x.turnDown(1, 3, true));
    }

    // "Turned down for good they are never suggested again;"
    private static void turnedDownForGood() {
        CardMerger x = new CardMerger();
        x.add(0, 1);
        x.add(0, 1);
        x.turnDown(1, 0, true);
        for (int card = 0; card < 2; card++) {
            x.turn(card, MINE, PHONE, 2);
            Checks.answers("for good: another phone", 0, () -> x.pairs());
            x.rename(card, MINE, 3);
            Checks.answers("for good: another name", 0, () -> x.pairs());
        }
        x.sync(0);
        Checks.answers("for good: a sync", 0, () -> x.pairs());
        Checks.answers("for good: though they have a score", 5, () -> x.score(0, 1));
        x.add(1, 3);
        Checks.answers("for good: others with each of them", 2, () -> x.pairs());
        x.turnDown(0, 2, true);
        x.turnDown(2, 1, true);
        Checks.answers("for good: each of all three", 0, () -> x.pairs());
    }

    // "turned down for now, they are again as soon as MINE of one of both is another than it was then, also if it
    // comes back to that."
    private static void turnedDownForNow() {
        for (int card = 0; card < 2; card++) {
            CardMerger x = new CardMerger();
            x.add(0, 1);
            x.add(0, 1);
            x.add(0, 2);
            x.turnDown(0, 1, false);
            x.turn(card, THEIRS, MAIL, 0);
            x.rename(card, MINE, 1);
            x.turn(2, MINE, MAIL, 0);
            x.link(1, 2);
            x.cut(2, 1);
            Checks.answers("for now: MINE is as it was", 0, () -> x.pairs());
            x.turn(card, MINE, PHONE, 0);
            Checks.answers("for now: a phone is another", 1, () -> x.pairs());
            x.turn(card, MINE, PHONE, 0);
            Checks.answers("for now: the phone comes back", 1, () -> x.pairs());
            Checks.answers("for now: once more", 0, () -> x.turnDown(1, 0, false));
            x.rename(card, MINE, 7);
            Checks.answers("for now: without a score", 0, () -> x.pairs());
            x.rename(card, MINE, 1);
            Checks.answers("for now: the name comes back", 1, () -> x.pairs());
            Checks.answers("for now: a third time", 0, () -> x.turnDown(0, 1, false));
            x.sync(0);
            Checks.answers("for now: a sync brought a mail, of two cards", 2, () -> x.pairs());
            Checks.answers("for now: they are the first of them", 1, () -> x.pairAt(0));
        }
    }

    // "An IndexOutOfBoundsException is thrown if there is no such book, card or place, an IllegalArgumentException if
    // another argument is out of its range, an IllegalStateException as told."
    private static void whichExceptionIsThrown() {
        CardMerger x = cardsIn(0, 1, 2);
        x.link(0, 1);
        Checks.refuses("throws: no such book", Checks.PLACE, () -> x.sync(3));
        Checks.refuses("throws: no such card", Checks.PLACE, () -> x.preferred(3));
        Checks.refuses("throws: no such place", Checks.PLACE, () -> x.pairAt(0));
        Checks.refuses("throws: a name", Checks.ARGUMENT, () -> x.add(0, -1));
        Checks.refuses("throws: a version", Checks.ARGUMENT, () -> x.rename(0, BASE, 0));
        Checks.refuses("throws: a kind", Checks.ARGUMENT, () -> x.shown(0, -1));
        Checks.refuses("throws: a value", Checks.ARGUMENT, () -> x.edit(0, PHONE, -1));
        Checks.refuses("throws: the same card", Checks.ARGUMENT, () -> x.score(2, 2));
        Checks.refuses("throws: linked", Checks.STATE, () -> x.link(1, 0));
        Checks.refuses("throws: not linked", Checks.STATE, () -> x.cut(1, 2) ? 1 : 0);
        Checks.refuses("throws: no suggested pair", Checks.STATE, () -> x.turnDown(1, 2, true));
    }

    // "If several exceptions of a throws clause apply, the one that is listed first is thrown."
    private static void theExceptionListedFirstIsThrown() {
        CardMerger x = Scenes.full();
        Checks.refuses("first: add, all", Checks.PLACE, () -> x.add(-1, 32));
        Checks.refuses("first: add, name and 24 cards", Checks.ARGUMENT, () -> x.add(0, 32));
        Checks.refuses("first: turn", Checks.PLACE, () -> x.turn(24, BASE, 2, 30) ? 1 : 0);
        Checks.refuses("first: rename", Checks.PLACE, () -> x.rename(24, BASE, 32));
        Checks.refuses("first: values", Checks.PLACE, () -> x.values(24, 3, 2));
        Checks.refuses("first: nameOf", Checks.PLACE, () -> x.nameOf(24, 3));
        Checks.refuses("first: merged", Checks.PLACE, () -> x.merged(24, 2));
        Checks.refuses("first: mergedByValues", Checks.PLACE, () -> x.mergedByValues(24, 2));
        Checks.refuses("first: link, no card and the same", Checks.PLACE, () -> x.link(24, 24));
        Checks.refuses("first: cut, no card and not linked", Checks.PLACE, () -> x.cut(0, 24) ? 1 : 0);
        Checks.refuses("first: shown", Checks.PLACE, () -> x.shown(24, 2));
        Checks.refuses("first: edit", Checks.PLACE, () -> x.edit(24, 2, 30));
        Checks.refuses("first: score", Checks.PLACE, () -> x.score(24, 24));
        Checks.refuses("first: turnDown, no card and the same", Checks.PLACE, () -> x.turnDown(-1, -1, true));
        Checks.refuses("first: turnDown, the same, no pair", Checks.ARGUMENT, () -> x.turnDown(1, 1, true));
    }

    // "A call that throws an exception changes nothing."
    private static void whatThrowsChangesNothing() {
        CardMerger x = Scenes.five();
        Checks.Call[] calls = {
            () -> x.add(0, 32), () -> x.add(3, 0), () -> x.turn(0, MINE, PHONE, 30) ? 1 : 0,
            () -> x.turn(0, BASE, PHONE, 1) ? 1 : 0, () -> x.rename(0, MINE, 32), () -> x.rename(0, BASE, 1),
            () -> x.sync(3), () -> x.link(0, 1), () -> x.link(4, 4), () -> x.cut(0, 2) ? 1 : 0,
            () -> x.edit(0, PHONE, 30), () -> x.edit(0, 2, 0), () -> x.turnDown(0, 3, false),
            () -> x.turnDown(1, 4, true), () -> x.turnDown(4, 4, true), () -> x.pairAt(4),
        };
        for (int which = 0; which < calls.length; which++) {
            String outcome = Checks.outcome(calls[which]);
            Checks.holds("nothing: call " + which + " throws", true, () -> outcome.startsWith("throws."));
        }
        Checks.same("nothing: what can be asked", Scenes.told(x), Scenes.told(Scenes.five()));
        Checks.same("nothing: what comes later", Scenes.goOn(x), Scenes.goOn(Scenes.five()));
    }

    // "The constants: `NONE = -1`: There is none. `PHONE = 0, MAIL = 1`: Kinds of values. `MINE = 0, THEIRS = 1,
    // BASE = 2`: Versions of cards."
    private static void constants() {
        Checks.answers("constants: NONE", -1, () -> CardMerger.NONE);
        Checks.answers("constants: PHONE", 0, () -> CardMerger.PHONE);
        Checks.answers("constants: MAIL", 1, () -> CardMerger.MAIL);
        Checks.answers("constants: MINE", 0, () -> CardMerger.MINE);
        Checks.answers("constants: THEIRS", 1, () -> CardMerger.THEIRS);
        Checks.answers("constants: BASE", 2, () -> CardMerger.BASE);
    }

    // "Ahead of the calls .. the interface says: ---- cards.", and so on.
    private static void headingsOfTheInterface() throws IOException {
        Pattern mark = Pattern.compile("^    (?:// ---- (\\w+)$|public (?:int|boolean) (\\w+)\\()");
        List<String> found = new ArrayList<>();
        for (String line : Files.readAllLines(Path.of("src/main/java/CardMerger.java"))) {
            Matcher matcher = mark.matcher(line);
            if (matcher.find()) {
                found.add(matcher.group(1) != null ? "---- " + matcher.group(1) : matcher.group(2));
            }
        }
        Checks.same("headings", String.join(" ", found), "---- cards add turn rename sync cards values nameOf merged"
                + " mergedByValues unsynced ---- links link cut group groups preferred shown edit"
                + " ---- pairs score pairs pairAt turnDown");
    }
}

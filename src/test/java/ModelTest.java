import java.util.Random;

/** Runs of calls as they fall, the same ones each time, of which the class and the model must answer alike. */
public final class ModelTest {
    private static final int RUNS = 400;
    private static final int CALLS = 512;
    private static final int MOST_TOLD = 20;
    private static final int[] WILD = {-1, -2, 2, 3, 24, 29, 30, 31, 32, 33, 64, 276,
        Integer.MAX_VALUE, Integer.MIN_VALUE};

    private final Random dice;
    private final CardMerger real = new CardMerger();
    private final Model model = new Model();
    private final int cards;
    private final int names;
    private final int values;
    private int left = CALLS;

    private ModelTest(int seed) {
        dice = new Random(seed);
        // Few cards, names and values meet often; many of them reach the limits of the document.
        cards = new int[] {2, 3, 5, 9, 24}[seed % 5];
        names = seed % 2 == 0 ? 3 : 32;
        values = seed % 3 == 0 ? 30 : 3;
    }

    public static void main(String[] args) {
        for (int seed = 0; seed < RUNS; seed++) {
            new ModelTest(seed).run(seed);
        }
        Checks.end("ModelTest");
    }

    private void run(int seed) {
        StringBuilder told = new StringBuilder("run " + seed + ":");
        boolean alike = true;
        for (int call = 0; call < CALLS && alike && left > 0; call++) {
            int which = call < cards ? 0 : dice.nextInt(24);
            alike = step(which, told);
            if (alike && dice.nextInt(40) == 0) {
                alike = sweep(told);
            }
        }
    }

    private boolean alike(StringBuilder told, String call, Checks.Call here, Checks.Call there) {
        if (left <= 0) {
            return true;
        }
        left--;
        told.append(' ').append(call);
        String got = Checks.outcome(here);
        String due = Checks.outcome(there);
        Checks.same(told.substring(Math.max(0, told.length() - 60 * MOST_TOLD)), got, due);
        return got.equals(due);
    }

    private int below(int limit) {
        return dice.nextInt(30) == 0 ? WILD[dice.nextInt(WILD.length)] : dice.nextInt(limit);
    }

    private int card() {
        return below(Math.max(1, Math.min(cards, model.cards())));
    }

    private int place() {
        return below(Math.max(1, model.pairs() + 1));
    }

    private boolean step(int which, StringBuilder told) {
        switch (which) {
            case 0, 1: return add(told, below(3), below(names));
            case 2, 3, 4, 5: return turn(told, card(), below(2), below(2), below(values));
            case 6, 7: return rename(told, card(), below(2), below(names));
            case 8: return sync(told, below(3));
            case 9: return link(told, card(), card());
            case 10, 11: return cut(told, card(), card());
            case 12, 13: return edit(told, card(), below(2), below(values));
            case 14, 15, 16: return turnDown(told, card(), card(), dice.nextInt(4) == 0);
            case 17: return turnDownFirst(told);
            case 18, 19, 20: return ask(told, card(), below(3), below(2));
            case 21, 22: return askPairs(told, card(), card(), place());
            default: return askAll(told, below(3));
        }
    }

    private boolean add(StringBuilder told, int book, int name) {
        if (model.cards() >= cards && cards < 24) {
            return true;
        }
        return alike(told, "add(" + book + ", " + name + ")", () -> real.add(book, name), () -> model.add(book, name));
    }

    private boolean turn(StringBuilder told, int card, int version, int kind, int value) {
        return alike(told, "turn(" + card + ", " + version + ", " + kind + ", " + value + ")",
                () -> real.turn(card, version, kind, value) ? 1 : 0,
                () -> model.turn(card, version, kind, value) ? 1 : 0);
    }

    private boolean rename(StringBuilder told, int card, int version, int name) {
        return alike(told, "rename(" + card + ", " + version + ", " + name + ")",
                () -> real.rename(card, version, name), () -> model.rename(card, version, name));
    }

    private boolean sync(StringBuilder told, int book) {
        return alike(told, "sync(" + book + ")", () -> real.sync(book), () -> model.sync(book));
    }

    private boolean link(StringBuilder told, int one, int other) {
        return alike(told, "link(" + one + ", " + other + ")",
                () -> real.link(one, other), () -> model.link(one, other));
    }

    private boolean cut(StringBuilder told, int one, int other) {
        return alike(told, "cut(" + one + ", " + other + ")",
                () -> real.cut(one, other) ? 1 : 0, () -> model.cut(one, other) ? 1 : 0);
    }

    private boolean edit(StringBuilder told, int card, int kind, int value) {
        return alike(told, "edit(" + card + ", " + kind + ", " + value + ")",
                () -> real.edit(card, kind, value), () -> model.edit(card, kind, value));
    }

    private boolean turnDown(StringBuilder told, int one, int other, boolean good) {
        return alike(told, "turnDown(" + one + ", " + other + ", " + good + ")",
                () -> real.turnDown(one, other, good), () -> model.turnDown(one, other, good));
    }

    private boolean turnDownFirst(StringBuilder told) {
        if (model.pairs() == 0) {
            return true;
        }
        int first = model.pairAt(0);
        return turnDown(told, first % 100, first / 100, false);
    }

    private boolean ask(StringBuilder told, int card, int version, int kind) {
        return alike(told, "values(" + card + ", " + version + ", " + kind + ")",
                        () -> real.values(card, version, kind), () -> model.values(card, version, kind))
                && alike(told, "nameOf(" + card + ", " + version + ")",
                        () -> real.nameOf(card, version), () -> model.nameOf(card, version))
                && alike(told, "merged(" + card + ", " + kind + ")",
                        () -> real.merged(card, kind), () -> model.merged(card, kind))
                && alike(told, "mergedByValues(" + card + ", " + kind + ")",
                        () -> real.mergedByValues(card, kind), () -> model.merged(card, kind))
                && alike(told, "shown(" + card + ", " + kind + ")",
                        () -> real.shown(card, kind), () -> model.shown(card, kind))
                && alike(told, "group(" + card + ")", () -> real.group(card), () -> model.group(card))
                && alike(told, "preferred(" + card + ")", () -> real.preferred(card), () -> model.preferred(card));
    }

    private boolean askPairs(StringBuilder told, int one, int other, int place) {
        return alike(told, "score(" + one + ", " + other + ")",
                        () -> real.score(one, other), () -> model.score(one, other))
                && alike(told, "pairAt(" + place + ")", () -> real.pairAt(place), () -> model.pairAt(place));
    }

    private boolean askAll(StringBuilder told, int book) {
        return alike(told, "cards()", () -> real.cards(), () -> model.cards())
                && alike(told, "groups()", () -> real.groups(), () -> model.groups())
                && alike(told, "pairs()", () -> real.pairs(), () -> model.pairs())
                && alike(told, "unsynced(" + book + ")", () -> real.unsynced(book), () -> model.unsynced(book));
    }

    /** Asks for all pairs, and for all that can be asked of a few cards. */
    private boolean sweep(StringBuilder told) {
        boolean alike = true;
        for (int place = 0; place <= Math.min(20, model.pairs()) && alike; place++) {
            int at = place;
            alike = alike(told, "pairAt(" + at + ")", () -> real.pairAt(at), () -> model.pairAt(at));
        }
        for (int card = 0; card < Math.min(3, model.cards()) && alike; card++) {
            for (int version = 0; version < 3 && alike; version++) {
                alike = ask(told, card, version, version % 2);
            }
        }
        return alike;
    }
}

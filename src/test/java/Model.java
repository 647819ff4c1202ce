import java.util.ArrayList;
import java.util.Comparator;
import java.util.HashMap;
import java.util.HashSet;
import java.util.List;
import java.util.Map;
import java.util.Set;
import java.util.TreeSet;

/** The document once more, told with sets and lists, as plainly and as slowly as it may be. */
final class Model {
    private static final class Version {
        int name;
        final List<Set<Integer>> values = List.of(new TreeSet<>(), new TreeSet<>());

        void become(Version other) {
            name = other.name;
            for (int kind = 0; kind < 2; kind++) {
                Set<Integer> taken = new TreeSet<>(other.values.get(kind));
                values.get(kind).clear();
                values.get(kind).addAll(taken);
            }
        }

        String told() {
            return name + " " + values;
        }
    }

    private static final class Card {
        int book;
        final List<Version> versions = List.of(new Version(), new Version(), new Version());

        Version mine() {
            return versions.get(0);
        }

        Version theirs() {
            return versions.get(1);
        }

        Version base() {
            return versions.get(2);
        }

        Version merged() {
            Version merged = new Version();
            boolean mineKept = mine().name == base().name;
            merged.name = mineKept ? theirs().name : mine().name;
            for (int kind = 0; kind < 2; kind++) {
                for (int value = 0; value < 30; value++) {
                    boolean here = mine().values.get(kind).contains(value);
                    boolean there = theirs().values.get(kind).contains(value);
                    boolean before = base().values.get(kind).contains(value);
                    if (here && there || (here || there) && !before) {
                        merged.values.get(kind).add(value);
                    }
                }
            }
            return merged;
        }
    }

    private final List<Card> cards = new ArrayList<>();
    private final Set<List<Integer>> links = new HashSet<>();
    private final Set<List<Integer>> forGood = new HashSet<>();
    private final Map<List<Integer>, String> forNow = new HashMap<>();

    int add(int book, int name) {
        placeIf(book >= 0 && book <= 2);
        argumentIf(name >= 0 && name <= 31);
        stateIf(cards.size() < 24);
        Card card = new Card();
        card.book = book;
        for (Version version : card.versions) {
            version.name = name;
        }
        cards.add(card);
        return cards.size() - 1;
    }

    boolean turn(int card, int version, int kind, int value) {
        placeIf(isCard(card));
        argumentIf(version == 0 || version == 1);
        argumentIf(isKind(kind) && isValue(value));
        Set<Integer> set = cards.get(card).versions.get(version).values.get(kind);
        boolean added = set.add(value);
        if (!added) {
            set.remove(value);
        }
        lookForChanges();
        return added;
    }

    int rename(int card, int version, int name) {
        placeIf(isCard(card));
        argumentIf(version == 0 || version == 1);
        argumentIf(name >= 0 && name <= 31);
        Version renamed = cards.get(card).versions.get(version);
        int before = renamed.name;
        renamed.name = name;
        lookForChanges();
        return before;
    }

    int sync(int book) {
        placeIf(book >= 0 && book <= 2);
        int clashes = 0;
        for (Card card : cards) {
            if (card.book == book) {
                Set<Integer> names = new HashSet<>();
                card.versions.forEach(version -> names.add(version.name));
                clashes += names.size() == 3 ? 1 : 0;
                Version merged = card.merged();
                card.versions.forEach(version -> version.become(merged));
            }
        }
        lookForChanges();
        return clashes;
    }

    int cards() {
        return cards.size();
    }

    int values(int card, int version, int kind) {
        placeIf(isCard(card));
        argumentIf(version >= 0 && version <= 2 && isKind(kind));
        return bits(cards.get(card).versions.get(version).values.get(kind));
    }

    int nameOf(int card, int version) {
        placeIf(isCard(card));
        argumentIf(version >= 0 && version <= 2);
        return cards.get(card).versions.get(version).name;
    }

    int merged(int card, int kind) {
        placeIf(isCard(card));
        argumentIf(isKind(kind));
        return bits(cards.get(card).merged().values.get(kind));
    }

    int unsynced(int book) {
        placeIf(book >= 0 && book <= 2);
        int found = 0;
        for (Card card : cards) {
            String merged = card.merged().told();
            boolean changes = card.versions.stream().anyMatch(version -> !version.told().equals(merged));
            found += card.book == book && changes ? 1 : 0;
        }
        return found;
    }

    int link(int one, int other) {
        placeIf(isCard(one) && isCard(other));
        argumentIf(one != other);
        stateIf(links.add(pair(one, other)));
        return members(one).size();
    }

    boolean cut(int one, int other) {
        placeIf(isCard(one) && isCard(other));
        stateIf(links.remove(pair(one, other)));
        return members(one).contains(other);
    }

    int group(int card) {
        placeIf(isCard(card));
        return bits(members(card));
    }

    int groups() {
        Set<Set<Integer>> found = new HashSet<>();
        for (int card = 0; card < cards.size(); card++) {
            found.add(members(card));
        }
        return found.size();
    }

    int preferred(int card) {
        placeIf(isCard(card));
        Comparator<Integer> byBook = Comparator.comparing(member -> cards.get(member).book);
        return members(card).stream().min(byBook.thenComparing(Comparator.naturalOrder())).get();
    }

    int shown(int card, int kind) {
        placeIf(isCard(card));
        argumentIf(isKind(kind));
        Set<Integer> all = new TreeSet<>();
        members(card).forEach(member -> all.addAll(cards.get(member).mine().values.get(kind)));
        return bits(all);
    }

    int edit(int card, int kind, int value) {
        placeIf(isCard(card));
        argumentIf(isKind(kind) && isValue(value));
        Set<Integer> changed = new TreeSet<>();
        for (int member : members(card)) {
            if (cards.get(member).mine().values.get(kind).remove(value)) {
                changed.add(member);
            }
        }
        if (changed.isEmpty()) {
            changed.add(preferred(card));
            cards.get(preferred(card)).mine().values.get(kind).add(value);
        }
        lookForChanges();
        return bits(changed);
    }

    int score(int one, int other) {
        placeIf(isCard(one) && isCard(other));
        argumentIf(one != other);
        if (members(one).contains(other)) {
            return 0;
        }
        Version here = cards.get(one).mine();
        Version there = cards.get(other).mine();
        int score = here.name == there.name ? 2 : 0;
        for (int value = 0; value < 30; value++) {
            score += here.values.get(0).contains(value) && there.values.get(0).contains(value) ? 3 : 0;
            score += here.values.get(1).contains(value) && there.values.get(1).contains(value) ? 2 : 0;
        }
        return score;
    }

    int pairs() {
        return suggested().size();
    }

    int pairAt(int place) {
        List<List<Integer>> suggested = suggested();
        placeIf(place >= 0 && place < suggested.size());
        Comparator<List<Integer>> order = Comparator.comparing(pair -> -score(pair.get(0), pair.get(1)));
        order = order.thenComparing(pair -> pair.get(0)).thenComparing(pair -> pair.get(1));
        suggested.sort(order);
        return 100 * suggested.get(place).get(0) + suggested.get(place).get(1);
    }

    int turnDown(int one, int other, boolean good) {
        placeIf(isCard(one) && isCard(other));
        argumentIf(one != other);
        List<Integer> pair = pair(one, other);
        stateIf(suggested().contains(pair));
        if (good) {
            forGood.add(pair);
        } else {
            forNow.put(pair, mineOf(pair));
        }
        return suggested().size();
    }

    private List<List<Integer>> suggested() {
        List<List<Integer>> found = new ArrayList<>();
        for (int one = 0; one < cards.size(); one++) {
            for (int other = one + 1; other < cards.size(); other++) {
                List<Integer> pair = pair(one, other);
                if (!forGood.contains(pair) && !forNow.containsKey(pair) && score(one, other) > 0) {
                    found.add(pair);
                }
            }
        }
        return found;
    }

    private void lookForChanges() {
        forNow.entrySet().removeIf(then -> !then.getValue().equals(mineOf(then.getKey())));
    }

    private String mineOf(List<Integer> pair) {
        return cards.get(pair.get(0)).mine().told() + " and " + cards.get(pair.get(1)).mine().told();
    }

    private Set<Integer> members(int card) {
        Set<Integer> found = new TreeSet<>();
        List<Integer> open = new ArrayList<>(List.of(card));
        while (!open.isEmpty()) {
            int next = open.remove(open.size() - 1);
            if (found.add(next)) {
                for (List<Integer> link : links) {
                    if (link.contains(next)) {
                        open.addAll(link);
                    }
                }
            }
        }
        return found;
    }

    private static List<Integer> pair(int one, int other) {
        return List.of(Math.min(one, other), Math.max(one, other));
    }

    private static int bits(Set<Integer> set) {
        int bits = 0;
        for (int member : set) {
            bits |= 1 << member;
        }
        return bits;
    }

    private boolean isCard(int card) {
        return card >= 0 && card < cards.size();
    }

    private static boolean isKind(int kind) {
        return kind == 0 || kind == 1;
    }

    private static boolean isValue(int value) {
        return value >= 0 && value <= 29;
    }

    private static void placeIf(boolean fine) {
        if (!fine) {
            throw new IndexOutOfBoundsException();
        }
    }

    private static void argumentIf(boolean fine) {
        if (!fine) {
            throw new IllegalArgumentException();
        }
    }

    private static void stateIf(boolean fine) {
        if (!fine) {
            throw new IllegalStateException();
        }
    }
}

import java.util.ArrayDeque;
import java.util.ArrayList;
import java.util.Comparator;
import java.util.Deque;
import java.util.List;
import java.util.NoSuchElementException;
import java.util.Set;
import java.util.TreeMap;
import java.util.TreeSet;
import java.util.regex.Matcher;
import java.util.regex.Pattern;

/**
 * The document written a second time, slowly and by other means than the class: knots in maps,
 * strings as pairs, texts by a regular expression, the least twine by trying out all mendings.
 */
final class Model {
    private static final String STRING = "[0-9] [0-9][0-9]?-[0-9][0-9]?";
    private static final String ORDER = "(?:knot [0-9] [0-9][0-9]?=[0-9]|tear " + STRING + "|mend " + STRING
            + "/[0-9]|editor [0-9][0-9]?|tide [0-9]|sink [0-9]=[0-9]|note [0-9] [0-9][0-9]?|drop [0-9])";
    private static final Pattern TEXT = Pattern.compile(ORDER + "(?:;" + ORDER + ")*");

    record Bond(int lesser, int greater) {
        static Bond of(int one, int other) {
            return new Bond(Math.min(one, other), Math.max(one, other));
        }

        int twine() {
            return lesser / 6 == greater / 6 ? 1 : 2;
        }
    }

    record Chapter(int net, TreeMap<Integer, Integer> knots) {
    }

    /** All that goes back. */
    private static final class Stock {
        final List<TreeMap<Integer, Integer>> knots = new ArrayList<>();
        final List<Set<Bond>> torn = new ArrayList<>();
        final int[] draughts = new int[3];
        final List<int[]> editors = new ArrayList<>();
        final List<Chapter> notes = new ArrayList<>();
        int tide;
        int tornSoFar;
        int mendedSoFar;
        int twineUsed;

        Stock() {
            for (int net = 0; net < 3; net++) {
                knots.add(new TreeMap<>());
                torn.add(new java.util.HashSet<>());
            }
        }

        Stock copy() {
            Stock copy = new Stock();
            for (int net = 0; net < 3; net++) {
                copy.knots.get(net).putAll(knots.get(net));
                copy.torn.get(net).addAll(torn.get(net));
                copy.draughts[net] = draughts[net];
            }
            editors.forEach(editor -> copy.editors.add(editor.clone()));
            copy.notes.addAll(notes);
            copy.tide = tide;
            copy.tornSoFar = tornSoFar;
            copy.mendedSoFar = mendedSoFar;
            copy.twineUsed = twineUsed;
            return copy;
        }
    }

    private Stock now = new Stock();
    private Stock saved = null;
    private final Deque<Stock> past = new ArrayDeque<>();
    private final StringBuilder tape = new StringBuilder();
    private String line = "";
    private Integer fault = null;
    private int[] kept = null;
    private int[] behind = null;

    // ---- what is so

    private static boolean isBetween(int number, int least, int most) {
        return least <= number && number <= most;
    }

    private static boolean areBeside(int one, int other) {
        int lines = Math.abs(one / 6 - other / 6);
        int columns = Math.abs(one % 6 - other % 6);
        return lines + columns == 1;
    }

    private TreeSet<Integer> chapterSet(int net, int place, Set<Integer> only, Set<Bond> torn) {
        TreeSet<Integer> seen = new TreeSet<>();
        Deque<Integer> open = new ArrayDeque<>();
        if (only.contains(place)) {
            seen.add(place);
            open.add(place);
        }
        while (!open.isEmpty()) {
            int from = open.poll();
            for (int to : only) {
                if (areBeside(from, to) && !torn.contains(Bond.of(from, to)) && seen.add(to)) {
                    open.add(to);
                }
            }
        }
        return seen;
    }

    private TreeSet<Integer> chapterSet(int net, int place) {
        return chapterSet(net, place, now.knots.get(net).keySet(), now.torn.get(net));
    }

    /** The chapters by their knots, the most first, of several the lowest one. */
    private List<TreeSet<Integer>> chapterList(int net) {
        List<TreeSet<Integer>> list = new ArrayList<>();
        for (int place : now.knots.get(net).keySet()) {
            TreeSet<Integer> chapter = chapterSet(net, place);
            if (chapter.first() == place) {
                list.add(chapter);
            }
        }
        list.sort(Comparator.comparing((TreeSet<Integer> c) -> -c.size()).thenComparing(TreeSet::first));
        return list;
    }

    private int waterLines(int net) {
        return Math.min(4, now.tide + now.draughts[net]);
    }

    private boolean isDry(int net, int place) {
        return place / 6 < 4 - waterLines(net);
    }

    private int dry(int net, Iterable<Integer> places) {
        int count = 0;
        for (int place : places) {
            count += isDry(net, place) ? 1 : 0;
        }
        return count;
    }

    private Chapter chapter(int net, int place) {
        TreeMap<Integer, Integer> knots = new TreeMap<>();
        for (int p : chapterSet(net, place)) {
            knots.put(p, now.knots.get(net).get(p));
        }
        return new Chapter(net, knots);
    }

    private boolean isAsNoted(Chapter note) {
        return chapter(note.net, note.knots.firstKey()).equals(note);
    }

    /** Tries all sets of torn strings between the places; null if none would do. */
    private Integer leastTwine(Chapter note) {
        List<Bond> torn = new ArrayList<>();
        for (Bond bond : now.torn.get(note.net)) {
            if (note.knots.containsKey(bond.lesser) && note.knots.containsKey(bond.greater)) {
                torn.add(bond);
            }
        }
        Integer best = null;
        for (int set = 0; set < 1 << torn.size(); set++) {
            Set<Bond> left = new java.util.HashSet<>(now.torn.get(note.net));
            int twine = 0;
            for (int i = 0; i < torn.size(); i++) {
                if ((set >> i & 1) == 1) {
                    left.remove(torn.get(i));
                    twine += torn.get(i).twine();
                }
            }
            if ((best == null || twine < best) && readsWith(note, left)) {
                best = twine;
            }
        }
        return best;
    }

    private boolean readsWith(Chapter note, Set<Bond> torn) {
        TreeMap<Integer, Integer> knots = now.knots.get(note.net);
        TreeMap<Integer, Integer> found = new TreeMap<>();
        for (int p : chapterSet(note.net, note.knots.firstKey(), knots.keySet(), torn)) {
            found.put(p, knots.get(p));
        }
        return found.equals(note.knots);
    }

    /** Whether the least twine can be found in a short time. */
    boolean isEasy(int note) {
        if (!isBetween(note, 0, now.notes.size() - 1)) {
            return true;
        }
        Chapter asked = now.notes.get(note);
        return now.torn.get(asked.net).stream()
                .filter(b -> asked.knots.containsKey(b.lesser) && asked.knots.containsKey(b.greater))
                .count() <= 9;
    }

    /** One of the torn strings of a net, or null. */
    Bond tornString(int net, int pick) {
        if (!isBetween(net, 0, 2) || now.torn.get(net).isEmpty()) {
            return null;
        }
        List<Bond> torn = new ArrayList<>(now.torn.get(net));
        torn.sort(Comparator.comparing(Bond::lesser).thenComparing(Bond::greater));
        return torn.get(pick % torn.size());
    }

    // ---- refusals

    private UnsupportedOperationException refuse(int reason, int detail) {
        kept = new int[] {reason, detail};
        behind = null;
        return new UnsupportedOperationException();
    }

    private void demand(boolean isSo, int reason, int detail) {
        if (!isSo) {
            throw refuse(reason, detail);
        }
    }

    private void demandNet(int net) {
        demand(isBetween(net, 0, 2), 2, net);
    }

    private void demandPlace(int place) {
        demand(isBetween(place, 0, 23), 2, place);
    }

    private void changed(Stock before) {
        past.addLast(before);
        if (past.size() > 8) {
            past.removeFirst();
        }
    }

    // ---- the changes, without their being kept for undo

    private int doKnot(int net, int place, int kind) {
        demandNet(net);
        demandPlace(place);
        demand(isBetween(kind, 0, 3), 3, kind);
        int before = now.knots.get(net).getOrDefault(place, 0);
        demand(before != kind, 4, kind);
        now.knots.get(net).remove(place);
        if (kind != 0) {
            now.knots.get(net).put(place, kind);
        }
        return before;
    }

    private int doTear(int net, int one, int other) {
        demandNet(net);
        demandPlace(one);
        demandPlace(other);
        demand(areBeside(one, other), 5, other);
        demand(now.torn.get(net).add(Bond.of(one, other)), 4, Math.max(one, other));
        now.tornSoFar++;
        return chapterList(net).size();
    }

    private int doMend(int net, int one, int other, int editor) {
        demandNet(net);
        demandPlace(one);
        demandPlace(other);
        demand(isBetween(editor, 0, now.editors.size() - 1), 2, editor);
        demand(areBeside(one, other), 5, other);
        Bond bond = Bond.of(one, other);
        demand(now.torn.get(net).contains(bond), 4, bond.greater);
        int[] by = now.editors.get(editor);
        demand(by[0] >= bond.twine(), 6, by[0]);
        now.torn.get(net).remove(bond);
        by[0] -= bond.twine();
        by[1]++;
        now.mendedSoFar++;
        now.twineUsed += bond.twine();
        return by[0];
    }

    private int doEditor(int twine) {
        demand(isBetween(twine, 0, 99), 3, twine);
        demand(now.editors.size() < 4, 1, 4);
        now.editors.add(new int[] {twine, 0});
        return now.editors.size() - 1;
    }

    private int doTide(int level) {
        demand(isBetween(level, 0, 4), 3, level);
        demand(now.tide != level, 4, level);
        now.tide = level;
        return dryKnots();
    }

    private int doSink(int net, int draught) {
        demandNet(net);
        demand(isBetween(draught, 0, 4), 3, draught);
        demand(now.draughts[net] != draught, 4, draught);
        now.draughts[net] = draught;
        return waterLines(net);
    }

    private int doNote(int net, int place) {
        demandNet(net);
        demandPlace(place);
        demand(now.knots.get(net).containsKey(place), 7, place);
        Chapter chapter = chapter(net, place);
        int same = now.notes.indexOf(chapter);
        demand(same < 0, 8, same);
        demand(now.notes.size() < 6, 1, 6);
        now.notes.add(chapter);
        return now.notes.size() - 1;
    }

    private int doDrop(int note) {
        demand(isBetween(note, 0, now.notes.size() - 1), 2, note);
        now.notes.remove(note);
        return now.notes.size();
    }

    private int doOrder(String order) {
        List<Integer> n = new ArrayList<>();
        Matcher numbers = Pattern.compile("[0-9]+").matcher(order);
        while (numbers.find()) {
            n.add(Integer.parseInt(numbers.group()));
        }
        return switch (order.substring(0, order.indexOf(' '))) {
            case "knot" -> doKnot(n.get(0), n.get(1), n.get(2));
            case "tear" -> doTear(n.get(0), n.get(1), n.get(2));
            case "mend" -> doMend(n.get(0), n.get(1), n.get(2), n.get(3));
            case "editor" -> doEditor(n.get(0));
            case "tide" -> doTide(n.get(0));
            case "sink" -> doSink(n.get(0), n.get(1));
            case "note" -> doNote(n.get(0), n.get(1));
            default -> doDrop(n.get(0));
        };
    }

    // ---- the face

    private interface Change {
        int make();
    }

    private int change(Change change) {
        Stock before = now.copy();
        int answer = change.make();
        changed(before);
        return answer;
    }

    int knot(int net, int place, int kind) {
        return change(() -> doKnot(net, place, kind));
    }

    int tear(int net, int one, int other) {
        return change(() -> doTear(net, one, other));
    }

    int mend(int net, int one, int other, int editor) {
        return change(() -> doMend(net, one, other, editor));
    }

    int editor(int twine) {
        return change(() -> doEditor(twine));
    }

    int tide(int level) {
        return change(() -> doTide(level));
    }

    int sink(int net, int draught) {
        return change(() -> doSink(net, draught));
    }

    int note(int net, int place) {
        return change(() -> doNote(net, place));
    }

    int drop(int note) {
        return change(() -> doDrop(note));
    }

    private static void demandIndex(boolean isThere) {
        if (!isThere) {
            throw new IndexOutOfBoundsException();
        }
    }

    private static void demandWhat(int what, int most) {
        if (!isBetween(what, 0, most)) {
            throw new IllegalArgumentException();
        }
    }

    private static void demandElement(boolean isThere) {
        if (!isThere) {
            throw new NoSuchElementException();
        }
    }

    private static void demandIndices(int net, int place) {
        demandIndex(isBetween(net, 0, 2) && isBetween(place, 0, 23));
    }

    private Chapter noteAt(int note) {
        demandIndex(isBetween(note, 0, now.notes.size() - 1));
        return now.notes.get(note);
    }

    int kindOf(int net, int place) {
        demandIndices(net, place);
        return now.knots.get(net).getOrDefault(place, 0);
    }

    boolean isTorn(int net, int one, int other) {
        demandIndices(net, one);
        demandIndices(net, other);
        demandElement(areBeside(one, other));
        return now.torn.get(net).contains(Bond.of(one, other));
    }

    int netOf(int net, int what) {
        demandIndices(net, 0);
        demandWhat(what, 6);
        return switch (what) {
            case 0 -> now.knots.get(net).size();
            case 1 -> dry(net, now.knots.get(net).keySet());
            case 2 -> now.torn.get(net).size();
            case 3 -> now.draughts[net];
            case 4 -> waterLines(net);
            case 5 -> chapterList(net).stream().mapToInt(Set::size).max().orElse(0);
            default -> now.torn.get(net).stream().mapToInt(Bond::twine).sum();
        };
    }

    int chapters(int net) {
        demandIndices(net, 0);
        return chapterList(net).size();
    }

    int chapterOf(int net, int place, int what) {
        demandIndices(net, place);
        demandWhat(what, 3);
        TreeSet<Integer> chapter = chapterSet(net, place);
        demandElement(!chapter.isEmpty());
        int whole = 0;
        for (int one : chapter) {
            for (int other : chapter.tailSet(one, false)) {
                whole += areBeside(one, other) && !now.torn.get(net).contains(Bond.of(one, other)) ? 1 : 0;
            }
        }
        return new int[] {chapter.first(), chapter.size(), dry(net, chapter), whole}[what];
    }

    int noteOf(int note, int what) {
        Chapter asked = noteAt(note);
        demandWhat(what, 3);
        int isSo = isAsNoted(asked) ? 1 : 0;
        return new int[] {asked.net, asked.knots.firstKey(), asked.knots.size(), isSo}[what];
    }

    int least(int note) {
        Integer least = leastTwine(noteAt(note));
        demandElement(least != null);
        return least;
    }

    int bestMend(int net, boolean isGreater) {
        demandIndices(net, 0);
        record Best(int knots, Bond bond) {
        }
        List<Best> all = new ArrayList<>();
        for (Bond bond : now.torn.get(net)) {
            TreeSet<Integer> joined = chapterSet(net, bond.lesser);
            TreeSet<Integer> other = chapterSet(net, bond.greater);
            if (!joined.isEmpty() && !other.isEmpty() && !joined.equals(other)) {
                joined.addAll(other);
                all.add(new Best(joined.size(), bond));
            }
        }
        demandElement(!all.isEmpty());
        all.sort(Comparator.comparing((Best b) -> -b.knots).thenComparing(b -> b.bond.twine())
                .thenComparing(b -> b.bond.lesser).thenComparing(b -> b.bond.greater));
        Bond best = all.get(0).bond;
        return isGreater ? best.greater : best.lesser;
    }

    int ranked(int net, int place) {
        demandIndices(net, 0);
        List<TreeSet<Integer>> list = chapterList(net);
        demandElement(isBetween(place, 0, list.size() - 1));
        return list.get(place).first();
    }

    int editorOf(int editor, int what) {
        demandIndex(isBetween(editor, 0, now.editors.size() - 1));
        demandWhat(what, 1);
        return now.editors.get(editor)[what];
    }

    int feed(char character) {
        if (tape.length() == 60) {
            throw new IllegalStateException();
        }
        return tape.append(character).length();
    }

    int run() {
        String text = tape.toString();
        tape.setLength(0);
        if (!TEXT.matcher(text).matches()) {
            fault = text.length();
            for (int end = text.length(); end > 0; end--) {
                Matcher start = TEXT.matcher(text.substring(0, end));
                if (!start.matches() && !start.hitEnd()) {
                    fault = end - 1;
                }
            }
            throw new IllegalArgumentException();
        }
        Stock before = now.copy();
        String[] orders = text.split(";");
        for (int i = 0; i < orders.length; i++) {
            try {
                doOrder(orders[i]);
            } catch (UnsupportedOperationException e) {
                now = before;
                behind = kept;
                kept = new int[] {9, i};
                throw e;
            }
        }
        changed(before);
        return orders.length;
    }

    int faultPosition() {
        demandElement(fault != null);
        return fault;
    }

    int reason(boolean isBehind, boolean isDetail) {
        int[] told = isBehind ? behind : kept;
        demandElement(told != null);
        return told[isDetail ? 1 : 0];
    }

    private static String letters(Chapter chapter) {
        StringBuilder letters = new StringBuilder();
        chapter.knots.values().forEach(kind -> letters.append("abc".charAt(kind - 1)));
        return letters.toString();
    }

    int line(int net, int number) {
        demandIndices(net, 0);
        demandIndex(isBetween(number, 0, 3));
        StringBuilder text = new StringBuilder(isDry(net, 6 * number) ? "" : "~");
        for (int place = 6 * number; place < 6 * number + 6; place++) {
            if (place % 6 != 0) {
                text.append(isTorn(net, place, place - 1) ? '/' : '-');
            }
            text.append(".abc".charAt(kindOf(net, place)));
        }
        line = text.toString();
        return line.length();
    }

    int chapterLine(int net, int place) {
        demandIndices(net, place);
        demandElement(kindOf(net, place) != 0);
        line = letters(chapter(net, place));
        return line.length();
    }

    int noteLine(int note) {
        Chapter asked = noteAt(note);
        line = letters(asked) + (isAsNoted(asked) ? "" : "!");
        return line.length();
    }

    char character(int index) {
        demandIndex(isBetween(index, 0, line.length() - 1));
        return line.charAt(index);
    }

    private int allKnots() {
        return now.knots.stream().mapToInt(TreeMap::size).sum();
    }

    private int dryKnots() {
        return netOf(0, 1) + netOf(1, 1) + netOf(2, 1);
    }

    private int allChapters() {
        return chapters(0) + chapters(1) + chapters(2);
    }

    double meanKnots() {
        if (allKnots() == 0) {
            throw new ArithmeticException();
        }
        return (double) allKnots() / (double) allChapters();
    }

    float readShare() {
        if (allKnots() == 0) {
            throw new ArithmeticException();
        }
        return (float) dryKnots() / (float) allKnots();
    }

    int account(int what) {
        demandWhat(what, 12);
        return switch (what) {
            case 0 -> allKnots();
            case 1 -> allChapters();
            case 2 -> now.torn.stream().mapToInt(Set::size).sum();
            case 3 -> now.editors.size();
            case 4 -> now.editors.stream().mapToInt(editor -> editor[0]).sum();
            case 5 -> now.notes.size();
            case 6 -> (int) now.notes.stream().filter(this::isAsNoted).count();
            case 7 -> now.tide;
            case 8 -> now.tornSoFar;
            case 9 -> now.mendedSoFar;
            case 10 -> now.twineUsed;
            case 11 -> tape.length();
            default -> past.size();
        };
    }

    boolean isBalanced() {
        return true;
    }

    int undo() {
        if (past.isEmpty()) {
            throw new IllegalStateException();
        }
        now = past.removeLast();
        return past.size();
    }

    int save() {
        saved = now.copy();
        return now.notes.size();
    }

    int restore() {
        if (saved == null) {
            throw new IllegalStateException();
        }
        now = saved.copy();
        past.clear();
        return now.notes.size();
    }
}

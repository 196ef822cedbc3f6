import java.util.function.Supplier;

/** All promises: long runs of calls, each of whose answers the model gives too. */
public final class ModelTest {
    private static final int RUNS = 400;
    private static final int MOST_CALLS = 512;
    private static final int[] EDGES = {
        -1, 2, 3, 4, 5, 6, 7, 8, 13, 23, 24, 60, 99, 100, Integer.MIN_VALUE, Integer.MAX_VALUE
    };

    private final Chance chance;
    private final NetScript x = new NetScript();
    private final Model model = new Model();
    private final int run;
    /** The places of a run are few, so that its knots hang together. */
    private final int corner;
    private final int width;
    private final int height;
    private int calls = 0;

    private ModelTest(int run) {
        this.run = run;
        chance = new Chance(run);
        width = 2 + chance.below(5);
        height = 1 + chance.below(4);
        corner = chance.below(7 - width) + 6 * chance.below(5 - height);
    }

    public static void main(String[] args) {
        for (int run = 0; run < RUNS; run++) {
            new ModelTest(run).make();
            new ModelTest(RUNS + run).makeTorn();
        }
        Check.end();
    }

    /** Numbers that are the same in each run of the tests. */
    private static final class Chance {
        private long seed;

        Chance(long seed) {
            this.seed = seed * 7919 + 17;
        }

        int below(int bound) {
            seed = seed * 6364136223846793005L + 1442695040888963407L;
            return (int) Math.floorMod(seed >>> 33, (long) bound);
        }
    }

    private void both(String what, Supplier<Object> ofClass, Supplier<Object> ofModel) {
        if (calls < MOST_CALLS) {
            calls++;
            Check.due("run " + run + ", call " + calls + ", " + what, Check.answer(ofClass), Check.answer(ofModel));
        }
    }

    private void make() {
        while (calls < MOST_CALLS) {
            int group = chance.below(100);
            if (group < 55) {
                change();
            } else if (group < 98) {
                ask();
            } else {
                text();
            }
        }
    }

    /** A full corner of a net is noted and then torn and mended. */
    private void makeTorn() {
        int net = run % 3;
        for (int place = corner; place < corner + 6 * height; place++) {
            int at = place;
            if ((place - corner) % 6 < width && chance.below(6) != 0) {
                both("knot " + at, () -> x.knot(net, at, 2), () -> model.knot(net, at, 2));
            }
        }
        for (int i = 0; i < 4; i++) {
            int at = innerPlace();
            both("note " + at, () -> x.note(net, at), () -> model.note(net, at));
            both("editor", () -> x.editor(99), () -> model.editor(99));
        }
        while (calls < MOST_CALLS) {
            switch (chance.below(6)) {
                case 0 -> mend(net, innerPlace(), innerPlace());
                case 1 -> ask();
                case 2 -> back();
                case 3 -> tearInner(net);
                case 4 -> tearInner(net);
                default -> least(note());
            }
        }
    }

    private void tearInner(int net) {
        int one = innerPlace();
        int other = besides(one);
        both("tear " + net + " " + one + " " + other, () -> x.tear(net, one, other), () -> model.tear(net, one, other));
    }

    /** The model takes long for many torn strings; then the two ways are at least alike. */
    private void least(int note) {
        if (model.isEasy(note)) {
            both("least " + note, () -> x.least(note), () -> model.least(note));
            both("leastAgain " + note, () -> x.leastAgain(note), () -> model.least(note));
        } else {
            both("least " + note, () -> x.least(note), () -> x.leastAgain(note));
        }
    }

    /** Once in a while a number that does not fit. */
    private int or(int number) {
        return chance.below(40) == 0 ? EDGES[chance.below(EDGES.length)] : number;
    }

    private int net() {
        return or(chance.below(4) == 0 ? chance.below(3) : run % 3);
    }

    private int innerPlace() {
        return corner + chance.below(width) + 6 * chance.below(height);
    }

    private int place() {
        return or(innerPlace());
    }

    private int besides(int place) {
        int[] steps = {1, -1, 6, -6, 1, -1, 6, -6, 1, -1, 6, -6, 0, 7, 5, 2};
        return place + steps[chance.below(steps.length)];
    }

    private int note() {
        return or(chance.below(model.account(5) + 1));
    }

    private void change() {
        int net = net();
        int one = place();
        int other = besides(one);
        int number = or(chance.below(5));
        int few = note();
        switch (chance.below(run % 2 == 0 ? 20 : 24)) {
            case 0, 1, 2, 3, 4, 5 -> {
                int kind = or(run % 5 == 0 ? 1 : chance.below(run % 7 == 0 ? 4 : 8) % 7 % 4);
                both("knot " + net + " " + one + " " + kind, () -> x.knot(net, one, kind), () -> model.knot(net, one, kind));
            }
            case 6, 7, 8, 20, 21, 22, 23 ->
                both("tear " + net + " " + one + " " + other, () -> x.tear(net, one, other), () -> model.tear(net, one, other));
            case 9, 10, 11 -> mend(net, one, other);
            case 12 -> {
                int twine = or(chance.below(run % 4 == 0 ? 5 : 100));
                both("editor " + twine, () -> x.editor(twine), () -> model.editor(twine));
            }
            case 13 -> both("tide " + number, () -> x.tide(number), () -> model.tide(number));
            case 14 -> both("sink " + net + " " + number, () -> x.sink(net, number), () -> model.sink(net, number));
            case 16, 17 -> both("note " + net + " " + one, () -> x.note(net, one), () -> model.note(net, one));
            case 15 -> {
                if (chance.below(3) == 0) {
                    both("drop " + few, () -> x.drop(few), () -> model.drop(few));
                }
            }
            default -> back();
        }
    }

    private void back() {
        switch (chance.below(8)) {
            case 0 -> both("save", x::save, model::save);
            case 1 -> both("restore", x::restore, model::restore);
            case 2 -> {
                for (int more = chance.below(9); more >= 0; more--) {
                    both("undo", x::undo, model::undo);
                }
            }
            default -> both("undo", x::undo, model::undo);
        }
    }

    /** Most often a string that is torn. */
    private void mend(int net, int one, int other) {
        int editor = or(chance.below(model.account(3) + 1));
        Model.Bond torn = chance.below(4) == 0 ? null : model.tornString(net, chance.below(38));
        int from = torn == null ? one : torn.lesser();
        int to = torn == null ? other : torn.greater();
        both("mend " + net + " " + from + " " + to + " " + editor,
                () -> x.mend(net, from, to, editor), () -> model.mend(net, from, to, editor));
    }

    private void ask() {
        int net = net();
        int one = place();
        int other = besides(one);
        int few = note();
        boolean is = chance.below(2) == 0;
        boolean isToo = chance.below(2) == 0;
        switch (chance.below(22)) {
            case 0 -> both("kindOf " + net + " " + one, () -> x.kindOf(net, one), () -> model.kindOf(net, one));
            case 1 -> both("isTorn " + net + " " + one + " " + other, () -> x.isTorn(net, one, other), () -> model.isTorn(net, one, other));
            case 2 -> {
                int what = or(chance.below(7));
                both("netOf " + net + " " + what, () -> x.netOf(net, what), () -> model.netOf(net, what));
            }
            case 3 -> both("chapters " + net, () -> x.chapters(net), () -> model.chapters(net));
            case 4 -> both("chaptersAgain " + net, () -> x.chaptersAgain(net), () -> model.chapters(net));
            case 5, 6 -> {
                int what = or(chance.below(4));
                both("chapterOf " + net + " " + one + " " + what,
                        () -> x.chapterOf(net, one, what), () -> model.chapterOf(net, one, what));
            }
            case 7, 8 -> {
                int what = or(chance.below(4));
                both("noteOf " + few + " " + what, () -> x.noteOf(few, what), () -> model.noteOf(few, what));
            }
            case 9, 10, 11 -> least(few);
            case 12 -> both("bestMend " + net + " " + is, () -> x.bestMend(net, is), () -> model.bestMend(net, is));
            case 13 -> both("ranked " + net + " " + few, () -> x.ranked(net, few), () -> model.ranked(net, few));
            case 14 -> {
                int editor = or(chance.below(model.account(3) + 1));
                int what = or(chance.below(2));
                both("editorOf " + editor + " " + what, () -> x.editorOf(editor, what), () -> model.editorOf(editor, what));
            }
            case 15 -> both("reason " + is + " " + isToo, () -> x.reason(is, isToo), () -> model.reason(is, isToo));
            case 16 -> both("faultPosition", x::faultPosition, model::faultPosition);
            case 17 -> line(net, one, few);
            case 18 -> both("meanKnots", x::meanKnots, model::meanKnots);
            case 19 -> both("readShare", x::readShare, model::readShare);
            case 20 -> {
                int what = or(chance.below(13));
                both("account " + what, () -> x.account(what), () -> model.account(what));
            }
            default -> both("isBalanced", x::isBalanced, model::isBalanced);
        }
    }

    private void line(int net, int place, int few) {
        switch (chance.below(3)) {
            case 0 -> {
                int number = or(chance.below(4));
                both("line " + net + " " + number, () -> x.line(net, number), () -> model.line(net, number));
            }
            case 1 -> both("chapterLine " + net + " " + place, () -> x.chapterLine(net, place), () -> model.chapterLine(net, place));
            default -> both("noteLine " + few, () -> x.noteLine(few), () -> model.noteLine(few));
        }
        for (int i = 0; i < 4; i++) {
            int index = or(chance.below(i == 0 ? 26 : 12));
            both("character " + index, () -> x.character(index), () -> model.character(index));
        }
    }

    private String order() {
        int net = chance.below(20) == 0 ? 3 : run % 3;
        int one = innerPlace();
        int other = Math.max(0, besides(one));
        int number = chance.below(5);
        String string = net + " " + one + "-" + other;
        return switch (chance.below(10)) {
            case 0, 1, 2 -> "knot " + net + " " + one + "=" + chance.below(4);
            case 3 -> "tear " + string;
            case 4 -> "mend " + string + "/" + number;
            case 5 -> "editor " + chance.below(100);
            case 6 -> "tide " + number;
            case 7 -> "sink " + net + "=" + number;
            case 8 -> "note " + net + " " + one;
            default -> "drop " + number;
        };
    }

    private void text() {
        StringBuilder text = new StringBuilder(order());
        for (int more = chance.below(4); more > 0; more--) {
            text.append(';').append(order());
        }
        if (chance.below(3) == 0) {
            int at = chance.below(text.length());
            switch (chance.below(3)) {
                case 0 -> text.setCharAt(at, "0123456789 ;=-/nte".charAt(chance.below(18)));
                case 1 -> text.deleteCharAt(at);
                default -> text.setLength(at);
            }
        }
        for (int i = 0; i < text.length(); i++) {
            char character = text.charAt(i);
            both("feed " + character, () -> x.feed(character), () -> model.feed(character));
        }
        both("run " + text, x::run, model::run);
    }
}

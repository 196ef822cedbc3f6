import java.util.function.Consumer;

/** Reasons at their edges: each reason and its detail, their order, what is kept. One test a sentence. */
public final class BoundaryReasonsTest {
    private static final int MIN = Integer.MIN_VALUE;
    private static final int MAX = Integer.MAX_VALUE;

    public static void main(String[] args) {
        reason1TellsHowManyThereAre();
        reason2TellsTheNumberThatWasTold();
        reason3TellsTheNumber();
        reason4TellsTheNumberThatWasTold();
        reason4TellsTheGreaterPlaceOfAString();
        reason5TellsTheSecondPlaceThatWasTold();
        reason6TellsHowMuchTwineThereIs();
        reason7TellsThePlace();
        reason8TellsTheLowestSuchNote();
        reason9TellsTheNumberOfTheOrder();
        behind9StandsWhyTheOrderIsRefused();
        theOrderOfTheReasonsOfKnot();
        theOrderOfTheReasonsOfTear();
        theOrderOfTheReasonsOfMend();
        theOrderOfTheReasonsOfEditor();
        theOrderOfTheReasonsOfTideAndSink();
        theOrderOfTheReasonsOfNote();
        theOnlyReasonOfDrop();
        nothingWasRefused();
        noneStandsBehind();
        theReasonKeptLastIsTold();
        whatSucceedsOrThrowsKeepsNoReason();
        Check.end();
    }

    private static void full(String what, int reason, int detail, Consumer<NetScript> call) {
        Pasts.FULL.refuses(what, reason, detail, call);
    }

    private static void rich(String what, int reason, int detail, Consumer<NetScript> call) {
        Pasts.RICH.refuses(what, reason, detail, call);
    }

    /** 1, there are 4 editors, or 6 notes: this number. */
    private static void reason1TellsHowManyThereAre() {
        full("a fifth editor", 1, 4, x -> x.editor(0));
        Past six = Pasts.FULL.then(x -> x.knot(2, 10, 2));
        six.refuses("a seventh note", 1, 6, x -> x.note(2, 10));
        NetScript x = six.make();
        x.drop(0);
        Check.due("a sixth note", x.note(2, 10), 5);
        NetScript y = Pasts.RICH.make();
        Check.due("a fourth editor", y.editor(0), 3);
    }

    /** 2, there is no such net, place, editor or note: the number that was told, just outside and far away. */
    private static void reason2TellsTheNumberThatWasTold() {
        for (int none : new int[] {-1, 24, MIN, MAX}) {
            rich("net " + none, 2, none, x -> x.knot(none, 0, 2));
            rich("place " + none, 2, none, x -> x.knot(0, none, 2));
            rich("editor " + none, 2, none, x -> x.mend(0, 0, 1, none));
            rich("note " + none, 2, none, x -> x.drop(none));
        }
        rich("net 3", 2, 3, x -> x.sink(3, 1));
        rich("editor 3 of three", 2, 3, x -> x.mend(0, 0, 1, 3));
        rich("note 3 of three", 2, 3, x -> x.drop(3));
        full("editor 4", 2, 4, x -> x.mend(1, 0, 6, 4));
        full("note 6", 2, 6, x -> x.drop(6));
        Pasts.NEW.refuses("editor 0 of none", 2, 0, x -> x.mend(0, 0, 1, 0));
        Pasts.NEW.refuses("note 0 of none", 2, 0, x -> x.drop(0));
        NetScript x = Pasts.RICH.make();
        Check.due("editor 2 of three", x.mend(0, 0, 1, 2), 47);
        Check.due("note 2 of three", x.drop(2), 2);
        Check.refused("note 2 of two", x, 2, 2, () -> x.drop(2));
    }

    /** 3, a number is out of range: the number. */
    private static void reason3TellsTheNumber() {
        for (int number : new int[] {-1, 100, MIN, MAX}) {
            rich("kind " + number, 3, number, x -> x.knot(0, 3, number));
            rich("twine " + number, 3, number, x -> x.editor(number));
            rich("tide " + number, 3, number, x -> x.tide(number));
            rich("draught " + number, 3, number, x -> x.sink(1, number));
        }
        rich("kind 4", 3, 4, x -> x.knot(0, 3, 4));
        rich("tide 5", 3, 5, x -> x.tide(5));
        rich("draught 5", 3, 5, x -> x.sink(1, 5));
    }

    /** 4, it is so already: the number that was told; each number that can be so. */
    private static void reason4TellsTheNumberThatWasTold() {
        for (int kind = 0; kind <= 3; kind++) {
            int so = kind;
            Past tied = kind == 0 ? Pasts.NEW : Pasts.NEW.then(x -> x.knot(2, 23, so));
            tied.refuses("kind " + kind, 4, kind, x -> x.knot(2, 23, so));
        }
        for (int level = 0; level <= 4; level++) {
            int so = level;
            Past told = level == 0 ? Pasts.NEW : Pasts.NEW.then(x -> x.tide(so));
            told.refuses("tide " + level, 4, level, x -> x.tide(so));
            Past sunk = level == 0 ? Pasts.NEW : Pasts.NEW.then(x -> x.sink(2, so));
            sunk.refuses("draught " + level, 4, level, x -> x.sink(2, so));
        }
    }

    /** Or, of a string, its greater place, in whichever order its ends are told. */
    private static void reason4TellsTheGreaterPlaceOfAString() {
        int[][] strings = {{0, 1}, {0, 6}, {4, 5}, {17, 23}, {22, 23}, {11, 17}};
        for (int[] string : strings) {
            int lesser = string[0];
            int greater = string[1];
            Past torn = Pasts.RICH.then(x -> x.tear(1, lesser, greater));
            torn.refuses("torn", 4, greater, x -> x.tear(1, lesser, greater));
            torn.refuses("torn", 4, greater, x -> x.tear(1, greater, lesser));
            Pasts.RICH.refuses("whole", 4, greater, x -> x.mend(2, lesser, greater, 0));
            Pasts.RICH.refuses("whole", 4, greater, x -> x.mend(2, greater, lesser, 0));
        }
    }

    /** 5, the places are not beside each other: the second one that was told, greater or not. */
    private static void reason5TellsTheSecondPlaceThatWasTold() {
        int[][] pairs = {{5, 6}, {6, 5}, {17, 18}, {18, 17}, {0, 0}, {23, 23}, {0, 2}, {2, 0}, {0, 12}, {0, 7}, {6, 1}, {0, 23}, {23, 0}};
        for (int[] pair : pairs) {
            rich("tear", 5, pair[1], x -> x.tear(0, pair[0], pair[1]));
            rich("mend", 5, pair[1], x -> x.mend(0, pair[0], pair[1], 0));
        }
    }

    /** 6, the editor has too little twine: how much. */
    private static void reason6TellsHowMuchTwineThereIs() {
        Past torn = new Past(x -> {
            x.editor(0);
            x.editor(1);
            x.editor(2);
            x.editor(3);
            x.tear(0, 0, 1);
            x.tear(0, 0, 6);
        });
        torn.refuses("0 for 1", 6, 0, x -> x.mend(0, 0, 1, 0));
        torn.refuses("0 for 2", 6, 0, x -> x.mend(0, 6, 0, 0));
        torn.refuses("1 for 2", 6, 1, x -> x.mend(0, 0, 6, 1));
        Check.due("1 for 1", torn.make().mend(0, 1, 0, 1), 0);
        Check.due("2 for 2", torn.make().mend(0, 6, 0, 2), 0);
        Check.due("3 for 2", torn.make().mend(0, 6, 0, 3), 1);
        torn.then(x -> x.mend(0, 0, 6, 3)).refuses("what is left for 2", 4, 6, x -> x.mend(0, 0, 6, 3));
        Past less = torn.then(x -> x.mend(0, 0, 6, 3)).then(x -> x.tear(0, 0, 6));
        less.refuses("1 of 3 for 2", 6, 1, x -> x.mend(0, 0, 6, 3));
    }

    /** 7, there is no knot: the place, the first and the last one too. */
    private static void reason7TellsThePlace() {
        for (int place = 0; place < 24; place++) {
            int empty = place;
            Pasts.NEW.refuses("note " + place, 7, place, x -> x.note(2, empty));
        }
        Past untied = new Past(x -> {
            x.knot(0, 0, 1);
            x.note(0, 0);
            x.knot(0, 0, 0);
        });
        untied.refuses("an untied knot", 7, 0, x -> x.note(0, 0));
    }

    /** 8, the chapter is noted so already: the lowest such note, from whichever place. */
    private static void reason8TellsTheLowestSuchNote() {
        Past noted = new Past(x -> {
            Pasts.tie(x, 0, 1, 0, 1, 23);
            x.note(0, 0);
            x.note(0, 23);
            x.knot(0, 1, 2);
            x.note(0, 1);
            x.knot(1, 0, 1);
        });
        noted.refuses("the last note", 8, 2, x -> x.note(0, 0));
        noted.refuses("the last note", 8, 2, x -> x.note(0, 1));
        noted.refuses("one between", 8, 1, x -> x.note(0, 23));
        Past before = noted.then(x -> x.knot(0, 1, 1));
        before.refuses("the first note", 8, 0, x -> x.note(0, 1));
        before.then(x -> x.drop(1)).refuses("the first note", 8, 0, x -> x.note(0, 0));
        Past dropped = before.then(x -> x.drop(0));
        Check.due("noted again", dropped.make().note(0, 1), 2);
        dropped.refuses("a note with another number", 8, 0, x -> x.note(0, 23));
        Check.due("places of a note in another net", noted.make().note(1, 0), 3);
        NetScript x = noted.make();
        x.knot(0, 1, 0);
        Check.due("some of its places", x.note(0, 0), 3);
        x.knot(0, 1, 1);
        x.knot(0, 2, 1);
        Check.due("its places and more", x.note(0, 1), 4);
        full("the last of six", 8, 5, y -> y.note(2, 23));
    }

    /** 9, an order of a text cannot be done: its number, from 0. */
    private static void reason9TellsTheNumberOfTheOrder() {
        for (int before = 0; before < 8; before++) {
            StringBuilder text = new StringBuilder();
            for (int i = 0; i < before; i++) {
                text.append(i % 2 == 0 ? "tide 1;" : "tide 2;");
            }
            NetScript x = new NetScript();
            Check.orderRefused(x, text + "drop 3", before, 2, 3);
            Check.due("tide", x.account(7), 0);
        }
        Check.orderRefused(new NetScript(), "drop 1;drop 2;drop 3", 0, 2, 1);
    }

    /** Behind 9 stands the reason for which the order is refused: each of the other eight. */
    private static void behind9StandsWhyTheOrderIsRefused() {
        NetScript x = new NetScript();
        x.knot(0, 0, 1);
        x.note(0, 0);
        x.tear(0, 0, 1);
        x.editor(0);
        Check.orderRefused(x, "editor 1;editor 1;editor 1;editor 1", 3, 1, 4);
        Check.orderRefused(x, "drop 1", 0, 2, 1);
        Check.orderRefused(x, "sink 0=5", 0, 3, 5);
        Check.orderRefused(x, "tear 0 1-0", 0, 4, 1);
        Check.orderRefused(x, "tear 0 12-11", 0, 5, 11);
        Check.orderRefused(x, "mend 0 0-1/0", 0, 6, 0);
        Check.orderRefused(x, "note 0 1", 0, 7, 1);
        Check.orderRefused(x, "note 0 0", 0, 8, 0);
        NetScript y = new NetScript();
        for (int i = 0; i < 6; i++) {
            y.knot(0, 2 * i + i / 3 * 6, 1);
            y.note(0, 2 * i + i / 3 * 6);
        }
        Check.orderRefused(y, "knot 2 0=1;note 2 0", 1, 1, 6);
    }

    /** The reason 2, for the net, then for the place, 3 or 4. */
    private static void theOrderOfTheReasonsOfKnot() {
        rich("all", 2, 3, x -> x.knot(3, 24, 4));
        rich("net and kind", 2, -1, x -> x.knot(-1, 0, 4));
        rich("net and place", 2, 3, x -> x.knot(3, 24, 0));
        rich("place and kind", 2, 24, x -> x.knot(2, 24, 4));
        rich("place and none already", 2, -1, x -> x.knot(2, -1, 0));
        rich("kind", 3, 4, x -> x.knot(2, 23, 4));
        rich("none already", 4, 0, x -> x.knot(2, 23, 0));
    }

    /** The reason 2, for the net, then for the places, 5 or 4. */
    private static void theOrderOfTheReasonsOfTear() {
        rich("all", 2, 3, x -> x.tear(3, 24, 25));
        rich("net and beside", 2, 3, x -> x.tear(3, 0, 2));
        rich("both places", 2, 24, x -> x.tear(0, 24, 25));
        rich("both places", 2, 25, x -> x.tear(0, 25, 24));
        rich("the one place", 2, 24, x -> x.tear(0, 24, 23));
        rich("the other place", 2, 24, x -> x.tear(0, 23, 24));
        rich("the other place, below", 2, 24, x -> x.tear(0, 18, 24));
        rich("the other place, above", 2, -6, x -> x.tear(0, 0, -6));
        rich("the same place, which is none", 2, 24, x -> x.tear(0, 24, 24));
        rich("beside", 5, 0, x -> x.tear(0, 2, 0));
        rich("torn", 4, 1, x -> x.tear(0, 1, 0));
    }

    /** The reason 2, for the net, then for the places, then for the editor, 5, 4 or 6. */
    private static void theOrderOfTheReasonsOfMend() {
        rich("all", 2, 3, x -> x.mend(3, 24, 25, 9));
        rich("places and editor", 2, 24, x -> x.mend(0, 24, 25, 9));
        rich("other place and editor", 2, 25, x -> x.mend(0, 23, 25, 9));
        rich("editor and beside", 2, 9, x -> x.mend(0, 0, 2, 9));
        rich("editor and whole", 2, 3, x -> x.mend(0, 2, 3, 3));
        rich("editor of a torn one", 2, -1, x -> x.mend(0, 0, 1, -1));
        rich("beside and twine", 5, 2, x -> x.mend(0, 0, 2, 1));
        rich("whole and twine", 4, 3, x -> x.mend(0, 3, 2, 1));
        rich("twine", 6, 0, x -> x.mend(0, 0, 1, 1));
    }

    /** The reason 3 or 1. */
    private static void theOrderOfTheReasonsOfEditor() {
        full("both", 3, 100, x -> x.editor(100));
        full("both", 3, -1, x -> x.editor(-1));
        full("four", 1, 4, x -> x.editor(99));
    }

    /** The reason 3 or 4; the reason 2, 3 or 4. */
    private static void theOrderOfTheReasonsOfTideAndSink() {
        rich("tide out of range", 3, 5, x -> x.tide(5));
        rich("tide so already", 4, 1, x -> x.tide(1));
        rich("net and draught", 2, 3, x -> x.sink(3, 5));
        rich("net", 2, -1, x -> x.sink(-1, 0));
        rich("draught", 3, 5, x -> x.sink(2, 5));
        rich("draught so already", 4, 2, x -> x.sink(2, 2));
    }

    /** The reason 2, for the net, then for the place, 7, 8 or 1. */
    private static void theOrderOfTheReasonsOfNote() {
        rich("net and place", 2, 3, x -> x.note(3, 24));
        rich("net and knot", 2, 3, x -> x.note(3, 0));
        rich("place", 2, 24, x -> x.note(0, 24));
        full("no knot, and six", 7, 1, x -> x.note(0, 1));
        full("noted already, and six", 8, 0, x -> x.note(0, 0));
        Pasts.FULL.then(x -> x.knot(0, 1, 1)).refuses("six", 1, 6, x -> x.note(0, 1));
        full("place, and six", 2, 24, x -> x.note(0, 24));
        full("net, and six", 2, 3, x -> x.note(3, 0));
    }

    /** The reason 2. */
    private static void theOnlyReasonOfDrop() {
        rich("the note behind the last", 2, 3, x -> x.drop(3));
        full("the note behind the last", 2, 6, x -> x.drop(6));
        full("a note ahead of the first", 2, -1, x -> x.drop(-1));
        Check.due("the last note", Pasts.FULL.make().drop(5), 5);
        Check.due("the first note", Pasts.FULL.make().drop(0), 5);
    }

    private static void noReason(NetScript x, boolean isBehind) {
        Check.thrown("reason", Check.NO_ELEMENT, () -> x.reason(isBehind, false));
        Check.thrown("detail", Check.NO_ELEMENT, () -> x.reason(isBehind, true));
    }

    /** Throws NoSuchElementException if nothing was refused. */
    private static void nothingWasRefused() {
        for (boolean isBehind : new boolean[] {false, true}) {
            noReason(new NetScript(), isBehind);
            Pasts.NEW.thrown("reason", Check.NO_ELEMENT, x -> x.reason(isBehind, false));
            Pasts.NEW.thrown("detail", Check.NO_ELEMENT, x -> x.reason(isBehind, true));
        }
    }

    /** Or none stands behind: behind the reasons 1 to 8, whatever stood behind before. */
    private static void noneStandsBehind() {
        NetScript x = new NetScript();
        Check.refused("drop", x, 2, 0, () -> x.drop(0));
        noReason(x, true);
        Check.orderRefused(x, "drop 4", 0, 2, 4);
        Check.refused("tide", x, 4, 0, () -> x.tide(0));
        noReason(x, true);
        Check.orderRefused(x, "tide 1;drop 4", 1, 2, 4);
        Check.orderRefused(x, "tide 9", 0, 3, 9);
        full("behind", 3, 9, y -> y.tide(9));
        Pasts.FULL.thrown("reason behind", Check.NO_ELEMENT, y -> y.reason(true, false));
        Pasts.FULL.thrown("detail behind", Check.NO_ELEMENT, y -> y.reason(true, true));
    }

    /** The reason that was kept last. */
    private static void theReasonKeptLastIsTold() {
        NetScript x = new NetScript();
        Check.refused("tide", x, 3, 5, () -> x.tide(5));
        Check.refused("drop", x, 2, 0, () -> x.drop(0));
        Check.refused("knot", x, 4, 0, () -> x.knot(0, 0, 0));
        Check.refused("tear", x, 5, 0, () -> x.tear(0, 0, 0));
        Check.refused("note", x, 7, 0, () -> x.note(0, 0));
        Check.refused("mend", x, 2, -7, () -> x.mend(0, 0, 1, -7));
        Check.refused("sink", x, 3, MIN, () -> x.sink(0, MIN));
        Check.refused("editor", x, 3, MAX, () -> x.editor(MAX));
        Check.orderRefused(x, "tide 1;tide 1", 1, 4, 1);
        Check.refused("tide", x, 3, -1, () -> x.tide(-1));
    }

    /** Reasons are kept by what is refused alone, and do not go back. */
    private static void whatSucceedsOrThrowsKeepsNoReason() {
        NetScript x = Pasts.RICH.make();
        String[] calls = {
            Check.answer(() -> x.knot(0, 3, 1)), Check.answer(() -> x.drop(0)), Check.answer(x::run),
            Check.answer(() -> x.kindOf(3, 0)), Check.answer(() -> x.netOf(0, 7)), Check.answer(() -> x.ranked(0, 24)),
            Check.answer(() -> x.least(9)), Check.answer(x::run), Check.answer(x::undo), Check.answer(x::save),
            Check.answer(x::restore), Check.answer(x::undo), Check.answer(() -> x.line(0, 4))
        };
        Check.due("the first succeeds", calls[0], "0");
        Check.due("reason", x.reason(false, false), 9);
        Check.due("detail", x.reason(false, true), 0);
        Check.due("reason behind", x.reason(true, false), 2);
        Check.due("detail behind", x.reason(true, true), 9);
    }
}

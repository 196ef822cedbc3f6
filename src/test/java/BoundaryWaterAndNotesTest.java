/** The section "Terms" at its edges: water, editors, notes and the least twine. One test a sentence. */
public final class BoundaryWaterAndNotesTest {
    private static final int MIN = Integer.MIN_VALUE;
    private static final int MAX = Integer.MAX_VALUE;

    public static void main(String[] args) {
        theTideIsFrom0To4();
        eachDraughtIsFrom0To4();
        thereIsNoWaterAtFirst();
        linesUnderWaterAreFourAtMost();
        theLowestLinesAreUnderWaterFirst();
        knotsUnderWaterCannotBeRead();
        waterDoesNotChangeWhatAChapterReadsAs();
        allIsDoneUnderWaterToo();
        thereAreAtMostFourEditors();
        twineIsFrom0To99();
        aStringInALineTakesOne();
        aStringBetweenTwoLinesTakesTwo();
        twineIsUsedUpToTheLast();
        atMostSixNotesAreKept();
        theNumbersOfLaterNotesBecomeOneLess();
        aNoteKeepsAChapterAsItIs();
        aChapterReadsAsNotedWithJustThesePlaces();
        aChapterReadsAsNotedWithTheseKinds();
        theKnotAtTheLowestPlaceIsAsked();
        theLeastTwineOfANotedChapterIsNone();
        theLeastTwineIsOfStringsBetweenItsPlaces();
        noTwineWouldDoIfAKindIsAnother();
        noTwineWouldDoIfAWholeStringLeadsOut();
        editorsAreNotAskedForTheLeastTwine();
        theMostTwineThatIsTheLeast();
        Check.end();
    }

    /** The tide is from 0 to 4. */
    private static void theTideIsFrom0To4() {
        for (int level : new int[] {-1, 5, 6, MIN, MAX}) {
            Pasts.RICH.refuses("tide " + level, 3, level, x -> x.tide(level));
        }
        NetScript x = new NetScript();
        for (int level : new int[] {4, 0, 1, 3}) {
            Check.due("tide " + level, x.tide(level), 0);
            Check.due("tide", x.account(7), level);
        }
    }

    /** Each boat has a draught from 0 to 4. */
    private static void eachDraughtIsFrom0To4() {
        for (int draught : new int[] {-1, 5, 6, MIN, MAX}) {
            for (int net = 0; net < 3; net++) {
                int asked = net;
                Pasts.RICH.refuses("sink " + draught, 3, draught, x -> x.sink(asked, draught));
            }
        }
        NetScript x = new NetScript();
        for (int draught : new int[] {4, 0, 1, 3}) {
            Check.due("sink " + draught, x.sink(2, draught), draught);
            Check.due("draught", x.netOf(2, 3), draught);
        }
    }

    /** All 0 at first. */
    private static void thereIsNoWaterAtFirst() {
        Check.due("tide at first", new NetScript().account(7), 0);
        Pasts.NEW.refuses("tide 0 at first", 4, 0, x -> x.tide(0));
        for (int net = 0; net < 3; net++) {
            int asked = net;
            Check.due("draught at first", new NetScript().netOf(net, 3), 0);
            Check.due("lines under water at first", new NetScript().netOf(net, 4), 0);
            Pasts.NEW.refuses("sink 0 at first", 4, 0, x -> x.sink(asked, 0));
        }
    }

    /** So many lines are under water as the tide and the draught are together, 4 at most. */
    private static void linesUnderWaterAreFourAtMost() {
        for (int tide = 0; tide <= 4; tide++) {
            for (int draught = 0; draught <= 4; draught++) {
                NetScript x = new NetScript();
                int due = new int[] {0, 1, 2, 3, 4, 4, 4, 4, 4}[tide + draught];
                if (tide > 0) {
                    x.tide(tide);
                }
                if (draught > 0) {
                    Check.due("sink " + draught + " at tide " + tide, x.sink(1, draught), due);
                }
                Check.due("lines under water", x.netOf(1, 4), due);
                Check.due("draught", x.netOf(1, 3), draught);
                Check.due("lines under water without draught", x.netOf(0, 4), tide);
            }
        }
    }

    /** From the lowest one up, which is that with the places 18 to 23. */
    private static void theLowestLinesAreUnderWaterFirst() {
        for (int lines = 0; lines <= 4; lines++) {
            NetScript x = new NetScript();
            if (lines > 0) {
                x.sink(2, lines);
            }
            for (int number = 0; number < 4; number++) {
                boolean isWet = number >= 4 - lines;
                Check.written("line " + number, x, x.line(2, number), isWet ? "~.-.-.-.-.-." : ".-.-.-.-.-.");
            }
        }
    }

    /** A knot can be read if it is not under water: the last place above, the first one below. */
    private static void knotsUnderWaterCannotBeRead() {
        for (int lines = 0; lines <= 4; lines++) {
            for (int place = 0; place < 24; place++) {
                NetScript x = new NetScript();
                x.knot(0, place, 2);
                if (lines > 0) {
                    x.tide(lines);
                }
                int due = place < 24 - 6 * lines ? 1 : 0;
                Check.due("knots that can be read of the net", x.netOf(0, 1), due);
                Check.due("knots that can be read of the chapter", x.chapterOf(0, place, 2), due);
                Check.due("share that can be read", x.readShare(), due == 1 ? 1.0f : 0.0f);
            }
        }
    }

    /** Water does not change what a chapter reads as. */
    private static void waterDoesNotChangeWhatAChapterReadsAs() {
        NetScript x = new NetScript();
        Pasts.tie(x, 1, 1, 5, 23);
        Pasts.tie(x, 1, 2, 11, 17);
        x.note(1, 5);
        for (int level = 1; level <= 4; level++) {
            x.tide(level);
            Check.written("chapter", x, x.chapterLine(1, 23), "abba");
            Check.written("note", x, x.noteLine(0), "abba");
            Check.due("reads as noted", x.noteOf(0, 3), 1);
            Check.due("read as noted", x.account(6), 1);
            Check.due("chapters", x.chapters(1), 1);
            Check.due("chaptersAgain", x.chaptersAgain(1), 1);
            Check.due("knots", x.chapterOf(1, 5, 1), 4);
            Check.due("least", x.least(0), 0);
        }
    }

    /** Knots are tied, strings are torn and mended, and chapters are noted under water, too. */
    private static void allIsDoneUnderWaterToo() {
        NetScript x = new NetScript();
        x.tide(4);
        x.sink(0, 4);
        x.editor(2);
        Check.due("knot", x.knot(0, 0, 1), 0);
        Check.due("knot", x.knot(0, 6, 2), 0);
        Check.due("knot", x.knot(0, 6, 3), 2);
        Check.due("tear", x.tear(0, 0, 6), 2);
        Check.due("note", x.note(0, 6), 0);
        Check.due("best mending", x.bestMend(0, true), 6);
        Check.due("mend", x.mend(0, 0, 6, 0), 0);
        Check.due("untie", x.knot(0, 0, 0), 1);
        Check.due("reads as noted", x.noteOf(0, 3), 1);
    }

    /** At most 4 editors are there, numbered from 0. */
    private static void thereAreAtMostFourEditors() {
        NetScript x = new NetScript();
        Check.thrown("editor 0 of none", Check.NO_INDEX, () -> x.editorOf(0, 0));
        for (int i = 0; i < 4; i++) {
            int next = i + 1;
            Check.due("editor", x.editor(10 + i), i);
            Check.due("twine", x.editorOf(i, 0), 10 + i);
            Check.due("mended", x.editorOf(i, 1), 0);
            Check.thrown("the editor behind", Check.NO_INDEX, () -> x.editorOf(next, 0));
        }
        Pasts.FULL.refuses("a fifth editor", 1, 4, y -> y.editor(5));
        Pasts.FULL.refuses("a fifth editor without twine", 1, 4, y -> y.editor(0));
    }

    /** Each with twine from 0 to 99. */
    private static void twineIsFrom0To99() {
        for (int twine : new int[] {-1, 100, 101, MIN, MAX}) {
            Pasts.RICH.refuses("editor " + twine, 3, twine, x -> x.editor(twine));
        }
        for (int twine : new int[] {0, 1, 98, 99}) {
            NetScript x = new NetScript();
            Check.due("editor " + twine, x.editor(twine), 0);
            Check.due("twine", x.editorOf(0, 0), twine);
            Check.due("twine of all", x.account(4), twine);
        }
    }

    /** To mend a string in a line takes 1 of twine. */
    private static void aStringInALineTakesOne() {
        for (int lesser : new int[] {0, 4, 6, 10, 18, 22}) {
            NetScript x = new NetScript();
            x.editor(1);
            x.tear(0, lesser, lesser + 1);
            Check.due("mend with just enough", x.mend(0, lesser + 1, lesser, 0), 0);
            Check.due("twine used", x.account(10), 1);
            Past none = new Past(y -> {
                y.editor(0);
                y.tear(0, lesser, lesser + 1);
            });
            none.refuses("mend without twine", 6, 0, y -> y.mend(0, lesser, lesser + 1, 0));
        }
    }

    /** To mend one between two lines takes 2. */
    private static void aStringBetweenTwoLinesTakesTwo() {
        for (int lesser : new int[] {0, 5, 6, 11, 12, 17}) {
            NetScript x = new NetScript();
            x.editor(2);
            x.tear(0, lesser, lesser + 6);
            Check.due("mend with just enough", x.mend(0, lesser + 6, lesser, 0), 0);
            Check.due("twine used", x.account(10), 2);
            for (int twine = 0; twine < 2; twine++) {
                int less = twine;
                Past tooLittle = new Past(y -> {
                    y.editor(less);
                    y.tear(0, lesser, lesser + 6);
                });
                tooLittle.refuses("mend with too little", 6, less, y -> y.mend(0, lesser, lesser + 6, 0));
            }
        }
    }

    /** An editor with all twine mends until there is none: 99 times in a line. */
    private static void twineIsUsedUpToTheLast() {
        NetScript x = new NetScript();
        x.editor(99);
        for (int left = 98; left >= 0; left--) {
            x.tear(0, 22, 23);
            Check.due("twine left", x.mend(0, 22, 23, 0), left);
        }
        x.tear(0, 22, 23);
        Check.refused("no twine left", x, 6, 0, () -> x.mend(0, 22, 23, 0));
        Check.due("mended", x.editorOf(0, 1), 99);
        Check.due("twine used", x.account(10), 99);
        Check.due("torn so far", x.account(8), 100);
        NetScript y = new NetScript();
        y.editor(99);
        for (int left = 97; left >= 1; left -= 2) {
            y.tear(0, 17, 23);
            Check.due("twine left", y.mend(0, 17, 23, 0), left);
        }
        y.tear(0, 17, 23);
        Check.refused("too little twine left", y, 6, 1, () -> y.mend(0, 17, 23, 0));
        y.tear(0, 0, 1);
        Check.due("enough for a cheaper one", y.mend(0, 0, 1, 0), 0);
    }

    /** At most 6 notes are kept, numbered from 0. */
    private static void atMostSixNotesAreKept() {
        NetScript x = new NetScript();
        for (int i = 0; i < 6; i++) {
            int place = 4 * i;
            int next = i + 1;
            x.knot(i % 3, place, 1);
            Check.due("note", x.note(i % 3, place), i);
            Check.due("its place", x.noteOf(i, 1), place);
            Check.due("notes", x.account(5), next);
            Check.thrown("the note behind", Check.NO_INDEX, () -> x.noteOf(next, 0));
        }
        Past six = Pasts.FULL.then(y -> y.knot(0, 10, 1));
        six.refuses("a seventh note", 1, 6, y -> y.note(0, 10));
        NetScript y = six.make();
        y.drop(5);
        Check.due("a note in place of a dropped one", y.note(0, 10), 5);
    }

    /** When one is dropped, the numbers of the later ones become 1 less: the first, one between, the last. */
    private static void theNumbersOfLaterNotesBecomeOneLess() {
        for (int dropped = 0; dropped < 6; dropped++) {
            NetScript x = new NetScript();
            for (int i = 0; i < 6; i++) {
                x.knot(i % 3, i, 1 + i % 2);
                x.note(i % 3, i);
            }
            Check.due("drop " + dropped, x.drop(dropped), 5);
            for (int i = 0; i < 5; i++) {
                int was = i < dropped ? i : i + 1;
                Check.due("net of note " + i, x.noteOf(i, 0), was % 3);
                Check.due("place of note " + i, x.noteOf(i, 1), was);
                Check.written("note " + i, x, x.noteLine(i), was % 2 == 0 ? "a" : "b");
            }
            Check.thrown("the last note", Check.NO_INDEX, () -> x.noteOf(5, 0));
            Check.refused("the last note", x, 2, 5, () -> x.drop(5));
        }
    }

    /** A note keeps a chapter as it is: its net, its places, and the kinds of their knots. */
    private static void aNoteKeepsAChapterAsItIs() {
        NetScript x = new NetScript();
        Pasts.tie(x, 2, 3, 9, 15);
        Pasts.tie(x, 2, 1, 16);
        x.note(2, 16);
        Pasts.tie(x, 2, 2, 9, 3);
        x.knot(2, 16, 0);
        Check.due("net", x.noteOf(0, 0), 2);
        Check.due("lowest place", x.noteOf(0, 1), 9);
        Check.due("knots", x.noteOf(0, 2), 3);
        Check.written("kinds", x, x.noteLine(0), "cca!");
        NetScript y = new NetScript();
        Pasts.tieAll(y, 0, 2);
        y.note(0, 11);
        Check.due("knots of the greatest chapter", y.noteOf(0, 2), 24);
        Check.due("its lowest place", y.noteOf(0, 1), 0);
    }

    private static Past noted() {
        return new Past(x -> {
            Pasts.tie(x, 1, 1, 8, 9);
            Pasts.tie(x, 1, 2, 14, 15);
            x.note(1, 15);
        });
    }

    private static void readsAsNoted(NetScript x, boolean isSo) {
        Check.due("reads as noted", x.noteOf(0, 3), isSo ? 1 : 0);
        Check.due("read as noted", x.account(6), isSo ? 1 : 0);
        Check.due("length of its line", x.noteLine(0), isSo ? 4 : 5);
    }

    /** In a chapter with just these places: one more, one less, and one instead. */
    private static void aChapterReadsAsNotedWithJustThesePlaces() {
        readsAsNoted(noted().make(), true);
        for (int place : new int[] {2, 3, 7, 10, 13, 16, 20, 21}) {
            NetScript x = noted().make();
            x.knot(1, place, 1);
            readsAsNoted(x, false);
            x.knot(1, place, 0);
            readsAsNoted(x, true);
        }
        for (int place : new int[] {1, 4, 11, 12, 19, 22}) {
            NetScript x = noted().make();
            x.knot(1, place, 1);
            readsAsNoted(x, true);
        }
        for (int place : new int[] {8, 9, 14, 15}) {
            NetScript x = noted().make();
            x.knot(1, place, 0);
            readsAsNoted(x, false);
        }
        NetScript torn = noted().make();
        torn.tear(1, 8, 9);
        readsAsNoted(torn, true);
        torn.tear(1, 14, 15);
        readsAsNoted(torn, false);
    }

    /** And these kinds. */
    private static void aChapterReadsAsNotedWithTheseKinds() {
        for (int place : new int[] {8, 9, 14, 15}) {
            int was = place < 12 ? 1 : 2;
            for (int kind = 1; kind <= 3; kind++) {
                if (kind != was) {
                    NetScript x = noted().make();
                    x.knot(1, place, kind);
                    readsAsNoted(x, false);
                    x.knot(1, place, was);
                    readsAsNoted(x, true);
                }
            }
        }
    }

    /** If the knot at the noted chapter's lowest place is in such a chapter: without a knot there it is not. */
    private static void theKnotAtTheLowestPlaceIsAsked() {
        NetScript x = new NetScript();
        Pasts.tie(x, 0, 1, 0, 23);
        x.note(0, 23);
        x.note(0, 0);
        x.knot(0, 23, 0);
        Check.due("without a knot", x.noteOf(0, 3), 0);
        Check.due("with its knot", x.noteOf(1, 3), 1);
        x.knot(1, 23, 1);
        Check.due("with a knot in another net", x.noteOf(0, 3), 0);
        x.knot(0, 0, 0);
        Check.due("without a knot", x.noteOf(1, 3), 0);
        Check.due("read as noted", x.account(6), 0);
    }

    private static void noneWouldDo(NetScript x, int note) {
        Check.thrown("least", Check.NO_ELEMENT, () -> x.least(note));
        Check.thrown("leastAgain", Check.NO_ELEMENT, () -> x.leastAgain(note));
    }

    /** For a chapter that reads as noted it is 0: of one knot, and of all. */
    private static void theLeastTwineOfANotedChapterIsNone() {
        NetScript x = new NetScript();
        x.knot(0, 23, 1);
        x.note(0, 23);
        Check.least(x, 0, 0);
        Pasts.tieAll(x, 1, 1);
        x.note(1, 23);
        Check.least(x, 1, 0);
        x.tear(1, 0, 1);
        Check.least(x, 1, 0);
        x.tear(0, 22, 23);
        x.tear(0, 17, 23);
        Check.least(x, 0, 0);
    }

    /** If strings were mended alone: the cheaper way, over a string in a line, or over one between two. */
    private static void theLeastTwineIsOfStringsBetweenItsPlaces() {
        NetScript x = noted().make();
        x.tear(1, 8, 14);
        x.tear(1, 9, 15);
        Check.least(x, 0, 2);
        x.tear(1, 8, 9);
        Check.least(x, 0, 3);
        x.tear(1, 14, 15);
        Check.least(x, 0, 4);
        NetScript y = noted().make();
        y.tear(1, 8, 9);
        y.tear(1, 14, 15);
        Check.least(y, 0, 1);
        y.tear(1, 8, 14);
        Check.least(y, 0, 2);
        y.tear(1, 2, 8);
        y.tear(1, 7, 8);
        Check.least(y, 0, 2);
    }

    /** It would not by any if the kind of one of its places is another one now, none too. */
    private static void noTwineWouldDoIfAKindIsAnother() {
        for (int place : new int[] {8, 9, 14, 15}) {
            int was = place < 12 ? 1 : 2;
            for (int kind = 0; kind <= 3; kind++) {
                if (kind != was) {
                    NetScript x = noted().make();
                    x.knot(1, place, kind);
                    noneWouldDo(x, 0);
                    x.knot(1, place, was);
                    Check.least(x, 0, 0);
                }
            }
        }
    }

    /** Or if a whole string leads from one of its places to a knot at another place; a torn one, or one to no knot, does not. */
    private static void noTwineWouldDoIfAWholeStringLeadsOut() {
        int[][] strings = {{8, 2}, {9, 3}, {8, 7}, {9, 10}, {14, 13}, {15, 16}, {14, 20}, {15, 21}};
        for (int[] string : strings) {
            NetScript x = noted().make();
            Check.least(x, 0, 0);
            x.knot(1, string[1], 3);
            noneWouldDo(x, 0);
            x.tear(1, string[0], string[1]);
            Check.least(x, 0, 0);
            x.tear(1, 8, 14);
            x.tear(1, 9, 15);
            Check.least(x, 0, 2);
            x.editor(2);
            x.mend(1, string[1], string[0], 0);
            noneWouldDo(x, 0);
            x.knot(1, string[1], 0);
            Check.least(x, 0, 2);
        }
        NetScript y = new NetScript();
        y.knot(0, 11, 1);
        y.note(0, 11);
        Pasts.tie(y, 0, 1, 12, 6, 4, 16, 23, 0);
        Check.least(y, 0, 0);
    }

    /** For the least twine, the editors and their twine are not asked. */
    private static void editorsAreNotAskedForTheLeastTwine() {
        NetScript x = noted().make();
        x.tear(1, 8, 14);
        x.tear(1, 9, 15);
        Check.least(x, 0, 2);
        x.editor(0);
        Check.least(x, 0, 2);
        x.editor(1);
        Check.least(x, 0, 2);
        x.editor(99);
        Check.least(x, 0, 2);
        Check.due("twine used", x.account(10), 0);
        Check.due("twine", x.account(4), 100);
    }

    /** All strings torn: 4 lines of 5 strings, and 3 between them. */
    private static void theMostTwineThatIsTheLeast() {
        NetScript x = new NetScript();
        Pasts.tieAll(x, 2, 3);
        x.note(2, 0);
        Pasts.tearAll(x, 2);
        Check.least(x, 0, 4 * 5 + 3 * 2);
        NetScript y = new NetScript();
        Pasts.tie(y, 2, 3, 0, 6, 12, 18);
        y.note(2, 0);
        Pasts.tearAll(y, 2);
        Check.least(y, 0, 6);
        NetScript z = new NetScript();
        Pasts.tie(z, 2, 3, 18, 19, 20, 21, 22, 23);
        z.note(2, 23);
        Pasts.tearAll(z, 2);
        Check.least(z, 0, 5);
    }
}

/** Promises 10 to 21: what there is. */
public final class WhatThereIsTest {
    private static final int MIN = Integer.MIN_VALUE;
    private static final int MAX = Integer.MAX_VALUE;

    public static void main(String[] args) {
        kinds();
        tornStrings();
        numbersOfANet();
        chaptersInTwoWays();
        aChapterCanWind();
        numbersOfAChapter();
        numbersOfANote();
        whetherANoteReadsAsNoted();
        leastTwine();
        leastTwineOfParts();
        noTwineWouldDo();
        bestMending();
        bestMendingOfSeveral();
        chaptersInTheirOrder();
        numbersOfAnEditor();
        Check.end();
    }

    /** Ties knots of the kind 1 at places of a net. */
    private static void tie(NetScript x, int net, int... places) {
        for (int place : places) {
            x.knot(net, place, 1);
        }
    }

    private static void kinds() {
        NetScript x = new NetScript();
        x.knot(0, 5, 1);
        x.knot(1, 5, 2);
        x.knot(2, 5, 3);
        Check.due("kind", x.kindOf(0, 5), 1);
        Check.due("kind", x.kindOf(1, 5), 2);
        Check.due("kind", x.kindOf(2, 5), 3);
        Check.due("none", x.kindOf(2, 6), 0);
        Check.thrown("kindOf", Check.NO_INDEX, () -> x.kindOf(3, 0));
        Check.thrown("kindOf", Check.NO_INDEX, () -> x.kindOf(-1, 0));
        Check.thrown("kindOf", Check.NO_INDEX, () -> x.kindOf(0, 24));
        Check.thrown("kindOf", Check.NO_INDEX, () -> x.kindOf(0, -1));
        Check.thrown("kindOf", Check.NO_INDEX, () -> x.kindOf(MAX, MIN));
        Check.thrown("reason of an exception", Check.NO_ELEMENT, () -> x.reason(false, false));
    }

    private static void tornStrings() {
        NetScript x = new NetScript();
        x.tear(1, 8, 14);
        x.tear(1, 8, 9);
        Check.due("torn", x.isTorn(1, 14, 8), true);
        Check.due("torn", x.isTorn(1, 9, 8), true);
        Check.due("torn", x.isTorn(1, 8, 9), true);
        Check.due("whole", x.isTorn(1, 8, 7), false);
        Check.due("whole", x.isTorn(1, 8, 2), false);
        Check.due("whole", x.isTorn(0, 8, 9), false);
        Check.thrown("isTorn", Check.NO_INDEX, () -> x.isTorn(3, 0, 5));
        Check.thrown("isTorn", Check.NO_INDEX, () -> x.isTorn(-1, 0, 1));
        Check.thrown("isTorn", Check.NO_INDEX, () -> x.isTorn(0, 23, 24));
        Check.thrown("isTorn", Check.NO_INDEX, () -> x.isTorn(0, -1, 0));
        Check.thrown("isTorn", Check.NO_INDEX, () -> x.isTorn(0, MIN, MAX));
        Check.thrown("isTorn", Check.NO_ELEMENT, () -> x.isTorn(0, 11, 12));
        Check.thrown("isTorn", Check.NO_ELEMENT, () -> x.isTorn(0, 0, 0));
        Check.thrown("isTorn", Check.NO_ELEMENT, () -> x.isTorn(0, 0, 7));
        Check.thrown("isTorn", Check.NO_ELEMENT, () -> x.isTorn(0, 18, 6));
    }

    private static void numbersOfANet() {
        NetScript x = new NetScript();
        tie(x, 1, 0, 1, 6, 10, 16, 18, 22, 23);
        x.tear(1, 0, 1);
        x.tear(1, 3, 9);
        x.tear(1, 17, 23);
        x.tear(0, 0, 6);
        x.tide(1);
        x.sink(1, 1);
        Check.due("knots", x.netOf(1, 0), 8);
        Check.due("readable knots", x.netOf(1, 1), 4);
        Check.due("torn strings", x.netOf(1, 2), 3);
        Check.due("draught", x.netOf(1, 3), 1);
        Check.due("lines under water", x.netOf(1, 4), 2);
        Check.due("greatest chapter", x.netOf(1, 5), 4);
        Check.due("twine for all", x.netOf(1, 6), 5);
        Check.due("lines under water", x.netOf(2, 4), 1);
        Check.due("draught", x.netOf(2, 3), 0);
        Check.due("no chapter", x.netOf(2, 5), 0);
        x.sink(1, 4);
        Check.due("four lines at most", x.netOf(1, 4), 4);
        Check.due("readable knots", x.netOf(1, 1), 0);
        Check.thrown("netOf", Check.NO_INDEX, () -> x.netOf(3, 7));
        Check.thrown("netOf", Check.NO_INDEX, () -> x.netOf(-1, 0));
        Check.thrown("netOf", Check.NO_ARGUMENT, () -> x.netOf(0, 7));
        Check.thrown("netOf", Check.NO_ARGUMENT, () -> x.netOf(0, -1));
    }

    private static void chaptersInTwoWays() {
        NetScript x = new NetScript();
        tie(x, 0, 5, 6);
        Check.chapters(x, 0, 2);
        tie(x, 0, 0);
        Check.chapters(x, 0, 2);
        tie(x, 0, 1, 2, 3, 4);
        Check.chapters(x, 0, 1);
        x.tear(0, 0, 6);
        Check.chapters(x, 0, 2);
        tie(x, 0, 7);
        Check.chapters(x, 0, 1);
        x.tear(0, 2, 3);
        Check.chapters(x, 0, 2);
        x.knot(0, 3, 0);
        Check.chapters(x, 0, 2);
        tie(x, 0, 23, 17);
        Check.chapters(x, 0, 3);
        tie(x, 0, 11);
        Check.chapters(x, 0, 2);
        Check.chapters(x, 1, 0);
        Check.thrown("chapters", Check.NO_INDEX, () -> x.chapters(3));
        Check.thrown("chapters", Check.NO_INDEX, () -> x.chapters(-1));
        Check.thrown("chaptersAgain", Check.NO_INDEX, () -> x.chaptersAgain(3));
        Check.thrown("chaptersAgain", Check.NO_INDEX, () -> x.chaptersAgain(MIN));
    }

    /** All 24 places in one row, to and fro, and then as many chapters as can be. */
    private static void aChapterCanWind() {
        NetScript x = new NetScript();
        for (int place = 0; place < 24; place++) {
            x.knot(2, place, 1 + place % 3);
        }
        Check.chapters(x, 2, 1);
        for (int place = 0; place < 18; place++) {
            if (place != 5 && place != 6 && place != 17) {
                Check.due("tear", x.tear(2, place, place + 6), 1);
            }
        }
        Check.chapters(x, 2, 1);
        Check.due("knots", x.chapterOf(2, 23, 1), 24);
        Check.due("lowest place", x.chapterOf(2, 18, 0), 0);
        Check.due("whole strings", x.chapterOf(2, 18, 3), 23);
        Check.due("length", x.chapterLine(2, 12), 24);
        x.tear(2, 6, 12);
        Check.chapters(x, 2, 2);
        Check.due("lowest place", x.chapterOf(2, 18, 0), 12);
        NetScript y = new NetScript();
        for (int place = 0; place < 24; place++) {
            y.knot(0, place, 1);
            if (place % 6 != 5) {
                y.tear(0, place, place + 1);
            }
            if (place < 18) {
                y.tear(0, place, place + 6);
            }
        }
        Check.chapters(y, 0, 24);
        Check.due("ranked", y.ranked(0, 23), 23);
        Check.thrown("ranked", Check.NO_ELEMENT, () -> y.ranked(0, 24));
        Check.due("twine for all", y.netOf(0, 6), 56);
        Check.due("torn", y.netOf(0, 2), 38);
    }

    private static void numbersOfAChapter() {
        NetScript x = new NetScript();
        tie(x, 0, 2, 3, 8, 9, 15, 21, 0);
        Check.due("lowest place", x.chapterOf(0, 21, 0), 2);
        Check.due("knots", x.chapterOf(0, 3, 1), 6);
        Check.due("whole strings", x.chapterOf(0, 3, 3), 6);
        x.tear(0, 2, 3);
        Check.due("whole strings", x.chapterOf(0, 3, 3), 5);
        x.tear(0, 3, 4);
        Check.due("whole strings", x.chapterOf(0, 3, 3), 5);
        Check.due("readable", x.chapterOf(0, 2, 2), 6);
        x.tide(1);
        Check.due("readable", x.chapterOf(0, 2, 2), 5);
        x.sink(0, 2);
        Check.due("readable", x.chapterOf(0, 21, 2), 2);
        Check.due("knots under water", x.chapterOf(0, 21, 1), 6);
        x.tide(2);
        Check.due("readable", x.chapterOf(0, 21, 2), 0);
        Check.due("one knot", x.chapterOf(0, 0, 1), 1);
        Check.due("no string", x.chapterOf(0, 0, 3), 0);
        Check.thrown("chapterOf", Check.NO_INDEX, () -> x.chapterOf(3, 0, 4));
        Check.thrown("chapterOf", Check.NO_INDEX, () -> x.chapterOf(-1, 0, 0));
        Check.thrown("chapterOf", Check.NO_INDEX, () -> x.chapterOf(0, 24, 4));
        Check.thrown("chapterOf", Check.NO_INDEX, () -> x.chapterOf(0, -1, 0));
        Check.thrown("chapterOf", Check.NO_ARGUMENT, () -> x.chapterOf(0, 1, 4));
        Check.thrown("chapterOf", Check.NO_ARGUMENT, () -> x.chapterOf(0, 0, -1));
        Check.thrown("chapterOf", Check.NO_ELEMENT, () -> x.chapterOf(0, 1, 3));
        Check.thrown("chapterOf", Check.NO_ELEMENT, () -> x.chapterOf(1, 2, 0));
    }

    private static void numbersOfANote() {
        NetScript x = new NetScript();
        tie(x, 2, 10, 11, 16, 23);
        x.note(2, 16);
        Check.due("net", x.noteOf(0, 0), 2);
        Check.due("lowest place", x.noteOf(0, 1), 10);
        Check.due("knots", x.noteOf(0, 2), 3);
        Check.due("as noted", x.noteOf(0, 3), 1);
        x.knot(2, 10, 0);
        x.knot(2, 17, 1);
        Check.due("lowest place noted", x.noteOf(0, 1), 10);
        Check.due("knots noted", x.noteOf(0, 2), 3);
        Check.due("not as noted", x.noteOf(0, 3), 0);
        Check.thrown("noteOf", Check.NO_INDEX, () -> x.noteOf(1, 4));
        Check.thrown("noteOf", Check.NO_INDEX, () -> x.noteOf(-1, 0));
        Check.thrown("noteOf", Check.NO_INDEX, () -> x.noteOf(MAX, 0));
        Check.thrown("noteOf", Check.NO_ARGUMENT, () -> x.noteOf(0, 4));
        Check.thrown("noteOf", Check.NO_ARGUMENT, () -> x.noteOf(0, -1));
    }

    private static void whetherANoteReadsAsNoted() {
        NetScript x = new NetScript();
        tie(x, 0, 0, 1, 2, 6, 7, 8);
        x.note(0, 0);
        x.tear(0, 0, 1);
        Check.due("a torn string within", x.noteOf(0, 3), 1);
        x.tide(4);
        Check.due("under water", x.noteOf(0, 3), 1);
        x.knot(0, 3, 1);
        Check.due("one knot more", x.noteOf(0, 3), 0);
        x.knot(0, 3, 0);
        x.knot(0, 2, 2);
        Check.due("another kind", x.noteOf(0, 3), 0);
        x.knot(0, 2, 0);
        Check.due("one knot less", x.noteOf(0, 3), 0);
        x.knot(0, 2, 1);
        Check.due("as it was", x.noteOf(0, 3), 1);
        x.tear(0, 0, 6);
        Check.due("in two parts", x.noteOf(0, 3), 0);
        x.knot(0, 0, 0);
        Check.due("without the lowest", x.noteOf(0, 3), 0);
    }

    private static void leastTwine() {
        NetScript x = new NetScript();
        tie(x, 0, 0, 1, 6, 7);
        x.note(0, 0);
        Check.least(x, 0, 0);
        x.tear(0, 0, 6);
        Check.least(x, 0, 0);
        x.tear(0, 1, 7);
        Check.least(x, 0, 2);
        x.tear(0, 0, 1);
        Check.least(x, 0, 3);
        x.tear(0, 6, 7);
        Check.least(x, 0, 4);
        tie(x, 0, 12);
        Check.thrown("least", Check.NO_ELEMENT, () -> x.least(0));
        x.tear(0, 6, 12);
        Check.least(x, 0, 4);
        Check.due("not as noted", x.noteOf(0, 3), 0);
        Check.thrown("least", Check.NO_INDEX, () -> x.least(1));
        Check.thrown("least", Check.NO_INDEX, () -> x.least(-1));
        Check.thrown("leastAgain", Check.NO_INDEX, () -> x.leastAgain(1));
        Check.thrown("leastAgain", Check.NO_INDEX, () -> x.leastAgain(MIN));
    }

    /** The cheap way round from the lowest place leads over places that come late. */
    private static void leastTwineOfParts() {
        NetScript x = new NetScript();
        tie(x, 1, 0, 1, 2, 6, 8, 12, 13, 14);
        x.note(1, 14);
        x.tear(1, 0, 1);
        x.tear(1, 2, 8);
        Check.least(x, 0, 1);
        x.tear(1, 13, 14);
        x.tear(1, 0, 6);
        Check.least(x, 0, 4);
        x.tear(1, 1, 2);
        x.tear(1, 6, 12);
        x.tear(1, 8, 14);
        x.tear(1, 12, 13);
        Check.least(x, 0, 10);
        NetScript y = new NetScript();
        for (int place = 0; place < 24; place++) {
            y.knot(0, place, 2);
        }
        y.note(0, 0);
        for (int place = 0; place < 24; place++) {
            if (place % 6 != 5) {
                y.tear(0, place, place + 1);
            }
            if (place < 18) {
                y.tear(0, place, place + 6);
            }
        }
        Check.least(y, 0, 26);
    }

    private static void noTwine(NetScript x, int note) {
        Check.thrown("least", Check.NO_ELEMENT, () -> x.least(note));
        Check.thrown("leastAgain", Check.NO_ELEMENT, () -> x.leastAgain(note));
    }

    private static void noTwineWouldDo() {
        NetScript x = new NetScript();
        tie(x, 2, 4, 5, 10, 11);
        x.note(2, 4);
        x.knot(2, 11, 3);
        noTwine(x, 0);
        x.knot(2, 11, 0);
        noTwine(x, 0);
        x.knot(2, 11, 1);
        Check.least(x, 0, 0);
        for (int place : new int[] {3, 9, 16, 17}) {
            x.knot(2, place, 1);
            noTwine(x, 0);
            x.knot(2, place, 0);
        }
        x.tear(2, 10, 16);
        x.knot(2, 16, 1);
        Check.least(x, 0, 0);
        x.knot(2, 12, 1);
        Check.least(x, 0, 0);
        x.knot(2, 17, 1);
        noTwine(x, 0);
        x.tear(2, 11, 17);
        Check.least(x, 0, 0);
    }

    private static void noBest(NetScript x, int net) {
        Check.thrown("bestMend", Check.NO_ELEMENT, () -> x.bestMend(net, false));
        Check.thrown("bestMend", Check.NO_ELEMENT, () -> x.bestMend(net, true));
    }

    private static void bestMending() {
        NetScript x = new NetScript();
        noBest(x, 0);
        tie(x, 0, 0, 1, 6, 7);
        noBest(x, 0);
        x.tear(0, 0, 1);
        noBest(x, 0);
        x.tear(0, 1, 2);
        noBest(x, 0);
        x.tear(0, 6, 7);
        Check.best(x, 0, 0, 1);
        tie(x, 0, 12);
        x.tear(0, 6, 12);
        Check.best(x, 0, 0, 1);
        x.tear(0, 0, 6);
        Check.best(x, 0, 0, 1);
        Check.due("under water too", x.tide(4), 0);
        Check.best(x, 0, 0, 1);
        noBest(x, 1);
        Check.thrown("bestMend", Check.NO_INDEX, () -> x.bestMend(3, true));
        Check.thrown("bestMend", Check.NO_INDEX, () -> x.bestMend(-1, false));
    }

    private static void bestMendingOfSeveral() {
        NetScript x = new NetScript();
        tie(x, 1, 0, 6, 1, 23, 22, 16);
        x.tear(1, 0, 1);
        x.tear(1, 0, 6);
        Check.best(x, 1, 0, 1);
        x.tear(1, 16, 22);
        Check.best(x, 1, 16, 22);
        x.tear(1, 22, 23);
        Check.best(x, 1, 0, 1);
        x.knot(1, 1, 0);
        Check.best(x, 1, 22, 23);
        x.knot(1, 23, 0);
        Check.best(x, 1, 0, 6);
        x.knot(1, 12, 1);
        Check.best(x, 1, 0, 6);
        x.knot(1, 0, 0);
        Check.best(x, 1, 16, 22);
        NetScript y = new NetScript();
        tie(y, 0, 3, 4, 9, 10);
        y.tear(0, 4, 3);
        y.tear(0, 3, 9);
        y.tear(0, 9, 10);
        Check.best(y, 0, 3, 4);
        y.knot(0, 4, 0);
        Check.best(y, 0, 9, 10);
        y.knot(0, 10, 0);
        Check.best(y, 0, 3, 9);
    }

    private static void ranks(NetScript x, int net, int... lowest) {
        for (int i = 0; i < lowest.length; i++) {
            Check.due("ranked " + i, x.ranked(net, i), lowest[i]);
        }
        Check.thrown("ranked", Check.NO_ELEMENT, () -> x.ranked(net, lowest.length));
    }

    private static void chaptersInTheirOrder() {
        NetScript x = new NetScript();
        ranks(x, 0);
        tie(x, 0, 0, 2, 4, 10, 12, 13, 21);
        ranks(x, 0, 4, 12, 0, 2, 21);
        tie(x, 0, 14, 20);
        ranks(x, 0, 12, 4, 0, 2);
        x.tear(0, 13, 14);
        ranks(x, 0, 14, 4, 12, 0, 2);
        Check.thrown("ranked", Check.NO_ELEMENT, () -> x.ranked(0, -1));
        Check.thrown("ranked", Check.NO_ELEMENT, () -> x.ranked(0, MAX));
        Check.thrown("ranked", Check.NO_ELEMENT, () -> x.ranked(1, 0));
        Check.thrown("ranked", Check.NO_INDEX, () -> x.ranked(3, 0));
        Check.thrown("ranked", Check.NO_INDEX, () -> x.ranked(-1, -1));
    }

    private static void numbersOfAnEditor() {
        NetScript x = new NetScript();
        Check.thrown("editorOf", Check.NO_INDEX, () -> x.editorOf(0, 0));
        x.editor(7);
        x.editor(99);
        x.tear(0, 0, 6);
        x.mend(0, 0, 6, 1);
        x.tear(0, 0, 6);
        x.mend(0, 0, 6, 1);
        Check.due("twine", x.editorOf(0, 0), 7);
        Check.due("mended", x.editorOf(0, 1), 0);
        Check.due("twine", x.editorOf(1, 0), 95);
        Check.due("mended", x.editorOf(1, 1), 2);
        Check.thrown("editorOf", Check.NO_INDEX, () -> x.editorOf(2, 2));
        Check.thrown("editorOf", Check.NO_INDEX, () -> x.editorOf(-1, 0));
        Check.thrown("editorOf", Check.NO_ARGUMENT, () -> x.editorOf(1, 2));
        Check.thrown("editorOf", Check.NO_ARGUMENT, () -> x.editorOf(1, -1));
    }
}

/** Promises 1 to 4: a new object, knot, tear and mend. */
public final class KnotsAndStringsTest {
    private static final int MIN = Integer.MIN_VALUE;
    private static final int MAX = Integer.MAX_VALUE;

    public static void main(String[] args) {
        aNewObjectHasThreeEmptyNets();
        aNewObjectHasWholeStrings();
        knotsAreTiedAndUntied();
        knotsAreRefused();
        stringsAreTorn();
        tearsAreRefused();
        stringsAreMended();
        mendingsAreRefused();
        allCanBeDoneUnderWater();
        Check.end();
    }

    private static void aNewObjectHasThreeEmptyNets() {
        NetScript x = new NetScript();
        for (int net = 0; net < 3; net++) {
            for (int place = 0; place < 24; place++) {
                Check.due("kind at first", x.kindOf(net, place), 0);
            }
            for (int what = 0; what <= 6; what++) {
                Check.due("netOf at first " + what, x.netOf(net, what), 0);
            }
        }
        for (int what = 0; what <= 12; what++) {
            Check.due("account at first " + what, x.account(what), 0);
        }
        Check.due("balanced at first", x.isBalanced(), true);
        Check.thrown("character at first", Check.NO_INDEX, () -> x.character(0));
        Check.thrown("reason at first", Check.NO_ELEMENT, () -> x.reason(false, false));
        Check.thrown("fault at first", Check.NO_ELEMENT, x::faultPosition);
        Check.thrown("undo at first", Check.NO_STATE, x::undo);
        Check.thrown("restore at first", Check.NO_STATE, x::restore);
    }

    private static void aNewObjectHasWholeStrings() {
        NetScript x = new NetScript();
        int strings = 0;
        for (int net = 0; net < 3; net++) {
            for (int place = 0; place < 24; place++) {
                if (place % 6 != 5) {
                    Check.due("torn at first", x.isTorn(net, place, place + 1), false);
                    strings++;
                }
                if (place < 18) {
                    Check.due("torn at first", x.isTorn(net, place, place + 6), false);
                    strings++;
                }
            }
        }
        Check.due("strings", strings, 3 * 38);
    }

    private static void knotsAreTiedAndUntied() {
        NetScript x = new NetScript();
        Check.due("knot", x.knot(0, 0, 1), 0);
        Check.due("knot of another kind", x.knot(0, 0, 2), 1);
        Check.due("knot of another kind", x.knot(0, 0, 3), 2);
        Check.due("kind", x.kindOf(0, 0), 3);
        Check.due("knot at the last place", x.knot(2, 23, 2), 0);
        Check.due("kind in another net", x.kindOf(1, 23), 0);
        Check.due("knots", x.account(0), 2);
        Check.due("untied", x.knot(0, 0, 0), 3);
        Check.due("kind", x.kindOf(0, 0), 0);
        Check.due("knots", x.account(0), 1);
        Check.due("changes", x.account(12), 5);
    }

    private static void knotsAreRefused() {
        NetScript x = new NetScript();
        Check.refused("knot, net 3", x, 2, 3, () -> x.knot(3, 24, 4));
        Check.refused("knot, net -1", x, 2, -1, () -> x.knot(-1, 0, 1));
        Check.refused("knot, net MAX", x, 2, MAX, () -> x.knot(MAX, 0, 1));
        Check.refused("knot, place 24", x, 2, 24, () -> x.knot(2, 24, 4));
        Check.refused("knot, place -1", x, 2, -1, () -> x.knot(0, -1, 1));
        Check.refused("knot, place MIN", x, 2, MIN, () -> x.knot(0, MIN, 1));
        Check.refused("knot, kind 4", x, 3, 4, () -> x.knot(0, 0, 4));
        Check.refused("knot, kind -1", x, 3, -1, () -> x.knot(0, 0, -1));
        Check.refused("knot, none already", x, 4, 0, () -> x.knot(0, 0, 0));
        x.knot(0, 0, 3);
        Check.refused("knot, so already", x, 4, 3, () -> x.knot(0, 0, 3));
        Check.due("changes", x.account(12), 1);
        Check.due("knots", x.account(0), 1);
    }

    private static void stringsAreTorn() {
        NetScript x = new NetScript();
        x.knot(1, 0, 1);
        x.knot(1, 1, 1);
        x.knot(1, 7, 1);
        Check.due("chapters", x.chapters(1), 1);
        Check.due("tear in a line", x.tear(1, 0, 1), 2);
        Check.due("tear between two lines, upwards", x.tear(1, 7, 1), 3);
        Check.due("tear without knots", x.tear(1, 22, 23), 3);
        Check.due("tear in a net without knots", x.tear(0, 17, 23), 0);
        Check.due("torn", x.isTorn(1, 1, 7), true);
        Check.due("another net's string", x.isTorn(0, 1, 7), false);
        Check.due("torn strings", x.account(2), 4);
        Check.due("torn so far", x.account(8), 4);
        Check.due("changes", x.account(12), 7);
    }

    private static void tearsAreRefused() {
        NetScript x = new NetScript();
        Check.refused("tear, net", x, 2, 3, () -> x.tear(3, 24, 25));
        Check.refused("tear, net", x, 2, MIN, () -> x.tear(MIN, 0, 1));
        Check.refused("tear, one", x, 2, 24, () -> x.tear(0, 24, 25));
        Check.refused("tear, other", x, 2, -1, () -> x.tear(0, 0, -1));
        Check.refused("tear, other", x, 2, 24, () -> x.tear(0, 18, 24));
        Check.refused("tear, the line's end", x, 5, 6, () -> x.tear(0, 5, 6));
        Check.refused("tear, the line's end back", x, 5, 5, () -> x.tear(0, 6, 5));
        Check.refused("tear, the line's end below", x, 5, 18, () -> x.tear(0, 17, 18));
        Check.refused("tear, the same place", x, 5, 9, () -> x.tear(0, 9, 9));
        Check.refused("tear, aslant", x, 5, 7, () -> x.tear(0, 0, 7));
        Check.refused("tear, aslant", x, 5, 6, () -> x.tear(0, 1, 6));
        Check.refused("tear, two lines on", x, 5, 12, () -> x.tear(0, 0, 12));
        Check.refused("tear, two columns on", x, 5, 2, () -> x.tear(0, 0, 2));
        x.tear(0, 3, 2);
        x.tear(0, 3, 9);
        Check.refused("tear, torn", x, 4, 3, () -> x.tear(0, 3, 2));
        Check.refused("tear, torn", x, 4, 3, () -> x.tear(0, 2, 3));
        Check.refused("tear, torn", x, 4, 9, () -> x.tear(0, 3, 9));
        Check.refused("tear, torn", x, 4, 9, () -> x.tear(0, 9, 3));
        Check.due("torn so far", x.account(8), 2);
    }

    private static void stringsAreMended() {
        NetScript x = new NetScript();
        x.editor(3);
        x.editor(2);
        x.tear(2, 0, 1);
        x.tear(2, 0, 6);
        x.tear(2, 16, 17);
        Check.due("mend in a line", x.mend(2, 1, 0, 0), 2);
        Check.due("mend between two lines", x.mend(2, 0, 6, 0), 0);
        Check.due("mend by another", x.mend(2, 16, 17, 1), 1);
        Check.due("torn", x.isTorn(2, 0, 6), false);
        Check.due("torn strings", x.account(2), 0);
        Check.due("torn so far", x.account(8), 3);
        Check.due("mended so far", x.account(9), 3);
        Check.due("twine used", x.account(10), 4);
        Check.due("torn again", x.tear(2, 0, 6), 0);
        Check.due("torn so far", x.account(8), 4);
        Check.due("mended by one", x.editorOf(0, 1), 2);
        Check.due("mended by another", x.editorOf(1, 1), 1);
    }

    private static void mendingsAreRefused() {
        NetScript x = new NetScript();
        Check.refused("mend, net", x, 2, 3, () -> x.mend(3, 24, 25, 9));
        Check.refused("mend, one", x, 2, 24, () -> x.mend(0, 24, 25, 9));
        Check.refused("mend, other", x, 2, 25, () -> x.mend(0, 23, 25, 9));
        Check.refused("mend, editor", x, 2, 9, () -> x.mend(0, 0, 2, 9));
        Check.refused("mend, editor", x, 2, 0, () -> x.mend(0, 0, 1, 0));
        Check.refused("mend, editor", x, 2, -1, () -> x.mend(0, 0, 1, -1));
        x.editor(0);
        x.editor(1);
        Check.refused("mend, editor", x, 2, 2, () -> x.mend(0, 0, 1, 2));
        Check.refused("mend, not beside", x, 5, 6, () -> x.mend(0, 5, 6, 0));
        Check.refused("mend, whole", x, 4, 6, () -> x.mend(0, 6, 0, 0));
        Check.refused("mend, whole", x, 4, 1, () -> x.mend(0, 0, 1, 0));
        x.tear(0, 0, 1);
        x.tear(0, 0, 6);
        Check.refused("mend, no twine", x, 6, 0, () -> x.mend(0, 0, 1, 0));
        Check.refused("mend, no twine", x, 6, 0, () -> x.mend(0, 0, 6, 0));
        Check.refused("mend, too little twine", x, 6, 1, () -> x.mend(0, 0, 6, 1));
        Check.due("mend with just enough", x.mend(0, 0, 1, 1), 0);
        Check.due("torn", x.isTorn(0, 0, 6), true);
        Check.due("mended so far", x.account(9), 1);
    }

    private static void allCanBeDoneUnderWater() {
        NetScript x = new NetScript();
        x.tide(4);
        x.editor(9);
        Check.due("knot under water", x.knot(0, 20, 2), 0);
        Check.due("knot under water", x.knot(0, 21, 2), 0);
        Check.due("tear under water", x.tear(0, 20, 21), 2);
        Check.due("note under water", x.note(0, 20), 0);
        Check.due("mend under water", x.mend(0, 20, 21, 0), 8);
        Check.due("reading under water", x.chapterLine(0, 20), 2);
    }
}

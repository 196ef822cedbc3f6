/** Promises 34 to 36: undo, save and restore. */
public final class UndoTest {
    public static void main(String[] args) {
        eachChangeIsUndone();
        theLatestEightAreUndone();
        whatIsRefusedIsNoChange();
        whatDoesNotGoBack();
        changesBehindUndo();
        aSnapshotIsRestored();
        aSnapshotStays();
        nothingIsUndoneBehindRestore();
        Check.end();
    }

    private static void eachChangeIsUndone() {
        NetScript x = new NetScript();
        x.knot(0, 0, 2);
        x.knot(0, 0, 3);
        Check.due("undo of knot", x.undo(), 1);
        Check.due("kind", x.kindOf(0, 0), 2);
        x.tear(0, 0, 1);
        Check.due("undo of tear", x.undo(), 1);
        Check.due("torn", x.isTorn(0, 0, 1), false);
        Check.due("torn so far", x.account(8), 0);
        x.editor(5);
        x.tear(0, 0, 6);
        x.mend(0, 0, 6, 0);
        Check.due("undo of mend", x.undo(), 3);
        Check.due("torn", x.isTorn(0, 0, 6), true);
        Check.due("twine", x.editorOf(0, 0), 5);
        Check.due("mended", x.editorOf(0, 1), 0);
        Check.due("twine used", x.account(10), 0);
        x.undo();
        Check.due("undo of editor", x.undo(), 1);
        Check.due("editors", x.account(3), 0);
        Check.due("editor anew", x.editor(6), 0);
        x.tide(2);
        Check.due("undo of tide", x.undo(), 2);
        Check.due("tide", x.account(7), 0);
        x.sink(2, 2);
        Check.due("undo of sink", x.undo(), 2);
        Check.due("draught", x.netOf(2, 3), 0);
        x.note(0, 0);
        x.drop(0);
        Check.due("undo of drop", x.undo(), 3);
        Check.due("note", x.noteOf(0, 2), 1);
        Check.due("undo of note", x.undo(), 2);
        Check.due("notes", x.account(5), 0);
        Check.runs(x, "tide 1;tide 2;knot 1 1=1", 3);
        Check.due("undo of run", x.undo(), 2);
        Check.due("tide", x.account(7), 0);
        Check.due("kind", x.kindOf(1, 1), 0);
        Check.due("undo", x.undo(), 1);
        Check.due("undo", x.undo(), 0);
        Check.due("knots", x.account(0), 0);
        Check.thrown("undo", Check.NO_STATE, x::undo);
    }

    private static void theLatestEightAreUndone() {
        NetScript x = new NetScript();
        for (int i = 1; i <= 21; i++) {
            x.knot(0, i, 1);
            Check.due("changes", x.account(12), Math.min(i, 8));
        }
        for (int left = 7; left >= 0; left--) {
            Check.due("undo", x.undo(), left);
            Check.due("knots", x.account(0), 13 + left);
        }
        Check.thrown("undo", Check.NO_STATE, x::undo);
        Check.due("knots", x.account(0), 13);
    }

    private static void whatIsRefusedIsNoChange() {
        NetScript x = new NetScript();
        x.knot(0, 0, 1);
        Check.refused("knot", x, 4, 1, () -> x.knot(0, 0, 1));
        Check.refused("tear", x, 5, 2, () -> x.tear(0, 0, 2));
        Check.refused("mend", x, 2, 0, () -> x.mend(0, 0, 1, 0));
        Check.refused("editor", x, 3, 100, () -> x.editor(100));
        Check.refused("tide", x, 4, 0, () -> x.tide(0));
        Check.refused("sink", x, 4, 0, () -> x.sink(0, 0));
        Check.refused("note", x, 7, 1, () -> x.note(0, 1));
        Check.refused("drop", x, 2, 0, () -> x.drop(0));
        Check.orderRefused(x, "tide 0", 0, 4, 0);
        Check.fault(x, "tide", 4);
        x.save();
        x.feed('x');
        x.line(0, 0);
        Check.due("changes", x.account(12), 1);
        Check.due("undo", x.undo(), 0);
    }

    private static void whatDoesNotGoBack() {
        NetScript x = new NetScript();
        x.save();
        x.knot(0, 0, 1);
        Check.fault(x, "tide?", 4);
        Check.refused("tide", x, 3, 5, () -> x.tide(5));
        int length = x.chapterLine(0, 0);
        x.feed('a');
        x.undo();
        Check.due("tape", x.account(11), 1);
        Check.due("fault", x.faultPosition(), 4);
        Check.due("reason", x.reason(false, true), 5);
        Check.written("line", x, length, "a");
        x.restore();
        Check.due("tape", x.account(11), 1);
        Check.due("fault", x.faultPosition(), 4);
        Check.due("reason", x.reason(false, false), 3);
        Check.written("line", x, length, "a");
    }

    private static void changesBehindUndo() {
        NetScript x = new NetScript();
        for (int i = 0; i < 10; i++) {
            x.knot(0, i, 1);
        }
        x.undo();
        x.undo();
        Check.due("knots", x.account(0), 8);
        x.knot(1, 0, 1);
        x.knot(1, 1, 1);
        Check.due("changes", x.account(12), 8);
        x.knot(1, 2, 1);
        for (int left = 7; left >= 0; left--) {
            Check.due("undo", x.undo(), left);
        }
        Check.due("knots", x.account(0), 3);
        Check.due("knots", x.netOf(1, 0), 0);
    }

    private static void aSnapshotIsRestored() {
        NetScript x = new NetScript();
        Check.thrown("restore", Check.NO_STATE, x::restore);
        x.knot(0, 0, 1);
        x.knot(0, 1, 3);
        x.note(0, 0);
        x.knot(1, 0, 1);
        x.note(1, 0);
        x.editor(50);
        x.tear(0, 0, 1);
        x.tear(0, 2, 8);
        x.mend(0, 2, 8, 0);
        x.tide(1);
        x.sink(2, 3);
        Check.due("save", x.save(), 2);
        Check.due("changes", x.account(12), 8);
        x.drop(0);
        x.knot(0, 1, 0);
        x.mend(0, 0, 1, 0);
        x.editor(1);
        x.tide(0);
        x.sink(2, 0);
        x.tear(2, 0, 1);
        Check.due("restore", x.restore(), 2);
        int[] due = {3, 3, 1, 1, 48, 2, 1, 1, 2, 1, 2, 0, 0};
        for (int what = 0; what < due.length; what++) {
            Check.due("account " + what, x.account(what), due[what]);
        }
        Check.due("kind", x.kindOf(0, 1), 3);
        Check.due("torn", x.isTorn(0, 0, 1), true);
        Check.due("torn", x.isTorn(2, 0, 1), false);
        Check.due("draught", x.netOf(2, 3), 3);
        Check.due("mended", x.editorOf(0, 1), 1);
        Check.due("noted place", x.noteOf(0, 1), 0);
        Check.due("noted net", x.noteOf(1, 0), 1);
        Check.due("balanced", x.isBalanced(), true);
    }

    private static void aSnapshotStays() {
        NetScript x = new NetScript();
        x.knot(0, 0, 1);
        x.save();
        x.knot(0, 1, 1);
        x.undo();
        x.undo();
        Check.due("knots", x.account(0), 0);
        Check.due("restore", x.restore(), 0);
        Check.due("knots", x.account(0), 1);
        x.knot(0, 1, 1);
        x.note(0, 0);
        Check.due("restore", x.restore(), 0);
        Check.due("knots", x.account(0), 1);
        x.note(0, 0);
        Check.due("save in its place", x.save(), 1);
        x.drop(0);
        Check.due("restore", x.restore(), 1);
    }

    private static void nothingIsUndoneBehindRestore() {
        NetScript x = new NetScript();
        Check.due("save at first", x.save(), 0);
        for (int i = 0; i < 12; i++) {
            x.knot(0, i, 1);
        }
        x.restore();
        Check.due("changes", x.account(12), 0);
        Check.thrown("undo", Check.NO_STATE, x::undo);
        Check.due("knots", x.account(0), 0);
        for (int i = 0; i < 3; i++) {
            x.knot(1, i, 1);
        }
        Check.due("undo", x.undo(), 2);
        Check.due("knots", x.account(0), 2);
        Check.due("undo", x.undo(), 1);
        Check.due("undo", x.undo(), 0);
        Check.thrown("undo", Check.NO_STATE, x::undo);
    }
}

import java.util.function.Consumer;

/** Changes, undo, save, restore and the number of calls at their edges. One test a sentence. */
public final class BoundaryUndoTest {
    public static void main(String[] args) {
        eachSuccessfulCallIsAChange();
        whatIsRefusedIsNoChange();
        whatElseThereIsIsNoChange();
        theLatestEightCanBeUndone();
        undoReturnsHowManyCanStillBeUndone();
        undoThrows();
        theLatestThatWasNotUndoneIsUndone();
        eachUndoLeavesAllAsItWasBefore();
        changesBehindUndoTakeThePlaceOfThoseUndone();
        undoGoesOnRoundTheEighth();
        whatDoesNotGoBack();
        saveReturnsTheNotes();
        saveLeavesAllAsItIs();
        whatIsSavedIsInPlaceOfWhatWasSavedBefore();
        restoreReturnsTheNotes();
        restoreThrows();
        allThatGoesBackIsRestored();
        whatWasSavedStaysSaved();
        nothingCanBeUndoneBehindRestore();
        anObjectIsUsedFor512Calls();
        Check.end();
    }

    private static Past beforeChanges() {
        return new Past(x -> {
            Pasts.tie(x, 0, 1, 0, 1);
            x.editor(9);
            x.tear(0, 0, 1);
            x.note(0, 0);
        });
    }

    private interface Change extends Consumer<NetScript> {
    }

    private static final Change[] CHANGES = {
        x -> x.knot(2, 23, 3), x -> x.knot(0, 0, 0), x -> x.tear(2, 17, 23), x -> x.mend(0, 0, 1, 0), x -> x.editor(0),
        x -> x.tide(4), x -> x.sink(2, 4), x -> x.note(0, 1), x -> x.drop(0), x -> {
            Check.runs(x, "tide 1;drop 0", 2);
        }
    };

    /** The successful calls of knot, tear, mend, editor, tide, sink, note, drop and run are changes. */
    private static void eachSuccessfulCallIsAChange() {
        for (Change change : CHANGES) {
            NetScript x = beforeChanges().make();
            Check.due("changes", x.account(12), 5);
            change.accept(x);
            Check.due("changes", x.account(12), 6);
            Check.due("undo", x.undo(), 5);
        }
    }

    /** A call that throws an exception leaves everything unchanged, what can be undone as well. */
    private static void whatIsRefusedIsNoChange() {
        Pasts.FULL.refuses("knot", 4, 1, x -> x.knot(0, 0, 1));
        Pasts.FULL.refuses("tear", 4, 6, x -> x.tear(1, 6, 0));
        Pasts.FULL.refuses("mend", 4, 1, x -> x.mend(1, 1, 0, 3));
        Pasts.FULL.refuses("editor", 1, 4, x -> x.editor(1));
        Pasts.FULL.refuses("tide", 4, 4, x -> x.tide(4));
        Pasts.FULL.refuses("sink", 4, 0, x -> x.sink(2, 0));
        Pasts.FULL.refuses("note", 8, 5, x -> x.note(2, 23));
        Pasts.FULL.refuses("drop", 2, 6, x -> x.drop(6));
        Past emptied = Pasts.FULL.then(NetScript::run);
        emptied.alike("a refused run", emptied.then(x -> Check.orderRefused(x, "tide 1;tide 1", 1, 4, 1)), Past.REASON);
        emptied.alike("a run with a fault", emptied.then(x -> Check.fault(x, "tide 1;", 7)), Past.FAULT);
        Check.due("changes", emptied.make().account(12), 8);
    }

    /** Other calls are no changes. */
    private static void whatElseThereIsIsNoChange() {
        NetScript x = beforeChanges().make();
        x.save();
        x.feed('t');
        x.line(0, 0);
        x.chapterLine(0, 0);
        x.noteLine(0);
        x.least(0);
        x.leastAgain(0);
        x.chaptersAgain(0);
        x.bestMend(0, true);
        x.isBalanced();
        Check.due("changes", x.account(12), 5);
        x.undo();
        Check.due("the latest change is undone", x.account(5), 0);
        beforeChanges().alike("behind questions", beforeChanges().then(y -> {
            y.least(0);
            y.leastAgain(0);
            y.chapters(0);
            y.chaptersAgain(0);
            y.ranked(0, 1);
            y.bestMend(0, false);
            y.chapterOf(0, 0, 3);
            y.isBalanced();
            y.meanKnots();
            y.readShare();
        }));
    }

    /** The latest 8 can be undone: of seven, eight, nine and seventeen changes. */
    private static void theLatestEightCanBeUndone() {
        for (int changes : new int[] {0, 1, 7, 8, 9, 16, 17, 24}) {
            NetScript x = new NetScript();
            for (int i = 0; i < changes; i++) {
                x.knot(0, i, 1);
            }
            int most = Math.min(changes, 8);
            Check.due("changes", x.account(12), most);
            for (int left = most - 1; left >= 0; left--) {
                Check.due("undo", x.undo(), left);
                Check.due("knots", x.account(0), changes - most + left);
            }
            Check.thrown("undo", Check.NO_STATE, x::undo);
            Check.due("knots", x.account(0), changes - most);
        }
    }

    /** Returns the number of changes that can still be undone: from 7 to 0. */
    private static void undoReturnsHowManyCanStillBeUndone() {
        NetScript x = Pasts.FULL.make();
        for (int left = 7; left >= 0; left--) {
            Check.due("changes", x.account(12), left + 1);
            Check.due("undo", x.undo(), left);
            Check.due("changes", x.account(12), left);
        }
    }

    /** Throws IllegalStateException if there is none: at first, when all are undone, and behind restore. */
    private static void undoThrows() {
        Pasts.NEW.thrown("undo at first", Check.NO_STATE, NetScript::undo);
        Past one = Pasts.NEW.then(x -> x.tide(1));
        Check.due("undo of one", one.make().undo(), 0);
        one.then(NetScript::undo).thrown("undo of the one again", Check.NO_STATE, NetScript::undo);
        Pasts.RICH.then(NetScript::restore).thrown("undo behind restore", Check.NO_STATE, NetScript::undo);
        Pasts.NEW.then(x -> x.feed('x')).then(NetScript::save).thrown("undo of no change", Check.NO_STATE, NetScript::undo);
    }

    /** Undoes the latest change that was not undone. */
    private static void theLatestThatWasNotUndoneIsUndone() {
        NetScript x = new NetScript();
        for (int kind = 1; kind <= 3; kind++) {
            x.knot(0, 0, kind);
        }
        x.undo();
        Check.due("kind", x.kindOf(0, 0), 2);
        x.undo();
        Check.due("kind", x.kindOf(0, 0), 1);
        x.knot(0, 0, 3);
        x.undo();
        Check.due("kind", x.kindOf(0, 0), 1);
        Check.due("undo", x.undo(), 0);
        Check.due("kind", x.kindOf(0, 0), 0);
    }

    /** All that a change did goes back. */
    private static void eachUndoLeavesAllAsItWasBefore() {
        Past before = beforeChanges();
        for (Change change : CHANGES) {
            before.alike("behind undo", before.then(change).then(NetScript::undo));
        }
        Past seven = before.then(x -> x.knot(1, 0, 1)).then(x -> x.knot(1, 0, 2));
        seven.alike("behind the eighth that is undone", seven.then(x -> x.tide(2)).then(NetScript::undo));
    }

    /** What was undone is gone when another change is made. */
    private static void changesBehindUndoTakeThePlaceOfThoseUndone() {
        NetScript x = new NetScript();
        for (int i = 0; i < 8; i++) {
            x.knot(0, i, 1);
        }
        for (int left = 7; left >= 3; left--) {
            Check.due("undo", x.undo(), left);
        }
        for (int i = 0; i < 5; i++) {
            x.knot(1, i, 1);
            Check.due("changes", x.account(12), 4 + i);
        }
        x.knot(1, 5, 1);
        Check.due("changes", x.account(12), 8);
        for (int left = 7; left >= 0; left--) {
            Check.due("undo", x.undo(), left);
            Check.due("knots of the one net", x.netOf(0, 0), Math.min(3, 1 + left));
            Check.due("knots of the other", x.netOf(1, 0), Math.max(0, left - 2));
        }
        Check.thrown("undo", Check.NO_STATE, x::undo);
    }

    /** Whichever change is the eighth: each of many beginnings of the eight that are kept. */
    private static void undoGoesOnRoundTheEighth() {
        for (int changes = 1; changes <= 20; changes++) {
            for (int undos = 1; undos <= Math.min(changes, 8); undos++) {
                NetScript x = new NetScript();
                for (int i = 0; i < changes; i++) {
                    x.knot(2, 0, 1 + i % 3);
                }
                for (int i = 0; i < undos; i++) {
                    x.undo();
                }
                int left = changes - undos;
                Check.due("kind", x.kindOf(2, 0), left == 0 ? 0 : 1 + (left - 1) % 3);
                x.tide(4);
                x.undo();
                Check.due("kind", x.kindOf(2, 0), left == 0 ? 0 : 1 + (left - 1) % 3);
                Check.due("changes", x.account(12), Math.min(Math.min(changes, 8) - undos, 7));
            }
        }
    }

    /** The tape, the fault position, the reasons and the line do not go back. */
    private static void whatDoesNotGoBack() {
        NetScript x = new NetScript();
        x.save();
        x.knot(0, 0, 1);
        Check.fault(x, "drop 0;", 7);
        Check.orderRefused(x, "tide 1;tide 1", 1, 4, 1);
        Check.feed(x, "tide 3;");
        int length = x.line(0, 0);
        x.undo();
        keptAll(x, length);
        x.restore();
        keptAll(x, length);
        Check.due("the tape goes on", x.feed('t'), 8);
        Check.thrown("run", Check.NO_ARGUMENT, x::run);
        Check.due("fault", x.faultPosition(), 8);
        x.knot(0, 0, 1);
        x.undo();
        Check.due("an empty tape stays empty", x.account(11), 0);
    }

    private static void keptAll(NetScript x, int length) {
        Check.due("tape", x.account(11), 7);
        Check.due("fault", x.faultPosition(), 7);
        Check.due("reason", x.reason(false, false), 9);
        Check.due("detail", x.reason(false, true), 1);
        Check.due("reason behind", x.reason(true, false), 4);
        Check.due("detail behind", x.reason(true, true), 1);
        Check.written("line", x, length, "a-.-.-.-.-.");
    }

    /** Returns the notes: from none to six. */
    private static void saveReturnsTheNotes() {
        NetScript x = new NetScript();
        Check.due("save", x.save(), 0);
        for (int i = 0; i < 6; i++) {
            x.knot(i / 2, 23 * (i % 2), 1);
            x.note(i / 2, 23 * (i % 2));
            Check.due("save", x.save(), i + 1);
        }
        x.drop(0);
        Check.due("save", x.save(), 5);
        x.undo();
        Check.due("save", x.save(), 6);
    }

    /** Saving changes nothing, not even what can be undone. */
    private static void saveLeavesAllAsItIs() {
        NetScript x = Pasts.FULL.make();
        x.save();
        Check.due("changes", x.account(12), 8);
        Check.due("undo", x.undo(), 7);
        Check.due("torn", x.account(2), 0);
        Past again = Pasts.NEW.then(NetScript::save);
        again.alike("saved twice", again.then(NetScript::save));
    }

    /** In place of what was saved before. */
    private static void whatIsSavedIsInPlaceOfWhatWasSavedBefore() {
        NetScript x = new NetScript();
        for (int kind = 1; kind <= 3; kind++) {
            x.knot(0, 0, kind);
            x.save();
        }
        x.knot(0, 0, 0);
        x.restore();
        Check.due("kind", x.kindOf(0, 0), 3);
        x.knot(0, 0, 1);
        x.restore();
        Check.due("kind", x.kindOf(0, 0), 3);
    }

    /** Returns the notes that are there then. */
    private static void restoreReturnsTheNotes() {
        Check.due("restore", Pasts.FULL.make().restore(), 6);
        Check.due("restore", Pasts.RICH.make().restore(), 4);
        NetScript x = new NetScript();
        x.save();
        x.knot(0, 0, 1);
        x.note(0, 0);
        Check.due("restore", x.restore(), 0);
        Check.due("notes", x.account(5), 0);
    }

    /** Throws IllegalStateException if nothing was saved. */
    private static void restoreThrows() {
        Pasts.NEW.thrown("restore at first", Check.NO_STATE, NetScript::restore);
        beforeChanges().thrown("restore without save", Check.NO_STATE, NetScript::restore);
        NetScript x = beforeChanges().make();
        Check.thrown("restore", Check.NO_STATE, x::restore);
        Check.due("changes", x.account(12), 5);
        x.save();
        Check.due("restore", x.restore(), 1);
    }

    /** All that goes back when a change is undone. */
    private static void allThatGoesBackIsRestored() {
        Past saved = Pasts.RICH.then(NetScript::save);
        Past restored = saved.then(NetScript::restore);
        Past changed = saved.then(x -> {
            for (int net = 0; net < 3; net++) {
                x.knot(net, 4, 1 + net);
                x.tear(net, 3, 4);
                x.sink(net, 3);
                x.note(net, 4);
            }
            x.mend(0, 0, 1, 2);
            x.editor(3);
            x.tide(0);
            x.drop(0);
            x.drop(0);
        });
        restored.alike("behind restore", changed.then(NetScript::restore));
    }

    /** Which stays saved: restored, changed and undone again and again. */
    private static void whatWasSavedStaysSaved() {
        NetScript x = new NetScript();
        x.knot(0, 0, 1);
        x.note(0, 0);
        x.save();
        for (int i = 0; i < 3; i++) {
            x.knot(0, 1, 2);
            x.drop(0);
            x.undo();
            x.undo();
            x.tear(0, 0, 1);
            Check.due("restore", x.restore(), 1);
            Check.due("knots", x.account(0), 1);
            Check.due("torn", x.account(2), 0);
            Check.due("restore at once", x.restore(), 1);
        }
        NetScript y = new NetScript();
        y.knot(0, 0, 1);
        y.save();
        y.undo();
        Check.due("knots", y.account(0), 0);
        y.restore();
        Check.due("knots of what was undone, but saved", y.account(0), 1);
    }

    /** Nothing can be undone then; what is changed behind it can, up to 8 again. */
    private static void nothingCanBeUndoneBehindRestore() {
        for (int changes : new int[] {0, 1, 8, 11}) {
            NetScript x = new NetScript();
            x.save();
            for (int i = 0; i < changes; i++) {
                x.knot(0, i, 1);
            }
            x.restore();
            Check.due("changes", x.account(12), 0);
            Check.thrown("undo", Check.NO_STATE, x::undo);
            for (int i = 0; i < 9; i++) {
                x.knot(1, i, 1);
                Check.due("changes", x.account(12), Math.min(i + 1, 8));
            }
            for (int left = 7; left >= 0; left--) {
                Check.due("undo", x.undo(), left);
                Check.due("knots", x.account(0), left + 1);
            }
            Check.thrown("undo", Check.NO_STATE, x::undo);
        }
    }

    /** An object is used for at most 512 calls: the last one is answered like all others. */
    private static void anObjectIsUsedFor512Calls() {
        NetScript x = new NetScript();
        for (int call = 1; call <= 511; call++) {
            Check.due("knot, call " + call, x.knot(2, 23, call % 2), 1 - call % 2);
        }
        Check.due("undo, call 512", x.undo(), 7);
        NetScript y = new NetScript();
        for (int calls = 8; calls <= 512; calls += 8) {
            Check.runs(y, calls % 16 == 8 ? "tide 4" : "tide 3", 1);
        }
    }
}

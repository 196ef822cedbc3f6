/** The examples of README.md, call by call. */
public final class ReadmeTest {
    public static void main(String[] args) {
        NetScript nets = new NetScript();
        netsNotesAndTwine(nets);
        texts(nets);
        refusals(nets);
        undoAndTheSnapshot(nets);
        Check.end();
    }

    private static void netsNotesAndTwine(NetScript nets) {
        Check.due("knot", nets.knot(0, 0, 1), 0);
        Check.due("knot", nets.knot(0, 1, 2), 0);
        Check.due("note", nets.note(0, 0), 0);
        Check.due("tear", nets.tear(0, 0, 1), 2);
        Check.due("least", nets.least(0), 1);
        Check.written("noteLine", nets, nets.noteLine(0), "ab!");
    }

    private static void texts(NetScript nets) {
        Check.runs(nets, "editor 9;mend 0 0-1/0", 2);
        Check.due("noteOf", nets.noteOf(0, 3), 1);
    }

    private static void refusals(NetScript nets) {
        Check.refused("tide", nets, 3, 5, () -> nets.tide(5));
    }

    private static void undoAndTheSnapshot(NetScript nets) {
        Check.due("save", nets.save(), 1);
        Check.due("undo", nets.undo(), 4);
        Check.due("restore", nets.restore(), 1);
        Check.due("changes that can be undone", nets.account(12), 0);
    }
}

/** Promises 5 to 9: editor, tide, sink, note and drop. */
public final class EditorsWaterNotesTest {
    private static final int MIN = Integer.MIN_VALUE;
    private static final int MAX = Integer.MAX_VALUE;

    public static void main(String[] args) {
        editorsCome();
        theTideIsTold();
        draughtsAreTold();
        chaptersAreNoted();
        notesAreRefusedInTheirOrder();
        aChangedChapterIsNotedAnew();
        notesAreDropped();
        Check.end();
    }

    private static void editorsCome() {
        NetScript x = new NetScript();
        Check.refused("editor, twine", x, 3, 100, () -> x.editor(100));
        Check.refused("editor, twine", x, 3, -1, () -> x.editor(-1));
        Check.due("editor", x.editor(0), 0);
        Check.due("editor", x.editor(99), 1);
        Check.due("editor", x.editor(5), 2);
        Check.due("editor", x.editor(5), 3);
        Check.due("editors", x.account(3), 4);
        Check.due("twine", x.account(4), 109);
        Check.refused("editor, four", x, 1, 4, () -> x.editor(5));
        Check.refused("editor, twine ahead of four", x, 3, MAX, () -> x.editor(MAX));
        Check.due("changes", x.account(12), 4);
    }

    private static void theTideIsTold() {
        NetScript x = new NetScript();
        x.knot(0, 0, 1);
        x.knot(0, 12, 1);
        x.knot(1, 18, 1);
        x.knot(2, 17, 1);
        x.knot(2, 23, 1);
        Check.refused("tide, so already", x, 4, 0, () -> x.tide(0));
        Check.refused("tide, 5", x, 3, 5, () -> x.tide(5));
        Check.refused("tide, -1", x, 3, -1, () -> x.tide(-1));
        Check.refused("tide, MIN", x, 3, MIN, () -> x.tide(MIN));
        Check.due("tide 1", x.tide(1), 3);
        Check.due("tide 2", x.tide(2), 1);
        Check.due("tide 3", x.tide(3), 1);
        Check.due("tide 4", x.tide(4), 0);
        Check.refused("tide, so already", x, 4, 4, () -> x.tide(4));
        Check.due("tide 0", x.tide(0), 5);
        x.sink(2, 1);
        Check.due("tide and draught", x.tide(1), 2);
        Check.due("tide", x.account(7), 1);
    }

    private static void draughtsAreTold() {
        NetScript x = new NetScript();
        Check.refused("sink, net", x, 2, 3, () -> x.sink(3, 5));
        Check.refused("sink, net", x, 2, -1, () -> x.sink(-1, 1));
        Check.refused("sink, draught", x, 3, 5, () -> x.sink(0, 5));
        Check.refused("sink, draught", x, 3, -1, () -> x.sink(0, -1));
        Check.refused("sink, so already", x, 4, 0, () -> x.sink(1, 0));
        Check.due("sink", x.sink(1, 3), 3);
        Check.refused("sink, so already", x, 4, 3, () -> x.sink(1, 3));
        Check.due("another boat", x.netOf(0, 3), 0);
        Check.due("sink", x.sink(1, 4), 4);
        x.tide(2);
        Check.due("with the tide", x.sink(1, 1), 3);
        Check.due("four at most", x.sink(1, 3), 4);
        Check.due("with the tide", x.sink(1, 0), 2);
        Check.due("changes", x.account(12), 6);
    }

    private static void chaptersAreNoted() {
        NetScript x = new NetScript();
        x.knot(1, 3, 2);
        x.knot(1, 4, 3);
        x.knot(1, 9, 1);
        x.knot(1, 20, 1);
        Check.due("note", x.note(1, 9), 0);
        Check.due("note", x.note(1, 20), 1);
        Check.due("lowest place", x.noteOf(0, 1), 3);
        Check.due("net", x.noteOf(0, 0), 1);
        Check.due("knots", x.noteOf(0, 2), 3);
        Check.written("noted", x, x.noteLine(0), "bca");
        x.knot(0, 20, 1);
        Check.due("the same in another net", x.note(0, 20), 2);
        Check.due("notes", x.account(5), 3);
        Check.due("changes", x.account(12), 8);
    }

    private static void notesAreRefusedInTheirOrder() {
        NetScript x = new NetScript();
        Check.refused("note, net", x, 2, 3, () -> x.note(3, 24));
        Check.refused("note, net", x, 2, -1, () -> x.note(-1, 0));
        Check.refused("note, place", x, 2, 24, () -> x.note(0, 24));
        Check.refused("note, place", x, 2, -1, () -> x.note(0, -1));
        Check.refused("note, no knot", x, 7, 23, () -> x.note(0, 23));
        for (int i = 0; i < 6; i++) {
            x.knot(0, 2 * i + i / 3 * 6, 1 + i % 3);
            Check.due("note", x.note(0, 2 * i + i / 3 * 6), i);
        }
        Check.refused("note, noted already", x, 8, 5, () -> x.note(0, 16));
        Check.refused("note, noted already", x, 8, 2, () -> x.note(0, 4));
        Check.refused("note, no knot ahead of six", x, 7, 1, () -> x.note(0, 1));
        x.knot(0, 23, 1);
        Check.refused("note, six", x, 1, 6, () -> x.note(0, 23));
        x.knot(0, 22, 1);
        Check.refused("note, a greater chapter", x, 1, 6, () -> x.note(0, 16));
        Check.due("notes", x.account(5), 6);
    }

    private static void aChangedChapterIsNotedAnew() {
        NetScript x = new NetScript();
        x.knot(0, 0, 1);
        x.knot(0, 1, 1);
        x.note(0, 0);
        x.knot(0, 1, 2);
        Check.due("another kind", x.note(0, 0), 1);
        x.tear(0, 0, 1);
        Check.due("a part", x.note(0, 0), 2);
        Check.due("the other part", x.note(0, 1), 3);
        x.knot(0, 1, 1);
        x.editor(1);
        x.mend(0, 0, 1, 0);
        Check.refused("as it was", x, 8, 0, () -> x.note(0, 1));
    }

    private static void notesAreDropped() {
        NetScript x = new NetScript();
        Check.refused("drop, none", x, 2, 0, () -> x.drop(0));
        Check.refused("drop, none", x, 2, -1, () -> x.drop(-1));
        for (int i = 0; i < 6; i++) {
            x.knot(i % 3, i * 3 + i % 2, 1 + i % 3);
            x.note(i % 3, i * 3 + i % 2);
        }
        Check.refused("drop, 6", x, 2, 6, () -> x.drop(6));
        Check.due("drop", x.drop(2), 5);
        int[] places = {0, 4, 10, 12, 16};
        int[] nets = {0, 1, 0, 1, 2};
        for (int i = 0; i < 5; i++) {
            Check.due("place of " + i, x.noteOf(i, 1), places[i]);
            Check.due("net of " + i, x.noteOf(i, 0), nets[i]);
        }
        Check.due("drop the last", x.drop(4), 4);
        Check.refused("drop, 4", x, 2, 4, () -> x.drop(4));
        Check.due("drop the first", x.drop(0), 3);
        Check.due("place", x.noteOf(0, 1), 4);
        Check.due("noted again", x.note(2, 16), 3);
    }
}

/** Promises 26 to 33: lines and accounts. */
public final class LinesAndAccountsTest {
    private static final int MIN = Integer.MIN_VALUE;
    private static final int MAX = Integer.MAX_VALUE;

    public static void main(String[] args) {
        linesOfNets();
        linesUnderWater();
        linesOfChapters();
        linesOfNotes();
        charactersOfTheLine();
        theLineStaysWhereNoneIsWritten();
        meansAndShares();
        accounts();
        accountsOfNotes();
        accountsOfWhatIsThere();
        balance();
        Check.end();
    }

    private static void linesOfNets() {
        NetScript x = new NetScript();
        Check.written("empty line", x, x.line(2, 3), ".-.-.-.-.-.");
        x.knot(0, 0, 1);
        x.knot(0, 1, 2);
        x.knot(0, 4, 3);
        x.knot(0, 5, 1);
        x.tear(0, 1, 2);
        Check.written("as in the document", x, x.line(0, 0), "a-b/.-.-c-a");
        x.tear(0, 1, 7);
        x.tear(0, 4, 5);
        x.tear(0, 0, 1);
        Check.written("line", x, x.line(0, 0), "a/b/.-.-c/a");
        Check.written("line below", x, x.line(0, 1), ".-.-.-.-.-.");
        x.knot(0, 18, 2);
        x.knot(0, 23, 3);
        x.tear(0, 18, 19);
        x.tear(0, 22, 23);
        Check.written("last line", x, x.line(0, 3), "b/.-.-.-./c");
        Check.written("another net", x, x.line(1, 0), ".-.-.-.-.-.");
        Check.thrown("line", Check.NO_INDEX, () -> x.line(0, 4));
        Check.thrown("line", Check.NO_INDEX, () -> x.line(0, -1));
        Check.thrown("line", Check.NO_INDEX, () -> x.line(3, 0));
        Check.thrown("line", Check.NO_INDEX, () -> x.line(-1, 0));
        Check.thrown("line", Check.NO_INDEX, () -> x.line(MAX, MIN));
    }

    private static void linesUnderWater() {
        NetScript x = new NetScript();
        x.knot(1, 12, 1);
        x.tide(1);
        x.sink(1, 1);
        Check.written("under water", x, x.line(1, 3), "~.-.-.-.-.-.");
        Check.written("under water", x, x.line(1, 2), "~a-.-.-.-.-.");
        Check.written("above", x, x.line(1, 1), ".-.-.-.-.-.");
        Check.written("above", x, x.line(0, 2), ".-.-.-.-.-.");
        Check.written("under water", x, x.line(0, 3), "~.-.-.-.-.-.");
        x.sink(1, 4);
        Check.written("all under water", x, x.line(1, 0), "~.-.-.-.-.-.");
    }

    private static void linesOfChapters() {
        NetScript x = new NetScript();
        x.knot(0, 1, 3);
        x.knot(0, 7, 1);
        x.knot(0, 6, 2);
        x.knot(0, 12, 2);
        x.knot(0, 5, 1);
        Check.written("chapter", x, x.chapterLine(0, 12), "cbab");
        Check.written("chapter of one", x, x.chapterLine(0, 5), "a");
        x.tide(4);
        Check.written("under water", x, x.chapterLine(0, 1), "cbab");
        x.tear(0, 6, 7);
        Check.written("part", x, x.chapterLine(0, 1), "ca");
        Check.thrown("chapterLine", Check.NO_INDEX, () -> x.chapterLine(3, 0));
        Check.thrown("chapterLine", Check.NO_INDEX, () -> x.chapterLine(-1, 0));
        Check.thrown("chapterLine", Check.NO_INDEX, () -> x.chapterLine(0, 24));
        Check.thrown("chapterLine", Check.NO_INDEX, () -> x.chapterLine(0, -1));
        Check.thrown("chapterLine", Check.NO_ELEMENT, () -> x.chapterLine(0, 0));
        Check.thrown("chapterLine", Check.NO_ELEMENT, () -> x.chapterLine(1, 1));
    }

    private static void linesOfNotes() {
        NetScript x = new NetScript();
        x.knot(2, 0, 3);
        x.knot(2, 6, 2);
        x.knot(2, 7, 1);
        x.note(2, 7);
        Check.written("as noted", x, x.noteLine(0), "cba");
        x.tear(2, 0, 6);
        Check.written("not as noted", x, x.noteLine(0), "cba!");
        x.knot(2, 6, 1);
        x.knot(2, 7, 0);
        Check.written("what it read as", x, x.noteLine(0), "cba!");
        Check.thrown("noteLine", Check.NO_INDEX, () -> x.noteLine(1));
        Check.thrown("noteLine", Check.NO_INDEX, () -> x.noteLine(-1));
        Check.thrown("noteLine", Check.NO_INDEX, () -> x.noteLine(MAX));
        NetScript y = new NetScript();
        for (int place = 0; place < 24; place++) {
            y.knot(0, place, 1 + place % 3);
        }
        y.note(0, 0);
        Check.written("longest", y, y.noteLine(0), "abcabcabcabcabcabcabcabc");
        y.knot(0, 3, 0);
        Check.written("longest", y, y.noteLine(0), "abcabcabcabcabcabcabcabc!");
    }

    private static void charactersOfTheLine() {
        NetScript x = new NetScript();
        Check.thrown("character", Check.NO_INDEX, () -> x.character(0));
        Check.due("line", x.line(0, 0), 11);
        Check.due("first", x.character(0), '.');
        Check.due("second", x.character(1), '-');
        Check.due("last", x.character(10), '.');
        Check.thrown("character", Check.NO_INDEX, () -> x.character(11));
        Check.thrown("character", Check.NO_INDEX, () -> x.character(-1));
        Check.thrown("character", Check.NO_INDEX, () -> x.character(MIN));
        Check.thrown("character", Check.NO_INDEX, () -> x.character(MAX));
        x.knot(0, 0, 2);
        Check.due("shorter line", x.chapterLine(0, 0), 1);
        Check.due("first", x.character(0), 'b');
        Check.thrown("character", Check.NO_INDEX, () -> x.character(1));
    }

    private static void theLineStaysWhereNoneIsWritten() {
        NetScript x = new NetScript();
        x.knot(0, 0, 2);
        int length = x.chapterLine(0, 0);
        Check.thrown("line", Check.NO_INDEX, () -> x.line(0, 4));
        Check.thrown("chapterLine", Check.NO_ELEMENT, () -> x.chapterLine(0, 1));
        Check.thrown("noteLine", Check.NO_INDEX, () -> x.noteLine(0));
        Check.written("behind exceptions", x, length, "b");
        x.save();
        x.knot(0, 0, 1);
        x.undo();
        x.restore();
        Check.written("behind undo and restore", x, length, "b");
    }

    private static void meansAndShares() {
        NetScript x = new NetScript();
        Check.thrown("meanKnots", Check.NO_NUMBER, x::meanKnots);
        Check.thrown("readShare", Check.NO_NUMBER, x::readShare);
        x.knot(0, 0, 1);
        x.knot(0, 1, 1);
        x.knot(1, 18, 2);
        x.knot(1, 19, 2);
        x.knot(1, 20, 2);
        x.knot(2, 23, 3);
        x.knot(2, 10, 3);
        Check.due("mean", x.meanKnots(), 7.0 / 4.0);
        Check.due("share", x.readShare(), 1.0f);
        x.tide(1);
        Check.due("share", x.readShare(), 3.0f / 7.0f);
        x.knot(2, 10, 0);
        Check.due("mean", x.meanKnots(), 2.0);
        Check.due("share", x.readShare(), 2.0f / 6.0f);
        x.knot(0, 1, 0);
        Check.due("mean", x.meanKnots(), 5.0 / 3.0);
        x.tide(4);
        Check.due("no share", x.readShare(), 0.0f);
    }

    private static void accounts() {
        NetScript x = new NetScript();
        Check.thrown("account", Check.NO_ARGUMENT, () -> x.account(13));
        Check.thrown("account", Check.NO_ARGUMENT, () -> x.account(-1));
        Check.thrown("account", Check.NO_ARGUMENT, () -> x.account(MIN));
        x.knot(0, 0, 1);
        x.knot(0, 1, 1);
        x.knot(2, 5, 1);
        x.note(0, 1);
        x.note(2, 5);
        x.editor(9);
        x.editor(80);
        x.tear(0, 0, 1);
        x.tear(1, 0, 1);
        x.tear(1, 6, 0);
        x.mend(1, 0, 6, 1);
        x.tide(3);
        x.feed('d');
        x.feed('d');
        int[] due = {3, 3, 2, 2, 87, 2, 1, 3, 3, 1, 2, 2, 8};
        for (int what = 0; what < due.length; what++) {
            Check.due("account " + what, x.account(what), due[what]);
        }
    }

    private static void accountsOfNotes() {
        NetScript x = new NetScript();
        x.knot(0, 0, 1);
        x.note(0, 0);
        Check.due("as noted", x.account(6), 1);
        x.knot(1, 0, 1);
        x.note(1, 0);
        Check.due("as noted", x.account(6), 2);
        x.knot(1, 0, 2);
        Check.due("as noted", x.account(6), 1);
        x.knot(0, 1, 2);
        Check.due("as noted", x.account(6), 0);
        Check.due("notes", x.account(5), 2);
    }

    private static void accountsOfWhatIsThere() {
        NetScript x = new NetScript();
        x.editor(10);
        x.tear(0, 0, 1);
        x.mend(0, 0, 1, 0);
        x.tear(0, 0, 1);
        x.mend(0, 0, 1, 0);
        Check.due("torn", x.account(2), 0);
        Check.due("torn so far", x.account(8), 2);
        Check.due("mended so far", x.account(9), 2);
        Check.due("twine used", x.account(10), 2);
        Check.due("twine", x.account(4), 8);
        x.undo();
        Check.due("torn", x.account(2), 1);
        Check.due("mended so far", x.account(9), 1);
        Check.due("twine used", x.account(10), 1);
        Check.due("twine", x.account(4), 9);
        x.undo();
        Check.due("torn so far", x.account(8), 1);
        Check.due("changes", x.account(12), 3);
    }

    private static void balance() {
        NetScript x = new NetScript();
        Check.due("balanced", x.isBalanced(), true);
        x.knot(0, 0, 1);
        x.knot(0, 6, 1);
        x.knot(0, 7, 1);
        x.note(0, 0);
        x.editor(9);
        x.tear(0, 0, 6);
        Check.due("balanced", x.isBalanced(), true);
        x.tear(0, 6, 7);
        x.mend(0, 0, 6, 0);
        Check.due("balanced", x.isBalanced(), true);
        x.knot(0, 1, 1);
        Check.due("balanced where no twine would do", x.isBalanced(), true);
        x.undo();
        x.undo();
        Check.due("balanced behind undo", x.isBalanced(), true);
        x.save();
        x.restore();
        Check.due("balanced behind restore", x.isBalanced(), true);
    }
}

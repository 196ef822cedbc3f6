import java.util.function.Consumer;

/** Promises 26 to 33 at their edges: lines, means, accounts and balance. One test a sentence. */
public final class BoundaryLinesTest {
    private static final int MIN = Integer.MIN_VALUE;
    private static final int MAX = Integer.MAX_VALUE;

    public static void main(String[] args) {
        theLineIsEmptyAtFirst();
        aLineOfANetHasElevenCharacters();
        eachStringOfALineIsWritten();
        aLineUnderWaterHasASignAheadOfAll();
        lineThrows();
        aChapterLineIsAsLongAsItsKnots();
        chapterLineThrows();
        aNoteLineTellsWhatWasNoted();
        aNoteLineEndsInASignIfItDoesNotReadSo();
        noteLineThrows();
        eachLineIsInPlaceOfTheOneBefore();
        characterThrows();
        theLineDoesNotGoBack();
        theMeanOfKnots();
        theShareThatCanBeRead();
        thereAreNoneToDivideBy();
        theLeastAccounts();
        theMostAccounts();
        whatGoesBackInTheAccounts();
        accountThrows();
        allIsBalanced();
        Check.end();
    }

    private static void rich(String what, Class<? extends RuntimeException> want, Consumer<NetScript> call) {
        Pasts.RICH.thrown(what, want, call);
    }

    /** Which is empty at first. */
    private static void theLineIsEmptyAtFirst() {
        for (int index : new int[] {-1, 0, 1, MIN, MAX}) {
            Pasts.NEW.thrown("character " + index, Check.NO_INDEX, x -> x.character(index));
        }
    }

    /** For each place a, b or c, and "." for none: with no knot, and with six. */
    private static void aLineOfANetHasElevenCharacters() {
        NetScript x = new NetScript();
        for (int number = 0; number < 4; number++) {
            Check.due("length", x.line(2, number), 11);
            Check.written("without knots", x, x.line(2, number), ".-.-.-.-.-.");
        }
        for (int place = 0; place < 24; place++) {
            x.knot(2, place, 1 + place % 3);
        }
        Pasts.tearAll(x, 2);
        for (int number = 0; number < 4; number++) {
            Check.due("length", x.line(2, number), 11);
            Check.written("with six knots", x, x.line(2, number), "a/b/c/a/b/c");
        }
        Check.written("another net", x, x.line(1, 3), ".-.-.-.-.-.");
    }

    /** With "-" between two if their string is whole, and "/" if it is torn: the first and the last string of a line. */
    private static void eachStringOfALineIsWritten() {
        String[] due = {"./.-.-.-.-.", ".-./.-.-.-.", ".-.-./.-.-.", ".-.-.-./.-.", ".-.-.-.-./."};
        for (int number = 0; number < 4; number++) {
            for (int column = 0; column < 5; column++) {
                NetScript x = new NetScript();
                int place = 6 * number + column;
                x.tear(0, place, place + 1);
                for (int line = 0; line < 4; line++) {
                    Check.written("line " + line, x, x.line(0, line), line == number ? due[column] : ".-.-.-.-.-.");
                }
            }
        }
        NetScript y = new NetScript();
        Pasts.tie(y, 0, 2, 5, 11);
        y.tear(0, 5, 11);
        Check.written("a string between two lines", y, y.line(0, 0), ".-.-.-.-.-b");
        Check.written("a string between two lines", y, y.line(0, 1), ".-.-.-.-.-b");
    }

    /** A line under water has "~" ahead of all: none, each, and all four. */
    private static void aLineUnderWaterHasASignAheadOfAll() {
        for (int water = 0; water <= 8; water++) {
            NetScript x = new NetScript();
            if (water > 0) {
                x.tide(Math.min(water, 4));
            }
            if (water > 4) {
                x.sink(0, water - 4);
            }
            for (int number = 0; number < 4; number++) {
                x.knot(0, 6 * number, 3);
                boolean isWet = number >= 4 - water;
                Check.due("length", x.line(0, number), isWet ? 12 : 11);
                Check.written("line", x, x.line(0, number), isWet ? "~c-.-.-.-.-." : "c-.-.-.-.-.");
            }
        }
    }

    /** Throws IndexOutOfBoundsException if there is no such net or line, and the line before stays. */
    private static void lineThrows() {
        for (int none : new int[] {-1, 4, 5, MIN, MAX}) {
            rich("line " + none, Check.NO_INDEX, x -> x.line(0, none));
            rich("line " + none, Check.NO_INDEX, x -> x.line(2, none));
            rich("net and line", Check.NO_INDEX, x -> x.line(none, none));
        }
        rich("net 3", Check.NO_INDEX, x -> x.line(3, 3));
        rich("net -1", Check.NO_INDEX, x -> x.line(-1, 0));
    }

    /** Returns the length of the line: from one knot to 24. */
    private static void aChapterLineIsAsLongAsItsKnots() {
        NetScript x = new NetScript();
        StringBuilder due = new StringBuilder();
        for (int place = 0; place < 24; place++) {
            x.knot(1, place, 1 + place % 3);
            due.append("abc".charAt(place % 3));
            if (place < 6 || place % 6 == 5) {
                Check.due("length", x.chapterLine(1, place), place + 1);
                Check.written("chapter", x, x.chapterLine(1, 0), due.toString());
            }
        }
    }

    /** Throws if there is no such net or place, then if there is no knot. */
    private static void chapterLineThrows() {
        for (int none : new int[] {-1, 24, 32, MIN, MAX}) {
            rich("place " + none, Check.NO_INDEX, x -> x.chapterLine(0, none));
            rich("net " + none, Check.NO_INDEX, x -> x.chapterLine(none, 3));
        }
        rich("net 3", Check.NO_INDEX, x -> x.chapterLine(3, 0));
        for (int place : new int[] {0, 23}) {
            rich("no knot", Check.NO_ELEMENT, x -> x.chapterLine(1, place));
        }
    }

    /** Writes what a noted chapter read as, whatever is there now. */
    private static void aNoteLineTellsWhatWasNoted() {
        NetScript x = new NetScript();
        x.knot(0, 23, 3);
        x.note(0, 23);
        Check.written("one knot", x, x.noteLine(0), "c");
        x.knot(0, 23, 0);
        Check.written("untied", x, x.noteLine(0), "c!");
        for (int place = 0; place < 24; place++) {
            x.knot(0, place, 1 + place / 2 % 3);
        }
        x.note(0, 0);
        Check.due("length of all", x.noteLine(1), 24);
        Check.written("all", x, x.noteLine(1), "aabbccaabbccaabbccaabbcc");
        Check.written("one knot among more", x, x.noteLine(0), "c!");
        x.knot(0, 23, 1);
        Check.due("length of all and the sign", x.noteLine(1), 25);
        Check.written("all and the sign", x, x.noteLine(1), "aabbccaabbccaabbccaabbcc!");
    }

    /** And "!" behind it if its chapter does not read as noted: also if it reads the same at other places. */
    private static void aNoteLineEndsInASignIfItDoesNotReadSo() {
        NetScript x = new NetScript();
        Pasts.tie(x, 1, 2, 7, 8);
        x.note(1, 8);
        Check.written("as noted", x, x.noteLine(0), "bb");
        x.tear(1, 7, 8);
        Check.written("torn", x, x.noteLine(0), "bb!");
        x.editor(1);
        x.mend(1, 7, 8, 0);
        Check.written("mended", x, x.noteLine(0), "bb");
        x.knot(1, 8, 0);
        x.knot(1, 13, 2);
        Check.written("the same letters at another place", x, x.noteLine(0), "bb!");
        Pasts.tie(x, 0, 2, 7, 8);
        Check.written("in another net", x, x.noteLine(0), "bb!");
        x.knot(1, 8, 2);
        x.knot(1, 13, 0);
        Check.written("as noted again", x, x.noteLine(0), "bb");
    }

    /** Throws IndexOutOfBoundsException if there is no such note, and the line before stays. */
    private static void noteLineThrows() {
        Pasts.NEW.thrown("note 0 of none", Check.NO_INDEX, x -> x.noteLine(0));
        for (int note : new int[] {-1, 3, 6, MIN, MAX}) {
            rich("note " + note, Check.NO_INDEX, x -> x.noteLine(note));
        }
        Pasts.FULL.thrown("note 6 of six", Check.NO_INDEX, x -> x.noteLine(6));
        Check.due("note 5 of six", Pasts.FULL.make().noteLine(5), 1);
    }

    /** In place of the line before: a shorter one behind a longer one, and the other way round. */
    private static void eachLineIsInPlaceOfTheOneBefore() {
        NetScript x = new NetScript();
        x.knot(0, 0, 1);
        x.note(0, 0);
        x.knot(0, 1, 2);
        x.tide(4);
        Check.written("12 characters", x, x.line(0, 0), "~a-b-.-.-.-.");
        Check.written("2 characters", x, x.noteLine(0), "a!");
        Check.written("12 characters", x, x.line(0, 3), "~.-.-.-.-.-.");
        Check.written("2 characters", x, x.chapterLine(0, 1), "ab");
        x.knot(0, 1, 0);
        Check.written("1 character", x, x.noteLine(0), "a");
        x.tide(0);
        Check.written("11 characters", x, x.line(0, 0), "a-.-.-.-.-.");
    }

    /** Throws IndexOutOfBoundsException if there is no such index: behind a line of 1, 11, 12 and 25 characters. */
    private static void characterThrows() {
        Past all = new Past(x -> {
            Pasts.tieAll(x, 0, 1);
            x.note(0, 0);
            x.knot(0, 0, 2);
            x.knot(1, 23, 3);
            x.sink(1, 1);
        });
        Past[] written = {
            all.then(x -> x.chapterLine(1, 23)), all.then(x -> x.line(1, 2)), all.then(x -> x.line(1, 3)),
            all.then(x -> x.chapterLine(0, 0)), all.then(x -> x.noteLine(0))
        };
        int[] lengths = {1, 11, 12, 24, 25};
        char[] last = {'c', '.', 'c', 'a', '!'};
        for (int i = 0; i < written.length; i++) {
            int length = lengths[i];
            for (int index : new int[] {-1, length, length + 1, 25, 32, MIN, MAX}) {
                written[i].thrown("character " + index, Check.NO_INDEX, x -> x.character(index));
            }
            Check.due("the last character", written[i].make().character(length - 1), last[i]);
        }
    }

    /** The line does not go back, nor does it follow what changes. */
    private static void theLineDoesNotGoBack() {
        NetScript x = new NetScript();
        x.knot(0, 0, 1);
        x.save();
        x.knot(0, 0, 2);
        int length = x.line(0, 0);
        x.undo();
        Check.written("behind undo", x, length, "b-.-.-.-.-.");
        x.restore();
        Check.written("behind restore", x, length, "b-.-.-.-.-.");
        x.knot(0, 0, 3);
        x.tide(4);
        x.tear(0, 0, 1);
        Check.runs(x, "knot 0 5=1", 1);
        Check.fault(x, "knot", 4);
        Check.written("behind changes", x, length, "b-.-.-.-.-.");
    }

    /** Those of all nets divided by the chapters of all nets, both converted to double: from 1 to 24. */
    private static void theMeanOfKnots() {
        NetScript x = new NetScript();
        x.knot(2, 23, 1);
        Check.due("one knot", x.meanKnots(), 1.0);
        x.knot(0, 23, 1);
        Check.due("a chapter in each of two nets", x.meanKnots(), 1.0);
        x.knot(0, 17, 1);
        Check.due("three by two", x.meanKnots(), 1.5);
        x.knot(0, 0, 1);
        Check.due("four by three", x.meanKnots(), 4.0 / 3.0);
        NetScript y = new NetScript();
        for (int net = 0; net < 3; net++) {
            Pasts.tieAll(y, net, 1);
        }
        Check.due("all", y.meanKnots(), 24.0);
        y.tide(4);
        Check.due("all under water", y.meanKnots(), 24.0);
        Pasts.tearAll(y, 0);
        Check.due("72 by 26", y.meanKnots(), 72.0 / 26.0);
        Pasts.tearAll(y, 1);
        Pasts.tearAll(y, 2);
        Check.due("the most chapters", y.meanKnots(), 1.0);
    }

    /** The share of the knots of all nets that can be read, both numbers converted to float: from 0 to 1. */
    private static void theShareThatCanBeRead() {
        NetScript x = new NetScript();
        Pasts.tie(x, 0, 1, 0, 18);
        Pasts.tie(x, 2, 1, 23);
        Check.due("all", x.readShare(), 1.0f);
        x.sink(2, 1);
        Check.due("two of three", x.readShare(), 2.0f / 3.0f);
        x.tide(1);
        Check.due("one of three", x.readShare(), 1.0f / 3.0f);
        x.tide(4);
        Check.due("none", x.readShare(), 0.0f);
        NetScript y = new NetScript();
        for (int net = 0; net < 3; net++) {
            Pasts.tieAll(y, net, 1);
        }
        y.tide(1);
        Check.due("54 of 72", y.readShare(), 0.75f);
        y.knot(0, 0, 0);
        Check.due("53 of 71", y.readShare(), 53.0f / 71.0f);
    }

    /** Throws ArithmeticException if there are none: at first, and when the last one is untied. */
    private static void thereAreNoneToDivideBy() {
        Past untied = new Past(x -> {
            x.knot(2, 23, 1);
            x.note(2, 23);
            x.tear(0, 0, 1);
            x.knot(2, 23, 0);
        });
        for (Past past : new Past[] {Pasts.NEW, untied, untied.then(NetScript::save).then(NetScript::restore)}) {
            past.thrown("meanKnots", Check.NO_NUMBER, NetScript::meanKnots);
            past.thrown("readShare", Check.NO_NUMBER, NetScript::readShare);
        }
        NetScript x = untied.make();
        x.undo();
        Check.due("mean behind undo", x.meanKnots(), 1.0);
        Check.due("share behind undo", x.readShare(), 1.0f);
    }

    private static void accounts(String when, NetScript x, int... due) {
        for (int what = 0; what < due.length; what++) {
            Check.due("account " + what + " " + when, x.account(what), due[what]);
        }
    }

    /** Each account without anything, and with one of each. */
    private static void theLeastAccounts() {
        accounts("at first", new NetScript(), 0, 0, 0, 0, 0, 0, 0, 0, 0, 0, 0, 0, 0);
        NetScript x = new NetScript();
        x.knot(2, 23, 1);
        accounts("behind knot", x, 1, 1, 0, 0, 0, 0, 0, 0, 0, 0, 0, 0, 1);
        x.tear(2, 22, 23);
        accounts("behind tear", x, 1, 1, 1, 0, 0, 0, 0, 0, 1, 0, 0, 0, 2);
        x.editor(1);
        accounts("behind editor", x, 1, 1, 1, 1, 1, 0, 0, 0, 1, 0, 0, 0, 3);
        x.mend(2, 22, 23, 0);
        accounts("behind mend", x, 1, 1, 0, 1, 0, 0, 0, 0, 1, 1, 1, 0, 4);
        x.note(2, 23);
        accounts("behind note", x, 1, 1, 0, 1, 0, 1, 1, 0, 1, 1, 1, 0, 5);
        x.tide(1);
        accounts("behind tide", x, 1, 1, 0, 1, 0, 1, 1, 1, 1, 1, 1, 0, 6);
        x.feed('t');
        accounts("behind feed", x, 1, 1, 0, 1, 0, 1, 1, 1, 1, 1, 1, 1, 6);
        x.knot(2, 17, 1);
        accounts("behind a knot more", x, 2, 1, 0, 1, 0, 1, 0, 1, 1, 1, 1, 1, 7);
        x.drop(0);
        x.sink(0, 1);
        accounts("behind drop and sink", x, 2, 1, 0, 1, 0, 0, 0, 1, 1, 1, 1, 1, 8);
    }

    /** Each account with as many as there can be. */
    private static void theMostAccounts() {
        NetScript x = new NetScript();
        for (int net = 0; net < 3; net++) {
            Pasts.tieAll(x, net, 1);
        }
        accounts("with all knots", x, 72, 3, 0, 0, 0, 0, 0, 0, 0, 0, 0, 0, 8);
        for (int net = 0; net < 3; net++) {
            Pasts.tearAll(x, net);
        }
        for (int i = 0; i < 4; i++) {
            x.editor(99);
        }
        for (int i = 0; i < 6; i++) {
            x.note(i / 2, 4 * i);
        }
        x.tide(4);
        for (int i = 0; i < 60; i++) {
            x.feed('x');
        }
        accounts("with all", x, 72, 72, 114, 4, 396, 6, 6, 4, 114, 0, 0, 60, 8);
        for (int place = 0; place < 18; place++) {
            x.mend(0, place, place + 6, 3);
        }
        accounts("behind mending", x, 72, 54, 96, 4, 360, 6, 4, 4, 114, 18, 36, 60, 8);
    }

    /** What was torn, mended and used so far goes back as well; the tape does not. */
    private static void whatGoesBackInTheAccounts() {
        NetScript x = new NetScript();
        x.editor(9);
        x.tear(0, 0, 6);
        x.save();
        x.mend(0, 0, 6, 0);
        x.tear(0, 0, 6);
        x.feed('x');
        accounts("ahead of undo", x, 0, 0, 1, 1, 7, 0, 0, 0, 2, 1, 2, 1, 4);
        x.undo();
        accounts("behind undo", x, 0, 0, 0, 1, 7, 0, 0, 0, 1, 1, 2, 1, 3);
        x.undo();
        accounts("behind undo", x, 0, 0, 1, 1, 9, 0, 0, 0, 1, 0, 0, 1, 2);
        x.mend(0, 0, 6, 0);
        x.restore();
        accounts("behind restore", x, 0, 0, 1, 1, 9, 0, 0, 0, 1, 0, 0, 1, 0);
    }

    /** Throws IllegalArgumentException if what is out of range. */
    private static void accountThrows() {
        for (int what : new int[] {-1, 13, 14, MIN, MAX}) {
            rich("account " + what, Check.NO_ARGUMENT, x -> x.account(what));
        }
        Check.due("the first account", Pasts.RICH.make().account(0), 15);
        Check.due("the last account", Pasts.RICH.make().account(12), 8);
    }

    /** Returns whether this is so: without anything, with all, and behind all that goes back. */
    private static void allIsBalanced() {
        Check.due("at first", new NetScript().isBalanced(), true);
        Past[] pasts = {Pasts.RICH, Pasts.FULL, Pasts.RICH.then(NetScript::run), Pasts.FULL.then(NetScript::run)};
        for (Past past : pasts) {
            Check.due("balanced", past.make().isBalanced(), true);
            Check.due("behind restore", past.then(NetScript::restore).make().isBalanced(), true);
            Past undone = past;
            for (int i = 0; i < 8; i++) {
                undone = undone.then(NetScript::undo);
                Check.due("behind undo", undone.make().isBalanced(), true);
            }
        }
        Past none = Pasts.RICH.then(x -> x.knot(0, 1, 3));
        Check.thrown("none would do", Check.NO_ELEMENT, () -> none.make().least(0));
        Check.due("with notes for which none would do", none.make().isBalanced(), true);
        NetScript x = new NetScript();
        for (int net = 0; net < 3; net++) {
            Pasts.tieAll(x, net, 1);
            x.note(net, 23);
            Pasts.tearAll(x, net);
        }
        Check.due("with all torn", x.isBalanced(), true);
        Check.due("chapters", x.chaptersAgain(2), 24);
    }
}

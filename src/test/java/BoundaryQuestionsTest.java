import java.util.function.Consumer;

/** Promises 1 to 21 at their edges: what the calls return, and what they throw. One test a sentence. */
public final class BoundaryQuestionsTest {
    private static final int MIN = Integer.MIN_VALUE;
    private static final int MAX = Integer.MAX_VALUE;

    public static void main(String[] args) {
        aNewObjectHasNothing();
        knotReturnsTheKindBefore();
        tearReturnsHowManyChaptersThereAre();
        mendReturnsHowMuchTwineThereIs();
        editorReturnsItsNumber();
        tideReturnsTheKnotsOfAllNets();
        sinkReturnsTheLinesOfTheNet();
        noteReturnsItsNumber();
        dropReturnsHowManyThereAre();
        kindOfThrows();
        isTornThrows();
        netOfReturnsEachNumber();
        netOfThrows();
        bothWaysCountTheChapters();
        chapterOfReturnsEachNumber();
        chapterOfThrows();
        noteOfReturnsEachNumber();
        noteOfThrows();
        bothWaysTellTheLeastTwine();
        leastThrows();
        theBestMendingJoinsTheMostKnots();
        ofSeveralTheCheapestIsTheBest();
        thenTheLowestLesserPlace();
        thenTheLowestGreaterPlace();
        bestMendThrows();
        theMostKnotsComeFirst();
        ofSeveralTheLowestComesFirst();
        rankedThrows();
        editorOfReturnsEachNumber();
        editorOfThrows();
        Check.end();
    }

    private static void rich(String what, Class<? extends RuntimeException> want, Consumer<NetScript> call) {
        Pasts.RICH.thrown(what, want, call);
    }

    /** Creates three nets without knots, all of whose strings are whole. */
    private static void aNewObjectHasNothing() {
        NetScript x = new NetScript();
        for (int what = 0; what <= 12; what++) {
            Check.due("account " + what, x.account(what), 0);
        }
        for (int net = 0; net < 3; net++) {
            for (int what = 0; what <= 6; what++) {
                Check.due("netOf " + what, x.netOf(net, what), 0);
            }
            Check.due("chapters", x.chapters(net), 0);
            Check.due("chaptersAgain", x.chaptersAgain(net), 0);
        }
        Check.due("balanced", x.isBalanced(), true);
        NetScript another = Pasts.RICH.make();
        Check.due("knots of another object", another.account(0) > 0, true);
        Pasts.NEW.alike("two new objects", new Past(y -> { }));
    }

    /** Returns the kind before: from each kind to each other one. */
    private static void knotReturnsTheKindBefore() {
        for (int before = 0; before <= 3; before++) {
            for (int kind = 0; kind <= 3; kind++) {
                NetScript x = new NetScript();
                int to = kind;
                if (before != 0) {
                    x.knot(2, 23, before);
                }
                if (before == kind) {
                    Check.refused("knot", x, 4, kind, () -> x.knot(2, 23, to));
                } else {
                    Check.due("knot", x.knot(2, 23, kind), before);
                }
                Check.due("kind", x.kindOf(2, 23), kind);
            }
        }
    }

    /** Returns how many chapters the net has then: none, one more, as many, 24. */
    private static void tearReturnsHowManyChaptersThereAre() {
        NetScript x = new NetScript();
        Check.due("without knots", x.tear(0, 0, 1), 0);
        Pasts.tieAll(x, 1, 1);
        Check.due("in another net than the knots", x.tear(0, 1, 2), 0);
        Check.due("with a way round", x.tear(1, 0, 1), 1);
        Check.due("without one", x.tear(1, 6, 0), 2);
        NetScript y = new NetScript();
        Pasts.tieAll(y, 2, 3);
        for (int place = 0; place < 18; place++) {
            y.tear(2, place, place + 6);
        }
        Check.due("chapters", y.chapters(2), 4);
        int due = 4;
        for (int place = 0; place < 23; place++) {
            if (place % 6 != 5) {
                due++;
                Check.due("tear " + place, y.tear(2, place + 1, place), due);
            }
        }
        Check.due("the most", due, 24);
    }

    /** Returns how much twine the editor has then. */
    private static void mendReturnsHowMuchTwineThereIs() {
        NetScript x = new NetScript();
        x.editor(3);
        x.editor(99);
        x.editor(2);
        x.editor(1);
        x.tear(0, 0, 1);
        x.tear(0, 0, 6);
        x.tear(1, 0, 1);
        x.tear(2, 17, 23);
        Check.due("mend", x.mend(0, 0, 1, 1), 98);
        Check.due("mend", x.mend(0, 6, 0, 0), 1);
        Check.due("mend by the last", x.mend(1, 1, 0, 3), 0);
        Check.due("mend to the last", x.mend(2, 17, 23, 2), 0);
        Check.due("twine of all", x.account(4), 99);
        Check.due("twine used", x.account(10), 6);
    }

    /** Returns the number of the editor, from 0 to 3. */
    private static void editorReturnsItsNumber() {
        NetScript x = new NetScript();
        for (int i = 0; i < 4; i++) {
            Check.due("editor", x.editor(i == 1 ? 0 : 99), i);
        }
        x.undo();
        Check.due("editor behind undo", x.editor(0), 3);
        Check.refused("editor", x, 1, 4, () -> x.editor(0));
    }

    /** Returns how many knots of all nets can be read then: none and all. */
    private static void tideReturnsTheKnotsOfAllNets() {
        NetScript x = new NetScript();
        Check.due("without knots", x.tide(2), 0);
        for (int net = 0; net < 3; net++) {
            Pasts.tieAll(x, net, 1);
        }
        for (int level : new int[] {0, 1, 2, 3, 4}) {
            Check.due("tide " + level, x.tide(level), 72 - 18 * level);
        }
        x.sink(1, 4);
        Check.due("one net under water", x.tide(0), 48);
        x.sink(0, 1);
        Check.due("one more line at each", x.tide(1), 30);
        Check.due("two more lines at each", x.tide(3), 6);
    }

    /** Returns how many lines of the net are under water then. */
    private static void sinkReturnsTheLinesOfTheNet() {
        NetScript x = new NetScript();
        Check.due("sink", x.sink(2, 4), 4);
        Check.due("sink", x.sink(0, 1), 1);
        x.tide(3);
        Check.due("just four", x.sink(2, 1), 4);
        Check.due("four at most", x.sink(2, 2), 4);
        Check.due("the tide alone", x.sink(2, 0), 3);
        x.tide(4);
        Check.due("four at most", x.sink(1, 4), 4);
        Check.due("the tide alone", x.sink(1, 0), 4);
    }

    /** Returns the number of the note, from 0 to 5. */
    private static void noteReturnsItsNumber() {
        NetScript x = new NetScript();
        for (int i = 0; i < 6; i++) {
            x.knot(2, 23, 1 + i % 3);
            if (i % 3 == 0) {
                x.knot(2, 22, 1 + i / 3);
            }
            Check.due("note", x.note(2, 23), i);
        }
        x.knot(2, 22, 3);
        Check.refused("note", x, 1, 6, () -> x.note(2, 22));
        x.drop(0);
        Check.due("note behind drop", x.note(2, 22), 5);
    }

    /** Returns how many there are then: from six to none. */
    private static void dropReturnsHowManyThereAre() {
        NetScript x = Pasts.FULL.make();
        for (int left = 5; left >= 0; left--) {
            int behind = left;
            Check.due("drop", x.drop(left / 2), left);
            Check.refused("drop", x, 2, behind, () -> x.drop(behind));
        }
        Check.due("notes", x.account(5), 0);
    }

    /** Throws IndexOutOfBoundsException if there is no such net or place. */
    private static void kindOfThrows() {
        rich("net", Check.NO_INDEX, x -> x.kindOf(3, 0));
        rich("net", Check.NO_INDEX, x -> x.kindOf(-1, 23));
        rich("place", Check.NO_INDEX, x -> x.kindOf(2, 24));
        rich("place", Check.NO_INDEX, x -> x.kindOf(0, -1));
        rich("both", Check.NO_INDEX, x -> x.kindOf(MIN, MAX));
        rich("a place of the next net", Check.NO_INDEX, x -> x.kindOf(0, 24 + 5));
    }

    /** Throws IndexOutOfBoundsException, then NoSuchElementException if the places are not beside each other. */
    private static void isTornThrows() {
        rich("net ahead of beside", Check.NO_INDEX, x -> x.isTorn(3, 0, 2));
        rich("one", Check.NO_INDEX, x -> x.isTorn(0, 24, 18));
        rich("other", Check.NO_INDEX, x -> x.isTorn(0, 18, 24));
        rich("other ahead of beside", Check.NO_INDEX, x -> x.isTorn(0, 0, -1));
        rich("both", Check.NO_INDEX, x -> x.isTorn(0, MIN, MIN + 1));
        rich("wrapped around", Check.NO_INDEX, x -> x.isTorn(0, MAX, MIN));
        rich("beside", Check.NO_ELEMENT, x -> x.isTorn(0, 5, 6));
        rich("beside", Check.NO_ELEMENT, x -> x.isTorn(2, 23, 23));
        rich("beside", Check.NO_ELEMENT, x -> x.isTorn(2, 0, 23));
        Check.due("the last string", Pasts.RICH.make().isTorn(2, 23, 22), false);
        Check.due("the last string down", Pasts.RICH.make().isTorn(2, 17, 23), false);
    }

    /** Each number of a net with nothing, with something, and with all there can be. */
    private static void netOfReturnsEachNumber() {
        NetScript x = new NetScript();
        Pasts.tieAll(x, 2, 3);
        Pasts.tearAll(x, 2);
        x.sink(2, 4);
        x.tide(4);
        int[] most = {24, 0, 38, 4, 4, 1, 56};
        for (int what = 0; what <= 6; what++) {
            Check.due("netOf " + what, x.netOf(2, what), most[what]);
            Check.due("netOf " + what + " of another", x.netOf(1, what), what == 4 ? 4 : 0);
        }
        NetScript y = Pasts.RICH.make();
        int[][] some = {{9, 5, 2, 1, 2, 4, 3}, {3, 3, 1, 0, 1, 1, 2}, {3, 0, 0, 2, 3, 1, 0}};
        for (int net = 0; net < 3; net++) {
            for (int what = 0; what <= 6; what++) {
                Check.due("netOf " + net + " " + what, y.netOf(net, what), some[net][what]);
            }
        }
        y.knot(2, 11, 2);
        Check.due("the greatest chapter", y.netOf(2, 5), 2);
        Pasts.tie(y, 2, 2, 5, 10);
        Check.due("the greatest chapter", y.netOf(2, 5), 4);
    }

    /** Throws IndexOutOfBoundsException if there is no such net, then IllegalArgumentException if what is out of range. */
    private static void netOfThrows() {
        rich("what", Check.NO_ARGUMENT, x -> x.netOf(0, 7));
        rich("what", Check.NO_ARGUMENT, x -> x.netOf(2, -1));
        rich("what", Check.NO_ARGUMENT, x -> x.netOf(0, MIN));
        rich("net ahead of what", Check.NO_INDEX, x -> x.netOf(3, 7));
        rich("net ahead of what", Check.NO_INDEX, x -> x.netOf(-1, -1));
    }

    /** From knot to knot, and string by string, by which two chapters become one: round a ring none does so twice. */
    private static void bothWaysCountTheChapters() {
        NetScript x = new NetScript();
        Check.chapters(x, 0, 0);
        x.tear(0, 0, 1);
        Check.chapters(x, 0, 0);
        x.knot(0, 0, 1);
        Check.chapters(x, 0, 1);
        Pasts.tie(x, 0, 2, 2, 8, 14, 13, 12, 6);
        Check.chapters(x, 0, 1);
        x.knot(0, 1, 3);
        Check.chapters(x, 0, 1);
        x.tear(0, 6, 12);
        Check.chapters(x, 0, 2);
        Pasts.tie(x, 0, 1, 23, 16);
        Check.chapters(x, 0, 4);
        NetScript y = new NetScript();
        for (int place = 0; place < 24; place++) {
            if ((place / 6 + place) % 2 == 0) {
                y.knot(1, place, 2);
            }
        }
        Check.chapters(y, 1, 12);
        Check.chapters(y, 0, 0);
        for (int net : new int[] {-1, 3, MIN, MAX}) {
            rich("chapters", Check.NO_INDEX, z -> z.chapters(net));
            rich("chaptersAgain", Check.NO_INDEX, z -> z.chaptersAgain(net));
        }
    }

    /** Each number of a chapter: of one knot, and of all, above and under water. */
    private static void chapterOfReturnsEachNumber() {
        NetScript x = new NetScript();
        x.knot(0, 23, 1);
        int[] one = {23, 1, 1, 0};
        for (int what = 0; what <= 3; what++) {
            Check.due("chapterOf " + what, x.chapterOf(0, 23, what), one[what]);
        }
        x.tide(1);
        Check.due("under water", x.chapterOf(0, 23, 2), 0);
        Check.due("its knots", x.chapterOf(0, 23, 1), 1);
        NetScript y = new NetScript();
        Pasts.tieAll(y, 0, 1);
        int[] all = {0, 24, 24, 38};
        for (int what = 0; what <= 3; what++) {
            Check.due("chapterOf " + what, y.chapterOf(0, 23, what), all[what]);
        }
        y.sink(0, 3);
        Check.due("three lines under water", y.chapterOf(0, 23, 2), 6);
        y.tear(0, 0, 1);
        y.tear(0, 17, 23);
        Check.due("torn strings between its knots", y.chapterOf(0, 23, 3), 36);
        y.knot(0, 8, 0);
        Check.due("strings to a knot untied", y.chapterOf(0, 0, 3), 32);
        ofItsOwnNet();
        NetScript z = new NetScript();
        Pasts.tie(z, 0, 1, 0, 1, 3, 4, 5);
        Check.due("another chapter's strings", z.chapterOf(0, 1, 3), 1);
        Check.due("another chapter's strings", z.chapterOf(0, 3, 3), 2);
    }

    /** Each net has draughts and torn strings of its own. */
    private static void ofItsOwnNet() {
        NetScript x = new NetScript();
        for (int net = 0; net < 3; net++) {
            Pasts.tie(x, net, 1, 0, 1, 2, 8, 14, 20);
        }
        x.tear(1, 9, 8);
        x.knot(1, 7, 2);
        x.tear(1, 1, 2);
        x.sink(1, 1);
        x.sink(2, 3);
        int[][] due = {{0, 6, 6, 5}, {0, 7, 6, 6}, {0, 6, 3, 5}};
        for (int net = 0; net < 3; net++) {
            for (int what = 0; what <= 3; what++) {
                for (int place : new int[] {0, 1, 2, 20}) {
                    Check.due("chapterOf " + net + " " + what, x.chapterOf(net, place, what), due[net][what]);
                }
            }
        }
    }

    /** Throws for the net or place, then for what, then if there is no knot. */
    private static void chapterOfThrows() {
        rich("what", Check.NO_ARGUMENT, x -> x.chapterOf(0, 0, 4));
        rich("what", Check.NO_ARGUMENT, x -> x.chapterOf(0, 0, -1));
        rich("what ahead of no knot", Check.NO_ARGUMENT, x -> x.chapterOf(0, 3, 4));
        rich("what ahead of no knot", Check.NO_ARGUMENT, x -> x.chapterOf(0, 3, MIN));
        rich("net ahead of all", Check.NO_INDEX, x -> x.chapterOf(3, 3, 4));
        rich("place ahead of what", Check.NO_INDEX, x -> x.chapterOf(0, 24, 4));
        rich("place ahead of what", Check.NO_INDEX, x -> x.chapterOf(0, -1, -1));
        for (int what = 0; what <= 3; what++) {
            int asked = what;
            rich("no knot", Check.NO_ELEMENT, x -> x.chapterOf(0, 3, asked));
            rich("no knot", Check.NO_ELEMENT, x -> x.chapterOf(2, 23, asked));
        }
    }

    /** Each number of a note: of the first and the last of six. */
    private static void noteOfReturnsEachNumber() {
        NetScript x = Pasts.FULL.make();
        int[] first = {0, 0, 1, 1};
        int[] last = {2, 23, 1, 1};
        for (int what = 0; what <= 3; what++) {
            Check.due("noteOf " + what, x.noteOf(0, what), first[what]);
            Check.due("noteOf " + what, x.noteOf(5, what), last[what]);
        }
        x.knot(2, 17, 1);
        Check.due("not as noted", x.noteOf(5, 3), 0);
        Check.due("as noted", x.noteOf(4, 3), 1);
        NetScript y = new NetScript();
        Pasts.tieAll(y, 1, 2);
        y.note(1, 23);
        int[] all = {1, 0, 24, 1};
        for (int what = 0; what <= 3; what++) {
            Check.due("noteOf " + what, y.noteOf(0, what), all[what]);
        }
    }

    /** Throws if there is no such note, then if what is out of range. */
    private static void noteOfThrows() {
        Pasts.NEW.thrown("note 0 of none", Check.NO_INDEX, x -> x.noteOf(0, 0));
        for (int note : new int[] {-1, 3, 6, MIN, MAX}) {
            rich("note " + note, Check.NO_INDEX, x -> x.noteOf(note, 0));
            rich("note ahead of what", Check.NO_INDEX, x -> x.noteOf(note, 4));
        }
        Pasts.FULL.thrown("note 6 of six", Check.NO_INDEX, x -> x.noteOf(6, 0));
        for (int what : new int[] {-1, 4, MIN, MAX}) {
            rich("what " + what, Check.NO_ARGUMENT, x -> x.noteOf(0, what));
            rich("what " + what, Check.NO_ARGUMENT, x -> x.noteOf(2, what));
        }
    }

    /** By the cheapest torn strings that join parts; from one part on, by what it takes to come to the next place. */
    private static void bothWaysTellTheLeastTwine() {
        NetScript x = new NetScript();
        Pasts.tie(x, 0, 1, 0, 1, 2, 6, 7, 8, 12, 13, 14);
        x.note(0, 14);
        Check.least(x, 0, 0);
        x.tear(0, 0, 6);
        x.tear(0, 1, 7);
        x.tear(0, 2, 8);
        Check.least(x, 0, 2);
        x.tear(0, 6, 12);
        x.tear(0, 7, 13);
        x.tear(0, 8, 14);
        Check.least(x, 0, 4);
        x.tear(0, 0, 1);
        x.tear(0, 7, 8);
        x.tear(0, 13, 14);
        Check.least(x, 0, 7);
        x.tear(0, 1, 2);
        x.tear(0, 6, 7);
        x.tear(0, 12, 13);
        Check.least(x, 0, 10);
        NetScript y = new NetScript();
        Pasts.tie(y, 1, 1, 0, 6, 7, 1, 5, 11);
        y.note(1, 0);
        y.note(1, 5);
        y.tear(1, 0, 6);
        y.tear(1, 0, 1);
        y.tear(1, 5, 11);
        Check.least(y, 0, 1);
        Check.least(y, 1, 2);
        NetScript z = new NetScript();
        Pasts.tie(z, 2, 3, 0, 1, 2, 6, 8, 12, 14);
        z.note(2, 14);
        z.tear(2, 0, 6);
        Check.least(z, 0, 2);
        z.tear(2, 2, 8);
        Check.least(z, 0, 4);
        z.tear(2, 6, 12);
        z.tear(2, 8, 14);
        Check.least(z, 0, 8);
        z.tear(2, 0, 1);
        Check.least(z, 0, 9);
    }

    /** Throws if there is no such note, then if none would do. */
    private static void leastThrows() {
        Pasts.NEW.thrown("least", Check.NO_INDEX, x -> x.least(0));
        Pasts.NEW.thrown("leastAgain", Check.NO_INDEX, x -> x.leastAgain(0));
        for (int note : new int[] {-1, 3, 6, MIN, MAX}) {
            rich("least " + note, Check.NO_INDEX, x -> x.least(note));
            rich("leastAgain " + note, Check.NO_INDEX, x -> x.leastAgain(note));
        }
        Past another = Pasts.RICH.then(x -> x.knot(2, 16, 3));
        another.thrown("least", Check.NO_ELEMENT, x -> x.least(2));
        another.thrown("leastAgain", Check.NO_ELEMENT, x -> x.leastAgain(2));
        Check.least(another.make(), 1, 2);
    }

    /** That one by which the most knots hang together: one knot more is better than a cheaper string. */
    private static void theBestMendingJoinsTheMostKnots() {
        NetScript x = new NetScript();
        Pasts.tie(x, 0, 1, 0, 1, 17, 23);
        x.tear(0, 0, 1);
        x.tear(0, 17, 23);
        Check.best(x, 0, 0, 1);
        x.knot(0, 22, 1);
        Check.best(x, 0, 17, 23);
        x.knot(0, 7, 1);
        Check.best(x, 0, 0, 1);
        x.knot(0, 1, 0);
        Check.best(x, 0, 17, 23);
        bothChaptersCount();
        NetScript y = new NetScript();
        Pasts.tieAll(y, 1, 2);
        y.tear(1, 17, 23);
        Check.thrown("bestMend", Check.NO_ELEMENT, () -> y.bestMend(1, true));
        y.tear(1, 22, 23);
        Check.best(y, 1, 22, 23);
        y.knot(1, 22, 0);
        Check.best(y, 1, 17, 23);
    }

    /** Four and one are more than two and two, whichever end the four are at. */
    private static void bothChaptersCount() {
        for (int end = 0; end < 2; end++) {
            NetScript x = new NetScript();
            Pasts.tie(x, 0, 1, 0, 1, 2, 3);
            x.tear(0, 1, 2);
            Check.best(x, 0, 1, 2);
            Pasts.tie(x, 0, 1, 18, 19, 20, 21, 22);
            x.tear(0, end == 0 ? 18 : 21, end == 0 ? 19 : 22);
            Check.best(x, 0, end == 0 ? 18 : 21, end == 0 ? 19 : 22);
        }
    }

    /** Of several the cheapest, although its places are higher. */
    private static void ofSeveralTheCheapestIsTheBest() {
        NetScript x = new NetScript();
        Pasts.tie(x, 0, 1, 0, 6, 22, 23);
        x.tear(0, 0, 6);
        Check.best(x, 0, 0, 6);
        x.tear(0, 22, 23);
        Check.best(x, 0, 22, 23);
        x.editor(1);
        x.mend(0, 22, 23, 0);
        Check.best(x, 0, 0, 6);
        NetScript y = new NetScript();
        Pasts.tie(y, 0, 1, 0, 1, 6);
        y.tear(0, 0, 6);
        y.tear(0, 0, 1);
        Check.best(y, 0, 0, 1);
    }

    /** Then the one with the lowest lesser place, in a line and between two lines. */
    private static void thenTheLowestLesserPlace() {
        NetScript x = new NetScript();
        Pasts.tie(x, 2, 1, 3, 4, 8, 9, 18, 19);
        x.tear(2, 3, 9);
        x.tear(2, 18, 19);
        x.tear(2, 8, 9);
        x.tear(2, 3, 4);
        Check.best(x, 2, 3, 4);
        x.knot(2, 4, 0);
        Check.best(x, 2, 8, 9);
        x.knot(2, 8, 0);
        Check.best(x, 2, 18, 19);
        NetScript y = new NetScript();
        Pasts.tie(y, 2, 1, 0, 6, 17, 23, 2, 8);
        y.tear(2, 17, 23);
        Check.best(y, 2, 17, 23);
        y.tear(2, 8, 2);
        Check.best(y, 2, 2, 8);
        y.tear(2, 0, 6);
        Check.best(y, 2, 0, 6);
    }

    /** Then with the lowest greater place: two strings from one place are of two prices, so the cheaper one is lower. */
    private static void thenTheLowestGreaterPlace() {
        NetScript x = new NetScript();
        Pasts.tie(x, 0, 1, 16, 17, 22);
        x.tear(0, 16, 22);
        Check.best(x, 0, 16, 22);
        x.tear(0, 16, 17);
        Check.best(x, 0, 16, 17);
    }

    /** Throws if there is no such net, then if there is none that joins two chapters. */
    private static void bestMendThrows() {
        for (boolean isGreater : new boolean[] {false, true}) {
            for (int net : new int[] {-1, 3, MIN, MAX}) {
                rich("net " + net, Check.NO_INDEX, x -> x.bestMend(net, isGreater));
            }
            rich("no torn string", Check.NO_ELEMENT, x -> x.bestMend(2, isGreater));
            Past noKnots = new Past(x -> Pasts.tearAll(x, 0));
            noKnots.thrown("no knots", Check.NO_ELEMENT, x -> x.bestMend(0, isGreater));
            Past oneKnot = noKnots.then(x -> x.knot(0, 8, 1));
            oneKnot.thrown("one knot", Check.NO_ELEMENT, x -> x.bestMend(0, isGreater));
            Past oneChapter = new Past(x -> {
                Pasts.tie(x, 0, 1, 0, 1, 6, 7);
                x.tear(0, 0, 1);
            });
            oneChapter.thrown("one chapter", Check.NO_ELEMENT, x -> x.bestMend(0, isGreater));
            Past apart = new Past(x -> {
                Pasts.tie(x, 0, 1, 5, 6);
                Pasts.tie(x, 1, 1, 0);
                Pasts.tie(x, 2, 1, 1);
                x.tear(0, 4, 5);
            });
            apart.thrown("chapters with no string between", Check.NO_ELEMENT, x -> x.bestMend(0, isGreater));
        }
    }

    /** A chapter of a net by its knots: the most first. */
    private static void theMostKnotsComeFirst() {
        NetScript x = new NetScript();
        Pasts.tie(x, 0, 1, 0, 2, 3, 12, 13, 14, 23);
        int[] due = {12, 2, 0, 23};
        for (int i = 0; i < due.length; i++) {
            Check.due("ranked " + i, x.ranked(0, i), due[i]);
        }
        x.knot(0, 17, 1);
        x.knot(0, 11, 1);
        x.knot(0, 10, 1);
        Check.due("the first, by one knot", x.ranked(0, 0), 10);
    }

    /** Of several the lowest one. */
    private static void ofSeveralTheLowestComesFirst() {
        NetScript x = new NetScript();
        Pasts.tie(x, 2, 1, 23, 22, 5, 11, 0, 8, 18);
        int[] due = {5, 22, 0, 8, 18};
        for (int i = 0; i < due.length; i++) {
            Check.due("ranked " + i, x.ranked(2, i), due[i]);
        }
        NetScript y = new NetScript();
        Pasts.tieAll(y, 1, 1);
        Pasts.tearAll(y, 1);
        for (int i = 0; i < 24; i++) {
            Check.due("ranked " + i, y.ranked(1, i), i);
        }
    }

    /** Throws if there is no such net, then if there is no such place in the order. */
    private static void rankedThrows() {
        Past two = new Past(x -> Pasts.tie(x, 0, 1, 0, 23));
        Check.due("the last place", two.make().ranked(0, 1), 23);
        for (int place : new int[] {-1, 2, 24, 32, MIN, MAX}) {
            two.thrown("place " + place, Check.NO_ELEMENT, x -> x.ranked(0, place));
            two.thrown("net ahead of place", Check.NO_INDEX, x -> x.ranked(3, place));
            two.thrown("net ahead of place", Check.NO_INDEX, x -> x.ranked(-1, place));
        }
        two.thrown("a net without chapters", Check.NO_ELEMENT, x -> x.ranked(1, 0));
        Past most = new Past(x -> {
            Pasts.tieAll(x, 0, 1);
            Pasts.tearAll(x, 0);
        });
        most.thrown("a place behind the most", Check.NO_ELEMENT, x -> x.ranked(0, 24));
    }

    /** 0 for the twine, 1 for the strings mended so far: none, some, and as many as the twine is. */
    private static void editorOfReturnsEachNumber() {
        NetScript x = new NetScript();
        x.editor(0);
        x.editor(99);
        x.editor(3);
        x.editor(1);
        x.tear(0, 0, 1);
        x.tear(0, 0, 6);
        x.tear(0, 1, 2);
        x.mend(0, 0, 1, 2);
        x.mend(0, 0, 6, 2);
        x.mend(0, 1, 2, 3);
        int[][] due = {{0, 0}, {99, 0}, {0, 2}, {0, 1}};
        for (int i = 0; i < 4; i++) {
            Check.due("twine of " + i, x.editorOf(i, 0), due[i][0]);
            Check.due("mended by " + i, x.editorOf(i, 1), due[i][1]);
        }
    }

    /** Throws if there is no such editor, then if what is out of range. */
    private static void editorOfThrows() {
        Pasts.NEW.thrown("editor 0 of none", Check.NO_INDEX, x -> x.editorOf(0, 0));
        for (int editor : new int[] {-1, 3, 4, MIN, MAX}) {
            rich("editor " + editor, Check.NO_INDEX, x -> x.editorOf(editor, 0));
            rich("editor ahead of what", Check.NO_INDEX, x -> x.editorOf(editor, 2));
        }
        Pasts.FULL.thrown("editor 4 of four", Check.NO_INDEX, x -> x.editorOf(4, 0));
        for (int what : new int[] {-1, 2, MIN, MAX}) {
            rich("what " + what, Check.NO_ARGUMENT, x -> x.editorOf(0, what));
            rich("what " + what, Check.NO_ARGUMENT, x -> x.editorOf(2, what));
        }
    }
}

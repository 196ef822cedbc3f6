/** The section "Terms" at its edges: nets, places, strings and chapters. One test a sentence. */
public final class BoundaryNetsTest {
    private static final int MIN = Integer.MIN_VALUE;
    private static final int MAX = Integer.MAX_VALUE;
    private static final int[] NO_NETS = {-1, 3, 4, 32, 256, MIN, MAX};
    private static final int[] NO_PLACES = {-1, 24, 31, 32, 33, 64, -32, MIN, MAX};

    private interface OfNumber {
        void call(NetScript x, int number);
    }

    private record Asked(String name, Class<? extends RuntimeException> thrown, OfNumber call) {
    }

    private static final Asked[] OF_NETS = {
        new Asked("knot", Check.REFUSED, (x, net) -> x.knot(net, 3, 1)),
        new Asked("tear", Check.REFUSED, (x, net) -> x.tear(net, 2, 3)),
        new Asked("mend", Check.REFUSED, (x, net) -> x.mend(net, 0, 1, 0)),
        new Asked("sink", Check.REFUSED, (x, net) -> x.sink(net, 3)),
        new Asked("note", Check.REFUSED, (x, net) -> x.note(net, 23)),
        new Asked("kindOf", Check.NO_INDEX, (x, net) -> x.kindOf(net, 0)),
        new Asked("isTorn", Check.NO_INDEX, (x, net) -> x.isTorn(net, 0, 1)),
        new Asked("netOf", Check.NO_INDEX, (x, net) -> x.netOf(net, 0)),
        new Asked("chapters", Check.NO_INDEX, (x, net) -> x.chapters(net)),
        new Asked("chaptersAgain", Check.NO_INDEX, (x, net) -> x.chaptersAgain(net)),
        new Asked("chapterOf", Check.NO_INDEX, (x, net) -> x.chapterOf(net, 0, 0)),
        new Asked("bestMend", Check.NO_INDEX, (x, net) -> x.bestMend(net, true)),
        new Asked("ranked", Check.NO_INDEX, (x, net) -> x.ranked(net, 0)),
        new Asked("line", Check.NO_INDEX, (x, net) -> x.line(net, 0)),
        new Asked("chapterLine", Check.NO_INDEX, (x, net) -> x.chapterLine(net, 0)),
    };

    private static final Asked[] OF_PLACES = {
        new Asked("knot", Check.REFUSED, (x, place) -> x.knot(0, place, 1)),
        new Asked("tear one", Check.REFUSED, (x, place) -> x.tear(0, place, 23)),
        new Asked("tear other", Check.REFUSED, (x, place) -> x.tear(0, 0, place)),
        new Asked("mend one", Check.REFUSED, (x, place) -> x.mend(0, place, 23, 0)),
        new Asked("mend other", Check.REFUSED, (x, place) -> x.mend(0, 0, place, 0)),
        new Asked("note", Check.REFUSED, (x, place) -> x.note(0, place)),
        new Asked("kindOf", Check.NO_INDEX, (x, place) -> x.kindOf(0, place)),
        new Asked("isTorn one", Check.NO_INDEX, (x, place) -> x.isTorn(0, place, 23)),
        new Asked("isTorn other", Check.NO_INDEX, (x, place) -> x.isTorn(0, 0, place)),
        new Asked("chapterOf", Check.NO_INDEX, (x, place) -> x.chapterOf(0, place, 0)),
        new Asked("chapterLine", Check.NO_INDEX, (x, place) -> x.chapterLine(0, place)),
    };

    public static void main(String[] args) {
        thereAreNoNetsButThree();
        thereAreTheNets0To2();
        eachBoatIsItsOwn();
        thereAreNoPlacesBut24();
        aPlaceIsSixTimesItsLineAndItsColumn();
        theKindsAre1To3OrNone();
        thereAreNoKnotsAtFirst();
        stringsAreBetweenPlacesBesideEachOther();
        eachStringIsOneFromBothEnds();
        stringsAreWholeAtFirst();
        knotsHangTogetherByWholeStrings();
        aRowOfKnotsHasNoGap();
        noStringLeadsRoundTheEndOfALine();
        oneKnotIsAChapter();
        allKnotsCanBeAChapter();
        eachKnotCanBeAChapter();
        theLongestRowOfKnotsHangsTogether();
        aChapterIsKnownByItsLowestPlace();
        aChapterReadsAsItsLettersByTheirPlaces();
        Check.end();
    }

    private static void eachIsRefused(Asked asked, int number) {
        String what = asked.name + " " + number;
        if (asked.thrown == Check.REFUSED) {
            Pasts.RICH.refuses(what, 2, number, x -> asked.call.call(x, number));
        } else {
            Pasts.RICH.thrown(what, asked.thrown, x -> asked.call.call(x, number));
        }
    }

    /** There are the nets 0 to 2: what lies just outside, and what wraps around. */
    private static void thereAreNoNetsButThree() {
        for (Asked asked : OF_NETS) {
            for (int net : NO_NETS) {
                eachIsRefused(asked, net);
            }
        }
    }

    /** There are the nets 0 to 2: the first and the last are nets of their own. */
    private static void thereAreTheNets0To2() {
        for (Asked asked : OF_NETS) {
            for (int net = 0; net < 3; net++) {
                NetScript x = new NetScript();
                x.editor(9);
                x.knot(net, 0, 1);
                x.knot(net, 1, 1);
                x.knot(net, 23, 1);
                x.tear(net, 0, 1);
                int asks = net;
                Check.due(asked.name + " " + net, Check.answer(() -> {
                    asked.call.call(x, asks);
                    return "answers";
                }), "answers");
            }
        }
        NetScript x = new NetScript();
        for (int net = 0; net < 3; net++) {
            x.knot(net, 0, 1 + net);
            x.knot(net, 23, 3 - net);
        }
        for (int net = 0; net < 3; net++) {
            Check.due("kind in net " + net, x.kindOf(net, 0), 1 + net);
            Check.due("kind in net " + net, x.kindOf(net, 23), 3 - net);
            Check.due("knots of net " + net, x.netOf(net, 0), 2);
        }
    }

    /** Each on a boat of its own. */
    private static void eachBoatIsItsOwn() {
        for (int net = 0; net < 3; net++) {
            NetScript x = new NetScript();
            x.sink(net, 2);
            for (int other = 0; other < 3; other++) {
                Check.due("draught of " + other, x.netOf(other, 3), other == net ? 2 : 0);
                Check.due("lines under water of " + other, x.netOf(other, 4), other == net ? 2 : 0);
            }
        }
    }

    /** Numbered line by line from 0 to 23: just outside, and those whose bit wraps around to one of a place. */
    private static void thereAreNoPlacesBut24() {
        for (Asked asked : OF_PLACES) {
            for (int place : NO_PLACES) {
                eachIsRefused(asked, place);
            }
        }
        NetScript x = new NetScript();
        Check.due("the first place", x.knot(0, 0, 1), 0);
        Check.due("the last place", x.knot(0, 23, 1), 0);
        Check.due("kind at the first", x.kindOf(0, 0), 1);
        Check.due("kind at the last", x.kindOf(0, 23), 1);
        Check.due("knots", x.netOf(0, 0), 2);
    }

    /** A place is 6 times its line, and its column, together. */
    private static void aPlaceIsSixTimesItsLineAndItsColumn() {
        for (int line = 0; line < 4; line++) {
            for (int column = 0; column < 6; column++) {
                NetScript x = new NetScript();
                x.knot(1, 6 * line + column, 2);
                for (int other = 0; other < 4; other++) {
                    StringBuilder due = new StringBuilder(".-.-.-.-.-.");
                    if (other == line) {
                        due.setCharAt(2 * column, 'b');
                    }
                    Check.written("line " + other, x, x.line(1, other), due.toString());
                }
            }
        }
    }

    /** At a place is a knot of a kind, 1 to 3, or none, 0. */
    private static void theKindsAre1To3OrNone() {
        for (int kind : new int[] {-1, 4, 5, 257, MIN, MAX}) {
            Pasts.RICH.refuses("kind " + kind, 3, kind, x -> x.knot(0, 3, kind));
        }
        NetScript x = new NetScript();
        int before = 0;
        for (int kind : new int[] {1, 0, 3, 0, 2, 1, 3, 2}) {
            Check.due("kind before", x.knot(0, 3, kind), before);
            Check.due("kind", x.kindOf(0, 3), kind);
            Check.due("knots", x.netOf(0, 0), kind == 0 ? 0 : 1);
            before = kind;
        }
    }

    /** Or none, 0, as at first. */
    private static void thereAreNoKnotsAtFirst() {
        NetScript x = new NetScript();
        for (int i = 0; i < 72; i++) {
            Check.due("kind at first", x.kindOf(i / 24, i % 24), 0);
        }
    }

    /** Between two places beside each other in a line, or one below the other, is a string, and else nowhere. */
    private static void stringsAreBetweenPlacesBesideEachOther() {
        int strings = 0;
        for (int one = 0; one < 24; one++) {
            for (int other = 0; other < 24; other++) {
                boolean isBeside = one / 6 == other / 6 && Math.abs(one - other) == 1 || Math.abs(one - other) == 6;
                String what = " " + one + " " + other;
                NetScript x = new NetScript();
                x.editor(9);
                int from = one;
                int to = other;
                if (isBeside) {
                    Check.due("isTorn" + what, x.isTorn(2, from, to), false);
                    Check.due("tear" + what, x.tear(2, from, to), 0);
                    Check.due("isTorn" + what, x.isTorn(2, from, to), true);
                    Check.due("mend" + what, x.mend(2, from, to, 0), one / 6 == other / 6 ? 8 : 7);
                    strings++;
                } else {
                    Check.thrown("isTorn" + what, Check.NO_ELEMENT, () -> x.isTorn(2, from, to));
                    Check.refused("tear" + what, x, 5, other, () -> x.tear(2, from, to));
                    Check.refused("mend" + what, x, 5, other, () -> x.mend(2, from, to, 0));
                }
            }
        }
        Check.due("strings, from both ends", strings, 2 * 38);
    }

    /** A string is one, whichever of its ends is told first, and no other is torn with it. */
    private static void eachStringIsOneFromBothEnds() {
        for (int one = 0; one < 24; one++) {
            for (int step : new int[] {1, 6}) {
                int other = one + step;
                if (step == 1 && one % 6 == 5 || step == 6 && one >= 18) {
                    continue;
                }
                NetScript x = new NetScript();
                x.tear(1, one, other);
                Check.due("from the one end", x.isTorn(1, one, other), true);
                Check.due("from the other", x.isTorn(1, other, one), true);
                Check.due("torn strings", x.netOf(1, 2), 1);
                Check.due("twine for it", x.netOf(1, 6), step == 1 ? 1 : 2);
                Check.due("torn strings of others", x.account(2), 1);
            }
        }
    }

    /** Which is whole, as at first. */
    private static void stringsAreWholeAtFirst() {
        for (int net = 0; net < 3; net++) {
            NetScript x = new NetScript();
            Check.due("torn at first", x.netOf(net, 2), 0);
            Pasts.tearAll(x, net);
            Check.due("all torn", x.netOf(net, 2), 38);
            Check.due("twine for all", x.netOf(net, 6), 20 + 36);
            Check.due("torn in all nets", x.account(2), 38);
        }
    }

    /** Two knots hang together by a row of knots, each of which has a whole string to the next one. */
    private static void knotsHangTogetherByWholeStrings() {
        NetScript x = new NetScript();
        x.editor(9);
        Pasts.tie(x, 0, 1, 0, 1, 7, 8);
        Check.chapters(x, 0, 1);
        Check.due("a torn string in the row", x.tear(0, 1, 7), 2);
        Check.chapters(x, 0, 2);
        x.mend(0, 1, 7, 0);
        Check.chapters(x, 0, 1);
        Check.due("a torn string aside of it", x.tear(0, 0, 6), 1);
        Check.chapters(x, 0, 1);
        Check.chapters(x, 1, 0);
        Pasts.tie(x, 0, 1, 2);
        x.tear(0, 1, 7);
        Check.chapters(x, 0, 1);
        Check.due("the way round torn too", x.tear(0, 2, 8), 2);
    }

    /** A row of knots: a place without one parts it although its strings are whole. */
    private static void aRowOfKnotsHasNoGap() {
        NetScript x = new NetScript();
        Pasts.tie(x, 0, 1, 6, 7, 8);
        Check.chapters(x, 0, 1);
        x.knot(0, 7, 0);
        Check.chapters(x, 0, 2);
        x.knot(0, 7, 3);
        Check.chapters(x, 0, 1);
    }

    /** In a line: the last place of one and the first of the next have no string, nor have the first and the last. */
    private static void noStringLeadsRoundTheEndOfALine() {
        int[][] pairs = {{5, 6}, {11, 12}, {17, 18}, {0, 5}, {6, 11}, {12, 17}, {18, 23}, {0, 18}, {5, 23}, {0, 23}};
        for (int[] pair : pairs) {
            NetScript x = new NetScript();
            Pasts.tie(x, 0, 2, pair[0], pair[1]);
            Check.chapters(x, 0, 2);
            Check.due("chapter", x.chapterOf(0, pair[1], 0), pair[1]);
            Check.due("its strings", x.chapterOf(0, pair[1], 3), 0);
            Check.written("its letters", x, x.chapterLine(0, pair[0]), "b");
            Check.thrown("bestMend", Check.NO_ELEMENT, () -> x.bestMend(0, true));
        }
    }

    /** A chapter is a knot with all knots that hang together with it: with none. */
    private static void oneKnotIsAChapter() {
        for (int place = 0; place < 24; place++) {
            NetScript x = new NetScript();
            x.knot(2, place, 3);
            Check.chapters(x, 2, 1);
            Check.due("its lowest place", x.chapterOf(2, place, 0), place);
            Check.due("its knots", x.chapterOf(2, place, 1), 1);
            Check.due("its strings", x.chapterOf(2, place, 3), 0);
            Check.due("the greatest", x.netOf(2, 5), 1);
        }
    }

    /** A chapter is a knot with all knots that hang together with it: with all of the net, and no other net's. */
    private static void allKnotsCanBeAChapter() {
        NetScript x = new NetScript();
        Pasts.tieAll(x, 1, 1);
        x.knot(0, 0, 1);
        x.knot(2, 0, 1);
        Check.chapters(x, 1, 1);
        Check.due("its lowest place", x.chapterOf(1, 23, 0), 0);
        Check.due("its knots", x.chapterOf(1, 0, 1), 24);
        Check.due("its strings", x.chapterOf(1, 12, 3), 38);
        Check.due("the greatest", x.netOf(1, 5), 24);
        Check.chapters(x, 0, 1);
        Check.chapters(x, 2, 1);
    }

    /** As many chapters as there can be. */
    private static void eachKnotCanBeAChapter() {
        NetScript x = new NetScript();
        Pasts.tieAll(x, 2, 1);
        Pasts.tearAll(x, 2);
        Check.chapters(x, 2, 24);
        Check.due("the greatest", x.netOf(2, 5), 1);
        for (int place = 0; place < 24; place++) {
            Check.due("its knots", x.chapterOf(2, place, 1), 1);
            Check.due("ranked", x.ranked(2, place), place);
        }
        Check.thrown("ranked 24", Check.NO_ELEMENT, () -> x.ranked(2, 24));
    }

    /** A row of all 24 knots, to and fro; its ends are 23 strings away from each other. */
    private static void theLongestRowOfKnotsHangsTogether() {
        NetScript x = new NetScript();
        Pasts.tieAll(x, 0, 1);
        for (int place = 0; place < 18; place++) {
            if (place != 5 && place != 6 && place != 17) {
                x.tear(0, place, place + 6);
            }
        }
        Check.chapters(x, 0, 1);
        Check.due("its lowest place from its end", x.chapterOf(0, 18, 0), 0);
        Check.due("its knots from its start", x.chapterOf(0, 0, 1), 24);
        Check.due("its strings", x.chapterOf(0, 0, 3), 23);
        Check.due("a string less", x.tear(0, 18, 19), 2);
        Check.chapters(x, 0, 2);
        Check.due("the last knot alone", x.chapterOf(0, 18, 1), 1);
    }

    /** It is known by its lowest place, which need not be in the line of its first column. */
    private static void aChapterIsKnownByItsLowestPlace() {
        NetScript x = new NetScript();
        Pasts.tie(x, 0, 1, 5, 11, 10, 9, 8, 7, 6, 12);
        for (int place : new int[] {5, 6, 12}) {
            Check.due("lowest place", x.chapterOf(0, place, 0), 5);
        }
        Check.due("ranked", x.ranked(0, 0), 5);
        x.knot(0, 5, 0);
        Check.due("lowest place", x.chapterOf(0, 11, 0), 6);
        x.knot(0, 0, 1);
        Check.due("lowest place", x.chapterOf(0, 12, 0), 0);
    }

    /** The letters of its knots, by their places: a for 1, b for 2, c for 3; from one letter to 24. */
    private static void aChapterReadsAsItsLettersByTheirPlaces() {
        NetScript x = new NetScript();
        for (int place = 23; place >= 0; place--) {
            x.knot(0, place, 1 + place * 5 % 7 % 3);
        }
        Check.written("all", x, x.chapterLine(0, 17), "acababcacababcacababcaca");
        NetScript y = new NetScript();
        y.knot(0, 23, 3);
        Check.written("one", y, y.chapterLine(0, 23), "c");
        y.knot(0, 17, 2);
        Check.written("two", y, y.chapterLine(0, 23), "bc");
        y.knot(0, 22, 1);
        Check.written("three", y, y.chapterLine(0, 23), "bac");
    }
}

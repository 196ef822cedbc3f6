/** Pasts that many tests begin with. */
final class Pasts {
    static final Past NEW = new Past(x -> { });
    static final Past RICH = new Past(Pasts::rich);
    static final Past FULL = new Past(Pasts::full);

    private Pasts() {
    }

    /** Something of each sort is there, so that each loss can be seen. */
    private static void rich(NetScript x) {
        tie(x, 0, 1, 0, 6, 12);
        tie(x, 0, 2, 1, 7, 23);
        tie(x, 0, 3, 2, 20, 21);
        tie(x, 1, 3, 5, 11, 16);
        tie(x, 2, 2, 6, 17, 18);
        x.note(0, 0);
        x.note(0, 20);
        x.note(1, 5);
        x.note(2, 17);
        x.editor(9);
        x.editor(0);
        x.editor(50);
        x.tear(0, 0, 1);
        x.tear(0, 1, 7);
        x.tear(1, 5, 11);
        x.tear(2, 0, 6);
        x.mend(2, 0, 6, 2);
        x.tide(1);
        x.sink(0, 1);
        x.sink(2, 2);
        x.save();
        x.drop(1);
        x.knot(0, 21, 1);
        Check.fault(x, "tip", 2);
        Check.orderRefused(x, "drop 9", 0, 2, 9);
        x.chapterLine(0, 1);
        Check.feed(x, "tide 3");
    }

    /** As many editors, notes, characters and changes as there can be. */
    private static void full(NetScript x) {
        for (int i = 0; i < 6; i++) {
            x.knot(i / 2, i % 2 == 0 ? 0 : 23, 1 + i % 3);
            x.note(i / 2, i % 2 == 0 ? 0 : 23);
        }
        x.save();
        for (int i = 0; i < 4; i++) {
            x.editor(99);
        }
        x.tide(4);
        x.tear(1, 0, 6);
        Check.refused("tide", x, 3, 5, () -> x.tide(5));
        x.line(2, 3);
        Check.feed(x, "tide 3;tide 2;tide 3;tide 2;tide 3;tide 2;tide 3;knot 2 11=1");
    }

    /** Ties knots of a kind at places of a net. */
    static void tie(NetScript x, int net, int kind, int... places) {
        for (int place : places) {
            x.knot(net, place, kind);
        }
    }

    /** Ties knots of a kind at all places of a net. */
    static void tieAll(NetScript x, int net, int kind) {
        for (int place = 0; place < 24; place++) {
            x.knot(net, place, kind);
        }
    }

    /** Tears all strings of a net, which has 20 in its lines and 18 between them. */
    static void tearAll(NetScript x, int net) {
        for (int place = 0; place < 24; place++) {
            if (place % 6 != 5) {
                x.tear(net, place, place + 1);
            }
            if (place < 18) {
                x.tear(net, place, place + 6);
            }
        }
    }
}

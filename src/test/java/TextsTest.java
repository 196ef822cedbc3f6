/** Promises 22 to 25: feed, run, faultPosition and reason. */
public final class TextsTest {
    public static void main(String[] args) {
        theTapeHoldsSixtyCharacters();
        anyCharacterIsFed();
        allOrdersAreDone();
        numbersHaveOneDigitOrTwo();
        ordersAreDoneOneAfterTheOther();
        theMostOrders();
        allOrNone();
        ordersAreRefused();
        faultsInWords();
        faultsInNumbers();
        faultsBetweenOrders();
        faultsOfTextsThatEndTooEarly();
        aFaultIsKept();
        reasonsAreKept();
        Check.end();
    }

    private static void theTapeHoldsSixtyCharacters() {
        NetScript x = new NetScript();
        StringBuilder text = new StringBuilder("editor 1");
        while (text.length() < 60) {
            text.append('x');
        }
        Check.feed(x, text.toString());
        Check.due("tape", x.account(11), 60);
        Check.thrown("feed", Check.NO_STATE, () -> x.feed('y'));
        Check.due("tape", x.account(11), 60);
        Check.thrown("run", Check.NO_ARGUMENT, x::run);
        Check.due("fault", x.faultPosition(), 8);
        Check.due("tape", x.account(11), 0);
        Check.due("feed", x.feed('a'), 1);
    }

    private static void anyCharacterIsFed() {
        NetScript x = new NetScript();
        Check.due("feed", x.feed((char) 0), 1);
        Check.due("feed", x.feed((char) 255), 2);
        Check.due("feed", x.feed((char) 65535), 3);
        Check.thrown("run", Check.NO_ARGUMENT, x::run);
        Check.due("fault", x.faultPosition(), 0);
        Check.fault(x, "tide " + (char) ('1' + 256), 5);
        Check.fault(x, "tide " + (char) 0x0661, 5);
        Check.fault(x, (char) ('t' + 256) + "ide 1", 0);
    }

    private static void allOrdersAreDone() {
        NetScript x = new NetScript();
        Check.runs(x, "knot 1 7=3", 1);
        Check.due("knot", x.kindOf(1, 7), 3);
        Check.runs(x, "tear 1 7-8", 1);
        Check.due("tear", x.isTorn(1, 7, 8), true);
        Check.runs(x, "editor 12", 1);
        Check.due("editor", x.editorOf(0, 0), 12);
        Check.runs(x, "mend 1 8-7/0", 1);
        Check.due("mend", x.isTorn(1, 7, 8), false);
        Check.due("mend", x.editorOf(0, 0), 11);
        Check.due("mended", x.editorOf(0, 1), 1);
        Check.runs(x, "tide 2", 1);
        Check.due("tide", x.account(7), 2);
        Check.runs(x, "sink 1=1", 1);
        Check.due("sink", x.netOf(1, 4), 3);
        Check.runs(x, "note 1 7", 1);
        Check.due("note", x.noteOf(0, 1), 7);
        Check.runs(x, "drop 0", 1);
        Check.due("drop", x.account(5), 0);
        Check.due("changes", x.account(12), 8);
        Check.runs(x, "knot 1 7=0", 1);
        Check.due("knot", x.kindOf(1, 7), 0);
    }

    private static void numbersHaveOneDigitOrTwo() {
        NetScript x = new NetScript();
        Check.runs(x, "knot 2 23=1;knot 2 05=2;knot 2 6=2;knot 2 00=3", 4);
        Check.due("knot", x.kindOf(2, 23), 1);
        Check.due("knot", x.kindOf(2, 5), 2);
        Check.due("knot", x.kindOf(2, 6), 2);
        Check.due("knot", x.kindOf(2, 0), 3);
        Check.runs(x, "editor 99;editor 7;editor 08;editor 10", 4);
        Check.due("twine", x.editorOf(0, 0), 99);
        Check.due("twine", x.editorOf(1, 0), 7);
        Check.due("twine", x.editorOf(2, 0), 8);
        Check.due("twine", x.editorOf(3, 0), 10);
        Check.runs(x, "tear 0 17-23;tear 0 1-02;note 2 23;note 2 6", 4);
        Check.due("torn", x.isTorn(0, 17, 23), true);
        Check.due("torn", x.isTorn(0, 1, 2), true);
        Check.runs(x, "mend 0 23-17/3;mend 0 2-1/2", 2);
        Check.due("twine", x.editorOf(3, 0), 8);
        Check.due("twine", x.editorOf(2, 0), 7);
    }

    private static void ordersAreDoneOneAfterTheOther() {
        NetScript x = new NetScript();
        Check.runs(x, "knot 0 0=1;note 0 0;knot 0 0=2;note 0 0;drop 0", 5);
        Check.due("notes", x.account(5), 1);
        Check.due("as noted", x.noteOf(0, 3), 1);
        Check.due("one change", x.account(12), 1);
        Check.runs(x, "editor 1;tear 1 0-1;mend 1 0-1/0;tear 1 0-1", 4);
        Check.due("twine used", x.account(10), 1);
        Check.due("torn so far", x.account(8), 2);
        Check.due("one change more", x.account(12), 2);
        Check.due("undo", x.undo(), 1);
        Check.due("editors", x.account(3), 0);
        Check.due("torn so far", x.account(8), 0);
    }

    private static void theMostOrders() {
        NetScript x = new NetScript();
        Check.runs(x, "tide 1;tide 2;tide 3;tide 4;tide 3;tide 2;tide 1;tide 2", 8);
        Check.due("tide", x.account(7), 2);
        Check.fault(x, "tide 1;tide 2;tide 3;tide 4;tide 3;tide 2;tide 1;tide 0;tide", 60);
        Check.fault(x, "tide 1;tide 2;tide 3;tide 4;tide 3;tide 2;tide 1;tide 0;tidy", 59);
        Check.orderRefused(x, "tide 1;tide 2;tide 3;tide 4;tide 3;tide 2;tide 1;tide 1", 7, 4, 1);
        Check.due("tide", x.account(7), 2);
    }

    private static void allOrNone() {
        NetScript x = new NetScript();
        x.knot(0, 0, 1);
        x.editor(5);
        x.tear(0, 0, 1);
        x.note(0, 0);
        Check.orderRefused(x, "mend 0 0-1/0;drop 0;sink 2=2;tide 3;knot 0 0=2;knot 0 0=2", 5, 4, 2);
        Check.due("torn", x.isTorn(0, 0, 1), true);
        Check.due("twine", x.editorOf(0, 0), 5);
        Check.due("mended", x.editorOf(0, 1), 0);
        Check.due("mended so far", x.account(9), 0);
        Check.due("twine used", x.account(10), 0);
        Check.due("notes", x.account(5), 1);
        Check.due("draught", x.netOf(2, 3), 0);
        Check.due("tide", x.account(7), 0);
        Check.due("kind", x.kindOf(0, 0), 1);
        Check.due("changes", x.account(12), 4);
        Check.due("undo", x.undo(), 3);
        Check.due("notes", x.account(5), 0);
        NetScript y = new NetScript();
        for (int i = 0; i < 9; i++) {
            y.knot(0, i, 1);
        }
        Check.orderRefused(y, "knot 0 8=0;drop 0", 1, 2, 0);
        for (int i = 7; i >= 0; i--) {
            Check.due("undo", y.undo(), i);
            Check.due("knots", y.account(0), i + 1);
        }
    }

    private static void ordersAreRefused() {
        NetScript x = new NetScript();
        Check.orderRefused(x, "knot 3 0=1", 0, 2, 3);
        Check.orderRefused(x, "knot 0 24=1", 0, 2, 24);
        Check.orderRefused(x, "knot 0 99=9", 0, 2, 99);
        Check.orderRefused(x, "knot 0 0=4", 0, 3, 4);
        Check.orderRefused(x, "knot 0 0=0", 0, 4, 0);
        Check.orderRefused(x, "tide 1;tear 9 0-1", 1, 2, 9);
        Check.orderRefused(x, "tear 0 30-1", 0, 2, 30);
        Check.orderRefused(x, "tear 0 5-6", 0, 5, 6);
        Check.orderRefused(x, "tear 0 5-11;tear 0 11-5", 1, 4, 11);
        Check.orderRefused(x, "mend 0 1-2/3", 0, 2, 3);
        Check.orderRefused(x, "editor 1;mend 0 1-2/0", 1, 4, 2);
        Check.orderRefused(x, "editor 1;tear 0 7-1;mend 0 1-7/0", 2, 6, 1);
        Check.orderRefused(x, "editor 1;editor 2;editor 3;editor 4;editor 5", 4, 1, 4);
        Check.orderRefused(x, "tide 5", 0, 3, 5);
        Check.orderRefused(x, "sink 3=1", 0, 2, 3);
        Check.orderRefused(x, "sink 0=9", 0, 3, 9);
        Check.orderRefused(x, "sink 0=1;sink 0=1", 1, 4, 1);
        Check.orderRefused(x, "note 0 12", 0, 7, 12);
        Check.orderRefused(x, "knot 0 12=1;note 0 12;note 0 12", 2, 8, 0);
        Check.orderRefused(x, "drop 0", 0, 2, 0);
        Check.due("changes", x.account(12), 0);
        Check.due("editors", x.account(3), 0);
    }

    private static void faultsInWords() {
        NetScript x = new NetScript();
        Check.fault(x, "", 0);
        Check.fault(x, "x", 0);
        Check.fault(x, " tide 1", 0);
        Check.fault(x, "Tide 1", 0);
        Check.fault(x, "tade 1", 1);
        Check.fault(x, "teer 1 0-1", 2);
        Check.fault(x, "tiar 1 0-1", 2);
        Check.fault(x, "noot", 2);
        Check.fault(x, "knop", 3);
        Check.fault(x, "mind 0", 1);
        Check.fault(x, "editot", 5);
        Check.fault(x, "sing", 3);
        Check.fault(x, "drop0", 4);
        Check.fault(x, "drop  0", 5);
        Check.fault(x, ";tide 1", 0);
    }

    private static void faultsInNumbers() {
        NetScript x = new NetScript();
        Check.fault(x, "tide 12", 6);
        Check.fault(x, "tide a", 5);
        Check.fault(x, "tide /", 5);
        Check.fault(x, "tide :", 5);
        Check.fault(x, "editor 123", 9);
        Check.fault(x, "editor -1", 7);
        Check.fault(x, "knot 0 123=1", 9);
        Check.fault(x, "knot 00 1=1", 6);
        Check.fault(x, "knot 0 1-1", 8);
        Check.fault(x, "knot 0 1=1=", 10);
        Check.fault(x, "tear 0 1=2", 8);
        Check.fault(x, "tear 0 1-222", 11);
        Check.fault(x, "mend 0 1-2;", 10);
        Check.fault(x, "mend 0 1-2/10", 12);
        Check.fault(x, "sink 0-1", 6);
        Check.fault(x, "sink 10=1", 6);
        Check.fault(x, "note 0=1", 6);
        Check.fault(x, "note 0 1 ", 8);
        Check.fault(x, "drop 10", 6);
    }

    private static void faultsBetweenOrders() {
        NetScript x = new NetScript();
        Check.fault(x, "tide 1,tide 2", 6);
        Check.fault(x, "tide 1; tide 2", 7);
        Check.fault(x, "tide 1;;tide 2", 7);
        Check.fault(x, "editor 1;tear 0 0-1;tide x", 25);
        Check.due("nothing is done", x.account(3), 0);
        Check.fault(x, "drop 9;tide 1?", 13);
        Check.thrown("no reason by a fault", Check.NO_ELEMENT, () -> x.reason(false, false));
    }

    private static void faultsOfTextsThatEndTooEarly() {
        NetScript x = new NetScript();
        String[] texts = {
            "knot 0 1=1", "tear 2 11-5", "mend 0 1-2/0", "editor 12", "tide 1", "sink 0=1", "note 0 1", "drop 0"
        };
        for (String text : texts) {
            int shortest = text.startsWith("editor") ? text.length() - 1 : text.length();
            for (int end = 0; end < shortest; end += 1 + end / 4) {
                Check.fault(x, text.substring(0, end), end);
            }
        }
        Check.fault(x, "tide 1;", 7);
        Check.fault(x, "tide 1;dr", 9);
    }

    private static void aFaultIsKept() {
        NetScript x = new NetScript();
        Check.thrown("faultPosition", Check.NO_ELEMENT, x::faultPosition);
        Check.orderRefused(x, "drop 0", 0, 2, 0);
        Check.thrown("faultPosition", Check.NO_ELEMENT, x::faultPosition);
        Check.fault(x, "tide", 4);
        Check.runs(x, "tide 1", 1);
        Check.due("fault behind a text without", x.faultPosition(), 4);
        x.save();
        Check.fault(x, "drop", 4);
        Check.fault(x, "dr?", 2);
        x.undo();
        Check.due("fault behind undo", x.faultPosition(), 2);
        x.restore();
        Check.due("fault behind restore", x.faultPosition(), 2);
    }

    private static void reasonsAreKept() {
        NetScript x = new NetScript();
        for (int i = 0; i < 4; i++) {
            boolean isBehind = i % 2 == 1;
            boolean isDetail = i / 2 == 1;
            Check.thrown("reason", Check.NO_ELEMENT, () -> x.reason(isBehind, isDetail));
        }
        x.save();
        Check.refused("tide", x, 3, 7, () -> x.tide(7));
        Check.due("tide", x.tide(1), 0);
        Check.due("reason behind a success", x.reason(false, false), 3);
        Check.orderRefused(x, "tide 2;sink 1=7", 1, 3, 7);
        x.undo();
        Check.due("reason behind undo", x.reason(false, false), 9);
        x.restore();
        Check.due("reason behind restore", x.reason(true, true), 7);
        Check.fault(x, "?", 0);
        Check.due("reason behind a fault", x.reason(true, false), 3);
        Check.thrown("kindOf", Check.NO_INDEX, () -> x.kindOf(9, 9));
        Check.due("reason behind an exception", x.reason(false, true), 1);
        Check.refused("drop", x, 2, 5, () -> x.drop(5));
    }
}

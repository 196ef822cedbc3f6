import java.util.function.Consumer;

/** Texts at their edges: the tape, the form of orders, fault positions, and what run does. One test a sentence. */
public final class BoundaryTextsTest {
    private static final String[] SHORTEST = {
        "knot 0 1=1", "tear 0 0-1", "mend 0 0-1/0", "editor 7", "tide 1", "sink 1=1", "note 0 0", "drop 0"
    };
    private static final String[] LONGEST = {
        "knot 0 10=1", "tear 0 10-11", "mend 0 10-11/0", "editor 17", "tide 2", "sink 2=2", "note 0 10", "drop 1"
    };
    /** Characters beside those of a text, in it, and those that are these but for higher bits. */
    private static final String CHARACTERS = "/0189:;<=>-., +!?ABDKTabdefghiklmnoprstuvz`{~\t\n"
            + (char) 0 + (char) 127 + (char) 255 + (char) (256 + '1') + (char) (256 + 't') + (char) 65535;

    public static void main(String[] args) {
        theTapeHoldsSixtyCharacters();
        aFullTapeTakesNoMore();
        aTextOfSixtyCharactersIsDone();
        anyCharacterIsTaken();
        theTapeIsEmptyAfterwards();
        noTextIsEmpty();
        aTextIsOneOrderOrMore();
        moreOrdersThanFit();
        eachOrderHasItsForm();
        eachOrderDoesWhatItsMethodDoes();
        aDigitIsFrom0To9();
        aNumberHasOneDigitOrTwo();
        aTextMustNotEndTooEarly();
        theFaultIsAtTheFirstCharacterThatCannotContinue();
        wordsAreLookedAtLetterByLetter();
        eachCharacterAtEachPosition();
        aFaultLeavesAllAsItWas();
        aFaultIsFoundAheadOfWhatIsRefused();
        theFaultReadLastIsKept();
        thereWasNoFault();
        ordersAreDoneAllOrNone();
        ordersSeeWhatIsDoneAheadOfThem();
        aRunIsOneChange();
        eachOrderIsRefusedAsItsMethodIs();
        Check.end();
    }

    private static NetScript withKnots() {
        NetScript x = new NetScript();
        tieKnots(x);
        return x;
    }

    private static void tieKnots(NetScript x) {
        Pasts.tie(x, 0, 1, 0, 10);
        x.editor(50);
        x.tear(0, 0, 1);
        x.tear(0, 10, 11);
        x.knot(1, 5, 1);
        x.note(1, 5);
        x.knot(1, 23, 2);
        x.note(1, 23);
    }

    private static String repeated(String text, int times) {
        StringBuilder all = new StringBuilder();
        for (int i = 0; i < times; i++) {
            all.append(text);
        }
        return all.toString();
    }

    /** The tape holds at most 60 characters; feed returns the new length. */
    private static void theTapeHoldsSixtyCharacters() {
        NetScript x = new NetScript();
        Check.due("tape at first", x.account(11), 0);
        for (int length = 1; length <= 60; length++) {
            Check.due("feed", x.feed('x'), length);
            Check.due("tape", x.account(11), length);
        }
        Check.thrown("feed", Check.NO_STATE, () -> x.feed('x'));
        Check.thrown("feed again", Check.NO_STATE, () -> x.feed('x'));
        Check.due("tape", x.account(11), 60);
    }

    /** Throws IllegalStateException if the tape has 60 characters, and leaves it as it is. */
    private static void aFullTapeTakesNoMore() {
        Pasts.FULL.thrown("feed", Check.NO_STATE, x -> x.feed('1'));
        Pasts.FULL.thrown("feed", Check.NO_STATE, x -> x.feed(';'));
        NetScript x = Pasts.FULL.make();
        Check.due("run of a full tape", x.run(), 8);
        Check.due("feed behind it", x.feed('1'), 1);
    }

    /** Of just as many characters as the tape holds, and of one less. */
    private static void aTextOfSixtyCharactersIsDone() {
        NetScript x = new NetScript();
        String text = "tide 1;tide 2;tide 3;tide 4;tide 3;tide 2;tide 1;knot 2 23=3";
        Check.due("its length", text.length(), 60);
        Check.runs(x, text, 8);
        Check.due("its last order", x.kindOf(2, 23), 3);
        Check.runs(x, "tide 2;tide 3;tide 4;tide 3;tide 2;tide 1;tide 2;knot 2 0=3", 8);
        Check.due("its last order", x.kindOf(2, 0), 3);
        Check.fault(x, "tide 1;tide 2;tide 3;tide 4;tide 3;tide 2;tide 1;knot 2 23=;", 59);
        Check.fault(x, repeated("drop 0;", 8) + "drop", 60);
    }

    /** Any character. */
    private static void anyCharacterIsTaken() {
        NetScript x = new NetScript();
        char[] characters = {0, ' ', '~', 127, 128, 255, 256, 0xD800, 0xFFFF};
        for (int i = 0; i < characters.length; i++) {
            Check.due("feed", x.feed(characters[i]), i + 1);
        }
        for (char character : characters) {
            Check.fault(new NetScript(), "" + character, 0);
            Check.fault(new NetScript(), "tide 1" + character, 6);
        }
    }

    /** The tape is empty afterwards, also if an exception is thrown. */
    private static void theTapeIsEmptyAfterwards() {
        NetScript x = new NetScript();
        Check.runs(x, "tide 1", 1);
        Check.fault(x, "", 0);
        Check.fault(x, "tide 2;", 7);
        Check.fault(x, "", 0);
        Check.orderRefused(x, "tide 1", 0, 4, 1);
        Check.fault(x, "", 0);
        Check.fault(x, repeated("x", 60), 0);
        Check.due("feed", x.feed('t'), 1);
        Check.thrown("run", Check.NO_ARGUMENT, x::run);
        Check.due("the shorter text alone is read", x.faultPosition(), 1);
    }

    /** text = order { ";" order}: an empty tape is none, and ends too early at 0. */
    private static void noTextIsEmpty() {
        NetScript x = new NetScript();
        Check.thrown("run", Check.NO_ARGUMENT, x::run);
        Check.due("fault", x.faultPosition(), 0);
        Check.due("changes", x.account(12), 0);
        Past empty = new Past(y -> y.knot(0, 0, 1));
        empty.alike("run of an empty tape", empty.then(NetScript::run), Past.FAULT);
    }

    /** order { ";" order}: one, two and eight, with a semicolon between them and no other one. */
    private static void aTextIsOneOrderOrMore() {
        NetScript x = new NetScript();
        Check.runs(x, "tide 1", 1);
        Check.runs(x, "tide 2;tide 1", 2);
        Check.runs(x, "tide 2;tide 1;tide 2;tide 1;tide 2;tide 1;tide 2", 7);
        Check.runs(x, "tide 1;tide 2;tide 1;tide 2;tide 1;tide 2;tide 1;tide 2", 8);
        Check.fault(x, ";", 0);
        Check.fault(x, "tide 1;", 7);
        Check.fault(x, ";tide 1", 0);
        Check.fault(x, "tide 1;;tide 2", 7);
        Check.fault(x, "tide 1tide 2", 6);
        Check.fault(x, "tide 1 ;tide 2", 6);
        Check.fault(x, "tide 1; tide 2", 7);
        Check.fault(x, repeated("tide 1;", 8), 56);
        Check.due("tide", x.account(7), 2);
    }

    /** A ninth order can begin, but never end. */
    private static void moreOrdersThanFit() {
        for (String start : new String[] {"k", "kn", "kno", "knot", "tear", "mend", "edit", "tide", "sink", "note", "drop"}) {
            NetScript x = new NetScript();
            Check.fault(x, repeated("tide 1;", 8) + start, 56 + start.length());
        }
        Check.fault(new NetScript(), repeated("tide 1;", 8) + "tido", 59);
        Check.fault(new NetScript(), repeated("tide 1;", 8) + "x", 56);
        Check.fault(new NetScript(), repeated("tide 1;", 8) + ";", 56);
    }

    /** The shortest and the longest text of each order is done, and tells what its method would. */
    private static void eachOrderHasItsForm() {
        NetScript x = withKnots();
        for (String order : SHORTEST) {
            if (!order.equals("note 0 0") && !order.equals("tear 0 0-1")) {
                Check.runs(x, order, 1);
            }
        }
        Check.runs(x, "tear 0 0-1", 1);
        Check.runs(x, "note 0 0", 1);
        Check.due("knot", x.kindOf(0, 1), 1);
        Check.due("tear", x.isTorn(0, 0, 1), true);
        Check.due("mend", x.editorOf(0, 1), 1);
        Check.due("editor", x.editorOf(1, 0), 7);
        Check.due("tide", x.account(7), 1);
        Check.due("sink", x.netOf(1, 3), 1);
        Check.due("drop", x.noteOf(0, 1), 23);
        Check.due("note", x.noteOf(1, 1), 0);
        NetScript y = withKnots();
        y.knot(0, 10, 2);
        for (int i = LONGEST.length - 1; i >= 0; i--) {
            if (i != 1) {
                Check.runs(y, LONGEST[i], 1);
            }
        }
        Check.runs(y, LONGEST[1], 1);
        Check.due("knot", y.kindOf(0, 10), 1);
        Check.due("tear", y.isTorn(0, 10, 11), true);
        Check.due("mend", y.editorOf(0, 1), 1);
        Check.due("editor", y.editorOf(1, 0), 17);
        Check.due("tide", y.account(7), 2);
        Check.due("sink", y.netOf(2, 3), 2);
        Check.due("notes", y.account(5), 2);
        Check.due("note", y.noteOf(1, 1), 10);
    }

    /** The orders tie a knot, or untie one; tear; mend; let an editor come; tell the tide, a draught; note; and drop. */
    private static void eachOrderDoesWhatItsMethodDoes() {
        Past before = new Past(x -> {
            tieKnots(x);
            x.editor(20);
            x.editor(30);
            Check.runs(x, "tear 2 16-17;tear 2 16-22;mend 2 22-16/2", 3);
        });
        doneAlike(before, "knot 2 03=3", x -> x.knot(2, 3, 3));
        doneAlike(before, "knot 1 23=0", x -> x.knot(1, 23, 0));
        doneAlike(before, "tear 1 11-05", x -> x.tear(1, 11, 5));
        doneAlike(before, "mend 0 0-1/0", x -> x.mend(0, 0, 1, 0));
        doneAlike(before, "mend 0 11-10/1", x -> x.mend(0, 11, 10, 1));
        doneAlike(before, "mend 2 17-16/2", x -> x.mend(2, 17, 16, 2));
        doneAlike(before, "editor 00", x -> x.editor(0));
        doneAlike(before, "editor 99", x -> x.editor(99));
        doneAlike(before, "tide 1", x -> x.tide(1));
        doneAlike(before, "tide 4", x -> x.tide(4));
        doneAlike(before, "sink 2=1", x -> x.sink(2, 1));
        doneAlike(before, "sink 0=4", x -> x.sink(0, 4));
        doneAlike(before, "note 0 10", x -> x.note(0, 10));
        doneAlike(before, "drop 0", x -> x.drop(0));
        doneAlike(before, "drop 1", x -> x.drop(1));
        NetScript x = before.make();
        x.editor(7);
        Check.runs(x, "mend 0 1-0/3", 1);
        Check.due("twine of the last editor", x.editorOf(3, 0), 6);
    }

    private static void doneAlike(Past before, String order, Consumer<NetScript> call) {
        before.then(call).alike("behind " + order, before.then(x -> Check.runs(x, order, 1)));
    }

    /** A digit: '0' and '9' are, the characters beside them are not. */
    private static void aDigitIsFrom0To9() {
        NetScript x = new NetScript();
        Check.orderRefused(x, "drop 0", 0, 2, 0);
        Check.orderRefused(x, "drop 9", 0, 2, 9);
        Check.fault(x, "drop /", 5);
        Check.fault(x, "drop :", 5);
        Check.orderRefused(x, "knot 9 0=9", 0, 2, 9);
        Check.orderRefused(x, "knot 0 0=9", 0, 3, 9);
        Check.fault(x, "knot / 0=9", 5);
        Check.fault(x, "knot 0 :=9", 7);
        Check.fault(x, "knot 0 0=:", 9);
        Check.fault(x, "editor 9/", 8);
        Check.fault(x, "editor 9:", 8);
        Check.due("editors", x.account(3), 0);
        Check.runs(x, "editor 90;editor 09", 2);
        Check.due("twine", x.editorOf(0, 0), 90);
        Check.due("twine", x.editorOf(1, 0), 9);
    }

    /** number = digit [ digit ]: none and three are too few and too many; a digit alone takes no second one. */
    private static void aNumberHasOneDigitOrTwo() {
        NetScript x = new NetScript();
        Check.runs(x, "editor 0;editor 00;editor 9;editor 99", 4);
        int[] due = {0, 0, 9, 99};
        for (int i = 0; i < 4; i++) {
            Check.due("twine", x.editorOf(i, 0), due[i]);
        }
        Check.fault(x, "editor ", 7);
        Check.fault(x, "editor 100", 9);
        Check.fault(x, "editor 000", 9);
        Check.runs(x, "knot 0 2=1;knot 0 02=2;knot 0 23=1", 3);
        Check.due("knots", x.netOf(0, 0), 2);
        Check.due("kind", x.kindOf(0, 2), 2);
        Check.fault(x, "knot 0 =1", 7);
        Check.fault(x, "knot 0 002=1", 9);
        Check.fault(x, "knot 00 2=1", 6);
        Check.fault(x, "knot 0 2=01", 10);
        Check.orderRefused(x, "knot 0 24=1", 0, 2, 24);
        Check.orderRefused(x, "knot 0 99=1", 0, 2, 99);
        Check.runs(x, "tear 2 03-9;tear 2 9-08;tear 2 22-23", 3);
        Check.due("torn", x.netOf(2, 2), 3);
        Check.fault(x, "tear 2 -9", 7);
        Check.fault(x, "tear 2 3-", 9);
        Check.fault(x, "tear 2 003-9", 9);
        Check.fault(x, "tear 2 3-009", 11);
        Check.fault(x, "mend 0 0-001/0", 11);
        Check.fault(x, "mend 0 0-1/", 11);
        Check.fault(x, "mend 0 0-1/00", 12);
        Check.fault(x, "note 0 002", 9);
        Check.fault(x, "note 0 ", 7);
        Check.fault(x, "tide 01", 6);
        Check.fault(x, "sink 0=01", 8);
        Check.fault(x, "sink 00=1", 6);
        Check.fault(x, "drop 00", 6);
    }

    /** Or its length if it ends too early. */
    private static void aTextMustNotEndTooEarly() {
        for (String[] orders : new String[][] {SHORTEST, LONGEST}) {
            for (String order : orders) {
                for (int end = 0; end < order.length(); end++) {
                    String start = order.substring(0, end);
                    boolean endsInANumber = start.equals("editor 1") || start.equals("note 0 1")
                            || start.equals("tear 0 10-1");
                    if (!endsInANumber) {
                        Check.fault(new NetScript(), start, end);
                        Check.fault(new NetScript(), "tide 1;" + start, 7 + end);
                    }
                }
            }
        }
    }

    /** The first character that cannot continue such a text, wherever it stands. */
    private static void theFaultIsAtTheFirstCharacterThatCannotContinue() {
        for (String[] orders : new String[][] {SHORTEST, LONGEST}) {
            for (String order : orders) {
                for (int at = 0; at <= order.length(); at++) {
                    String start = order.substring(0, at);
                    Check.fault(new NetScript(), start + "?", at);
                    Check.fault(new NetScript(), start + "?" + order.substring(at), at);
                    Check.fault(new NetScript(), "tide 1;" + start + "?;tide ?", 7 + at);
                }
            }
        }
    }

    /** Words are looked at letter by letter: those that begin alike, and those of another order. */
    private static void wordsAreLookedAtLetterByLetter() {
        String[] texts = {
            "tiar", "tede", "teda", "tride", "kear", "mide", "edit 1", "editors", "sinkt", "dropped", "nkot", "knoot",
            "KNOT", "Knot", "kn ot", "tide1", "tide  1", "tear0", "knot=", "note;", "no", "d", "te", "ti", "t", "se"
        };
        int[] faults = {2, 2, 2, 1, 1, 1, 4, 6, 4, 4, 1, 3, 0, 0, 2, 4, 5, 4, 4, 4, 2, 1, 2, 2, 1, 1};
        for (int i = 0; i < texts.length; i++) {
            Check.fault(new NetScript(), texts[i], faults[i]);
            Check.fault(new NetScript(), "drop 0;" + texts[i], 7 + faults[i]);
        }
    }

    /** All characters that matter at each position of each order, as the model reads them. */
    private static void eachCharacterAtEachPosition() {
        for (String[] orders : new String[][] {SHORTEST, LONGEST}) {
            for (String order : orders) {
                for (int at = 0; at <= order.length(); at++) {
                    for (int i = 0; i < CHARACTERS.length(); i++) {
                        String rest = at < order.length() ? order.substring(at + 1) : "";
                        readAlike(order.substring(0, at) + CHARACTERS.charAt(i) + rest);
                    }
                }
            }
        }
    }

    private static void readAlike(String text) {
        NetScript x = new NetScript();
        Model model = new Model();
        Check.feed(x, text);
        for (int i = 0; i < text.length(); i++) {
            model.feed(text.charAt(i));
        }
        Check.due("run of " + text, Check.answer(x::run), Check.answer(model::run));
        Check.due("fault of " + text, Check.answer(x::faultPosition), Check.answer(model::faultPosition));
        Check.due("reason of " + text,
                Check.answer(() -> x.reason(true, true)), Check.answer(() -> model.reason(true, true)));
    }

    /** Throws IllegalArgumentException if the text has a fault: nothing else is changed, and no reason kept. */
    private static void aFaultLeavesAllAsItWas() {
        Past emptied = Pasts.RICH.then(NetScript::run).then(NetScript::undo);
        Past untouched = emptied.then(x -> Check.fault(x, "knot 0 3=1;tear 0 6-7;tide 4;drop 0;", 36));
        emptied.alike("a fault at the end", untouched, Past.FAULT);
        emptied.alike("a fault at the start", emptied.then(x -> Check.fault(x, "?", 0)), Past.FAULT);
        Check.thrown("no reason is kept by it", Check.NO_ELEMENT, () -> {
            NetScript x = new NetScript();
            Check.fault(x, "drop 0;", 7);
            x.reason(false, false);
        });
    }

    /** The exceptions are checked in the order in which they are listed: a fault behind a refused order. */
    private static void aFaultIsFoundAheadOfWhatIsRefused() {
        NetScript x = new NetScript();
        Check.fault(x, "drop 9;tide 9;x", 14);
        Check.fault(x, "tide 0;", 7);
        Check.thrown("reason", Check.NO_ELEMENT, () -> x.reason(false, false));
        Check.orderRefused(x, "tide 1;tide 0;drop 9", 2, 2, 9);
        Check.fault(x, "tide 0?", 6);
        Check.due("reason kept before", x.reason(true, true), 9);
    }

    /** The text that was read last with a fault: not by one without, nor by one that is refused. */
    private static void theFaultReadLastIsKept() {
        NetScript x = new NetScript();
        Check.fault(x, "tide", 4);
        Check.runs(x, "tide 1", 1);
        Check.due("behind a text without", x.faultPosition(), 4);
        Check.orderRefused(x, "tide 1", 0, 4, 1);
        Check.due("behind a refused text", x.faultPosition(), 4);
        x.feed('x');
        Check.due("behind a character", x.faultPosition(), 4);
        Check.thrown("run", Check.NO_ARGUMENT, x::run);
        Check.due("the position 0", x.faultPosition(), 0);
        Check.fault(x, repeated("tide 1;", 8) + "tide", 60);
        Check.due("the position 60", x.faultPosition(), 60);
        x.save();
        x.undo();
        x.restore();
        Check.due("behind undo and restore", x.faultPosition(), 60);
    }

    /** Throws NoSuchElementException if there was none. */
    private static void thereWasNoFault() {
        Pasts.NEW.thrown("fault at first", Check.NO_ELEMENT, NetScript::faultPosition);
        Pasts.FULL.thrown("fault without a run", Check.NO_ELEMENT, NetScript::faultPosition);
        Pasts.FULL.then(NetScript::run).thrown("fault of a good text", Check.NO_ELEMENT, NetScript::faultPosition);
        NetScript x = new NetScript();
        Check.orderRefused(x, "tide 5", 0, 3, 5);
        Check.thrown("fault of a refused text", Check.NO_ELEMENT, x::faultPosition);
    }

    /** Does its orders, all or none: the first, one between and the last is refused. */
    private static void ordersAreDoneAllOrNone() {
        Past emptied = Pasts.RICH.then(NetScript::run);
        String[] texts = {
            "drop 7;knot 0 3=1;tear 0 6-7;mend 0 0-1/0;editor 5",
            "knot 0 0=3;drop 0;sink 1=1;knot 3 0=1;tide 4",
            "mend 0 0-1/2;tear 0 20-21;tear 0 0-6;mend 0 0-6/1",
            "editor 3;sink 1=4;note 0 12;note 0 7;drop 0;editor 4",
            "tide 4;tide 1;tide 2;tide 1;tide 2;tide 1;tide 2;tide 5",
        };
        int[][] due = {{0, 2, 7}, {3, 2, 3}, {3, 6, 0}, {3, 8, 3}, {7, 3, 5}};
        for (int i = 0; i < texts.length; i++) {
            String text = texts[i];
            Check.orderRefused(emptied.make(), text, due[i][0], due[i][1], due[i][2]);
            Past refused = emptied.then(x -> {
                Check.feed(x, text);
                x.run();
            });
            emptied.alike("behind " + text, refused, Past.REASON);
        }
    }

    /** An order that could not be done at first can be behind another, and the other way round. */
    private static void ordersSeeWhatIsDoneAheadOfThem() {
        NetScript x = new NetScript();
        Check.runs(x, "knot 0 0=1;note 0 0;drop 0", 3);
        Check.runs(x, "editor 1;tear 0 0-1;mend 0 0-1/0", 3);
        Check.runs(x, "tide 1;tide 0", 2);
        Check.runs(x, "editor 1;editor 2;editor 3", 3);
        Check.orderRefused(x, "editor 4", 0, 1, 4);
        Check.runs(x, "note 0 0;knot 0 0=2;note 0 0;knot 0 0=3;note 0 0", 5);
        Check.runs(x, "knot 0 0=2;knot 1 1=1;note 1 1;knot 1 1=2;note 1 1", 5);
        Check.orderRefused(x, "note 0 0", 0, 8, 1);
        Check.orderRefused(x, "knot 2 2=1;note 2 2;knot 2 3=1;note 2 2", 3, 1, 6);
        Check.runs(x, "drop 4;knot 2 2=1;note 2 2;drop 0;drop 0;drop 0", 6);
        Check.due("notes", x.account(5), 2);
    }

    /** The successful calls of run are changes, each of them one, whatever it does. */
    private static void aRunIsOneChange() {
        Past before = new Past(x -> {
            x.knot(0, 0, 1);
            x.editor(9);
            x.note(0, 0);
        });
        Past undone = before.then(x -> {
            Check.runs(x, "tear 0 0-1;mend 0 0-1/0;drop 0;knot 0 0=0;tide 4;sink 0=4", 6);
            Check.due("changes", x.account(12), 4);
            Check.due("undo", x.undo(), 3);
        });
        before.alike("behind a run that is undone", undone);
        Past without = before.then(x -> {
            Check.runs(x, "tide 1;tide 0", 2);
            Check.due("changes, though all is as it was", x.account(12), 4);
            Check.due("undo", x.undo(), 3);
        });
        before.alike("behind a run that is undone", without);
    }

    /** An order is refused for what its method is: each reason that it can have. */
    private static void eachOrderIsRefusedAsItsMethodIs() {
        String[] orders = {
            "knot 3 24=4", "knot 2 24=4", "knot 2 23=4", "knot 0 10=1", "knot 2 23=0",
            "tear 3 24-24", "tear 0 24-25", "tear 0 23-24", "tear 0 5-6", "tear 0 0-0", "tear 0 1-0",
            "mend 3 24-25/4", "mend 0 24-25/4", "mend 0 0-24/4", "mend 0 0-0/1", "mend 0 0-0/0", "mend 0 8-2/0",
            "tide 5", "tide 0", "sink 3=5", "sink 2=5", "sink 2=0",
            "note 3 24", "note 2 24", "note 2 23", "note 1 23", "drop 2"
        };
        int[][] due = {
            {2, 3}, {2, 24}, {3, 4}, {4, 1}, {4, 0},
            {2, 3}, {2, 24}, {2, 24}, {5, 6}, {5, 0}, {4, 1},
            {2, 3}, {2, 24}, {2, 24}, {2, 1}, {5, 0}, {4, 8},
            {3, 5}, {4, 0}, {2, 3}, {3, 5}, {4, 0},
            {2, 3}, {2, 24}, {7, 23}, {8, 1}, {2, 2}
        };
        for (int i = 0; i < orders.length; i++) {
            Check.orderRefused(withKnots(), orders[i], 0, due[i][0], due[i][1]);
            Check.orderRefused(withKnots(), "knot 2 0=1;" + orders[i] + ";tide 9", 1, due[i][0], due[i][1]);
        }
        NetScript x = withKnots();
        Check.orderRefused(x, "editor 1;tear 0 0-6;mend 0 0-6/1", 2, 6, 1);
        Check.orderRefused(x, "editor 1;editor 1;editor 1;editor 1", 3, 1, 4);
    }
}

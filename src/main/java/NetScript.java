import java.util.NoSuchElementException;

/**
 * Fishing nets with knots as a script, as ../shared/DOC.md promises it call by call.
 *
 * A set of places is held as an int, in which the bit p stands for the place p. A set of strings is
 * held as the set of their lesser places, one set for the strings in a line and one for those
 * between two lines. So no place is ever an array's index, but in {@link Parts}.
 */
public final class NetScript {
    private static final int NETS = 3;
    private static final int LINES = 4;
    private static final int COLUMNS = 6;
    private static final int PLACES = 24;
    private static final int KINDS = 3;
    private static final int MOST_WATER = 4;
    private static final int MOST_EDITORS = 4;
    private static final int MOST_TWINE = 99;
    private static final int MOST_NOTES = 6;
    private static final int MOST_UNDONE = 8;
    private static final int MOST_CHARACTERS = 60;
    /** A chapter of all places with "!" behind it. */
    private static final int LONGEST_LINE = 25;

    /** From the lesser place of a string to its greater one. */
    private static final int ACROSS = 1;
    private static final int DOWN = 6;
    private static final int TWINE_ACROSS = 1;
    private static final int TWINE_DOWN = 2;
    /** The lesser places of all strings in a line, which are all but those of the last column. */
    private static final int STRINGS_ACROSS = 0x7DF7DF;
    /** The lesser places of all strings between two lines, which are all but those of the last line. */
    private static final int STRINGS_DOWN = 0x03FFFF;

    private static final int NOT_REFUSED = 0;
    private static final int FULL = 1;
    private static final int NO_SUCH = 2;
    private static final int OUT_OF_RANGE = 3;
    private static final int ALREADY_SO = 4;
    private static final int NOT_BESIDE = 5;
    private static final int TOO_LITTLE_TWINE = 6;
    private static final int NO_KNOT = 7;
    private static final int NOTED_ALREADY = 8;
    private static final int ORDER_REFUSED = 9;

    private static final int ORDER_KNOT = 0;
    private static final int ORDER_TEAR = 1;
    private static final int ORDER_MEND = 2;
    private static final int ORDER_EDITOR = 3;
    private static final int ORDER_TIDE = 4;
    private static final int ORDER_SINK = 5;
    private static final int ORDER_NOTE = 6;
    private static final int ORDER_DROP = 7;
    private static final int ORDER_WORDS = ORDER_DROP + 1;
    /** The shortest orders, as "tide 4;", fit eight times, and a ninth can at least begin. */
    private static final int MOST_ORDERS = 9;
    private static final int MOST_NUMBERS = 4;

    /** Stands for a place, a position or an amount that is not there. */
    private static final int NONE = -1;

    private final State now = new State();
    private final State beforeRun = new State();
    private final State saved = new State();
    private boolean isSaved = false;
    private final History history = new History();
    private final Parts parts = new Parts();
    private final Script script = new Script();
    private final Line written = new Line();
    private final Refusal refusal = new Refusal();
    private int foundDetail = 0;
    private int lastFault = NONE;

    public NetScript() {
    }

    // ---- knots and strings

    public int knot(int net, int place, int kind) throws UnsupportedOperationException {
        if (keepsReason(reasonAgainstKnot(net, place, kind))) {
            throw new UnsupportedOperationException("the knot is refused");
        }
        history.push(now);
        int kindBefore = now.netNumbered(net).kindAt(place);
        now.netNumbered(net).tie(place, kind);
        return kindBefore;
    }

    public int tear(int net, int one, int other) throws UnsupportedOperationException {
        if (keepsReason(reasonAgainstTear(net, one, other))) {
            throw new UnsupportedOperationException("the tear is refused");
        }
        history.push(now);
        now.tearString(net, one, other);
        return now.netNumbered(net).countChapters();
    }

    public int mend(int net, int one, int other, int editor) throws UnsupportedOperationException {
        if (keepsReason(reasonAgainstMend(net, one, other, editor))) {
            throw new UnsupportedOperationException("the mending is refused");
        }
        history.push(now);
        now.mendString(net, one, other, editor);
        return now.editorNumbered(editor).twine;
    }

    // ---- editors, water, notes

    public int editor(int twine) throws UnsupportedOperationException {
        if (keepsReason(reasonAgainstEditor(twine))) {
            throw new UnsupportedOperationException("the editor is refused");
        }
        history.push(now);
        now.addEditor(twine);
        return now.editorCount - 1;
    }

    public int tide(int level) throws UnsupportedOperationException {
        if (keepsReason(reasonAgainstTide(level))) {
            throw new UnsupportedOperationException("the tide is refused");
        }
        history.push(now);
        now.tide = level;
        return now.countReadable();
    }

    public int sink(int net, int draught) throws UnsupportedOperationException {
        if (keepsReason(reasonAgainstSink(net, draught))) {
            throw new UnsupportedOperationException("the draught is refused");
        }
        history.push(now);
        now.netNumbered(net).draught = draught;
        return now.linesUnderWater(net);
    }

    public int note(int net, int place) throws UnsupportedOperationException {
        if (keepsReason(reasonAgainstNote(net, place))) {
            throw new UnsupportedOperationException("the note is refused");
        }
        history.push(now);
        now.addNote(net, place);
        return now.noteCount - 1;
    }

    public int drop(int note) throws UnsupportedOperationException {
        if (keepsReason(reasonAgainstDrop(note))) {
            throw new UnsupportedOperationException("the drop is refused");
        }
        history.push(now);
        now.removeNote(note);
        return now.noteCount;
    }

    // ---- what there is

    public int kindOf(int net, int place) throws IndexOutOfBoundsException {
        if (!isNet(net) || !isPlace(place)) {
            throw new IndexOutOfBoundsException("no such net or place");
        }
        return now.netNumbered(net).kindAt(place);
    }

    public boolean isTorn(int net, int one, int other)
            throws IndexOutOfBoundsException, NoSuchElementException {
        if (!isNet(net) || !isPlace(one) || !isPlace(other)) {
            throw new IndexOutOfBoundsException("no such net or place");
        }
        if (!areBeside(one, other)) {
            throw new NoSuchElementException("the places are not beside each other");
        }
        return now.netNumbered(net).isTornBetween(one, other);
    }

    public int netOf(int net, int what) throws IndexOutOfBoundsException, IllegalArgumentException {
        if (!isNet(net)) {
            throw new IndexOutOfBoundsException("no such net");
        }
        Net asked = now.netNumbered(net);
        switch (what) {
            case 0:
                return Integer.bitCount(asked.knots());
            case 1:
                return Integer.bitCount(asked.knots() & now.dryPlaces(net));
            case 2:
                return asked.countTorn();
            case 3:
                return asked.draught;
            case 4:
                return now.linesUnderWater(net);
            case 5:
                return Integer.bitCount(asked.greatestChapter(asked.knots()));
            case 6:
                return asked.twineForAll();
            default:
                throw new IllegalArgumentException("what is out of range");
        }
    }

    public int chapters(int net) throws IndexOutOfBoundsException {
        if (!isNet(net)) {
            throw new IndexOutOfBoundsException("no such net");
        }
        return now.netNumbered(net).countChapters();
    }

    public int chaptersAgain(int net) throws IndexOutOfBoundsException {
        if (!isNet(net)) {
            throw new IndexOutOfBoundsException("no such net");
        }
        return now.netNumbered(net).countChaptersByStrings(parts);
    }

    public int chapterOf(int net, int place, int what)
            throws IndexOutOfBoundsException, IllegalArgumentException, NoSuchElementException {
        if (!isNet(net) || !isPlace(place)) {
            throw new IndexOutOfBoundsException("no such net or place");
        }
        if (what < 0 || what > 3) {
            throw new IllegalArgumentException("what is out of range");
        }
        int chapter = now.netNumbered(net).chapterAt(place);
        if (chapter == 0) {
            throw new NoSuchElementException("there is no knot");
        }
        switch (what) {
            case 0:
                return lowestPlace(chapter);
            case 1:
                return Integer.bitCount(chapter);
            case 2:
                return Integer.bitCount(chapter & now.dryPlaces(net));
            default:
                return now.netNumbered(net).countWholeWithin(chapter);
        }
    }

    public int noteOf(int note, int what) throws IndexOutOfBoundsException, IllegalArgumentException {
        if (!now.hasNote(note)) {
            throw new IndexOutOfBoundsException("no such note");
        }
        Note asked = now.noteNumbered(note);
        switch (what) {
            case 0:
                return asked.net;
            case 1:
                return lowestPlace(asked.places());
            case 2:
                return Integer.bitCount(asked.places());
            case 3:
                return now.readsAsNoted(asked) ? 1 : 0;
            default:
                throw new IllegalArgumentException("what is out of range");
        }
    }

    public int least(int note) throws IndexOutOfBoundsException, NoSuchElementException {
        if (!now.hasNote(note)) {
            throw new IndexOutOfBoundsException("no such note");
        }
        Note asked = now.noteNumbered(note);
        if (!now.canBeMended(asked)) {
            throw new NoSuchElementException("no twine would do");
        }
        return now.leastByStrings(asked, parts);
    }

    public int leastAgain(int note) throws IndexOutOfBoundsException, NoSuchElementException {
        if (!now.hasNote(note)) {
            throw new IndexOutOfBoundsException("no such note");
        }
        Note asked = now.noteNumbered(note);
        if (!now.canBeMended(asked)) {
            throw new NoSuchElementException("no twine would do");
        }
        return now.leastByPlaces(asked);
    }

    public int bestMend(int net, boolean isGreater)
            throws IndexOutOfBoundsException, NoSuchElementException {
        if (!isNet(net)) {
            throw new IndexOutOfBoundsException("no such net");
        }
        int end = now.netNumbered(net).bestTornString(isGreater);
        if (end == NONE) {
            throw new NoSuchElementException("no mending joins two chapters");
        }
        return end;
    }

    public int ranked(int net, int place) throws IndexOutOfBoundsException, NoSuchElementException {
        if (!isNet(net)) {
            throw new IndexOutOfBoundsException("no such net");
        }
        int chapter = now.netNumbered(net).chapterRanked(place);
        if (chapter == 0) {
            throw new NoSuchElementException("no such place in the order");
        }
        return lowestPlace(chapter);
    }

    public int editorOf(int editor, int what)
            throws IndexOutOfBoundsException, IllegalArgumentException {
        if (!now.hasEditor(editor)) {
            throw new IndexOutOfBoundsException("no such editor");
        }
        switch (what) {
            case 0:
                return now.editorNumbered(editor).twine;
            case 1:
                return now.editorNumbered(editor).mended;
            default:
                throw new IllegalArgumentException("what is out of range");
        }
    }

    // ---- texts, lines, accounts

    public int feed(char character) throws IllegalStateException {
        if (script.isFull()) {
            throw new IllegalStateException("the tape is full");
        }
        script.append(character);
        return script.length;
    }

    public int run() throws IllegalArgumentException, UnsupportedOperationException {
        int fault = script.findFault();
        script.clear();
        if (fault != NONE) {
            lastFault = fault;
            throw new IllegalArgumentException("the text has a fault");
        }
        beforeRun.copyFrom(now);
        for (int order = 0; order < script.orderCount; order++) {
            int reason = reasonAgainstOrder(order);
            if (reason != NOT_REFUSED) {
                now.copyFrom(beforeRun);
                refusal.keepOrder(order, reason, foundDetail);
                throw new UnsupportedOperationException("an order is refused");
            }
            doOrder(order);
        }
        history.push(beforeRun);
        return script.orderCount;
    }

    public int faultPosition() throws NoSuchElementException {
        if (lastFault == NONE) {
            throw new NoSuchElementException("no text had a fault");
        }
        return lastFault;
    }

    public int reason(boolean isBehind, boolean isDetail) throws NoSuchElementException {
        if (refusal.reason == NOT_REFUSED) {
            throw new NoSuchElementException("nothing was refused");
        }
        if (isBehind && refusal.reason != ORDER_REFUSED) {
            throw new NoSuchElementException("no reason stands behind");
        }
        if (isBehind) {
            return isDetail ? refusal.detailBehind : refusal.reasonBehind;
        }
        return isDetail ? refusal.detail : refusal.reason;
    }

    public int line(int net, int number) throws IndexOutOfBoundsException {
        if (!isNet(net) || number < 0 || number >= LINES) {
            throw new IndexOutOfBoundsException("no such net or line");
        }
        written.clear();
        if (number >= LINES - now.linesUnderWater(net)) {
            written.append('~');
        }
        now.netNumbered(net).writeLine(number, written);
        return written.length;
    }

    public int chapterLine(int net, int place)
            throws IndexOutOfBoundsException, NoSuchElementException {
        if (!isNet(net) || !isPlace(place)) {
            throw new IndexOutOfBoundsException("no such net or place");
        }
        Net asked = now.netNumbered(net);
        int chapter = asked.chapterAt(place);
        if (chapter == 0) {
            throw new NoSuchElementException("there is no knot");
        }
        written.clear();
        written.appendKnots(asked.oddKinds & chapter, asked.highKinds & chapter);
        return written.length;
    }

    public int noteLine(int note) throws IndexOutOfBoundsException {
        if (!now.hasNote(note)) {
            throw new IndexOutOfBoundsException("no such note");
        }
        Note asked = now.noteNumbered(note);
        written.clear();
        written.appendKnots(asked.oddKinds, asked.highKinds);
        if (!now.readsAsNoted(asked)) {
            written.append('!');
        }
        return written.length;
    }

    public char character(int index) throws IndexOutOfBoundsException {
        if (!written.hasIndex(index)) {
            throw new IndexOutOfBoundsException("no such index");
        }
        return written.at(index);
    }

    public double meanKnots() throws ArithmeticException {
        int chapters = now.countAllChapters();
        if (chapters == 0) {
            throw new ArithmeticException("there are no chapters");
        }
        return (double) now.countKnots() / (double) chapters;
    }

    public float readShare() throws ArithmeticException {
        int knots = now.countKnots();
        if (knots == 0) {
            throw new ArithmeticException("there are no knots");
        }
        return (float) now.countReadable() / (float) knots;
    }

    public int account(int what) throws IllegalArgumentException {
        switch (what) {
            case 0:
                return now.countKnots();
            case 1:
                return now.countAllChapters();
            case 2:
                return now.countTorn();
            case 3:
                return now.editorCount;
            case 4:
                return now.sumTwine();
            case 5:
                return now.noteCount;
            case 6:
                return now.countAsNoted();
            case 7:
                return now.tide;
            case 8:
                return now.tornSoFar;
            case 9:
                return now.mendedSoFar;
            case 10:
                return now.twineUsed;
            case 11:
                return script.length;
            case 12:
                return history.count;
            default:
                throw new IllegalArgumentException("what is out of range");
        }
    }

    public boolean isBalanced() {
        return now.areChaptersToldAlike(parts)
                && now.areNotesToldAlike(parts)
                && now.tornSoFar == now.countTorn() + now.mendedSoFar;
    }

    // ---- undo and the snapshot

    public int undo() throws IllegalStateException {
        if (history.count == 0) {
            throw new IllegalStateException("there is nothing to undo");
        }
        history.popInto(now);
        return history.count;
    }

    public int save() {
        saved.copyFrom(now);
        isSaved = true;
        return saved.noteCount;
    }

    public int restore() throws IllegalStateException {
        if (!isSaved) {
            throw new IllegalStateException("nothing was saved");
        }
        now.copyFrom(saved);
        history.clear();
        return now.noteCount;
    }

    // ---- reasons

    private boolean keepsReason(int reason) {
        if (reason == NOT_REFUSED) {
            return false;
        }
        refusal.keepAlone(reason, foundDetail);
        return true;
    }

    private int found(int reason, int detail) {
        foundDetail = detail;
        return reason;
    }

    private int reasonAgainstKnot(int net, int place, int kind) {
        if (!isNet(net)) {
            return found(NO_SUCH, net);
        }
        if (!isPlace(place)) {
            return found(NO_SUCH, place);
        }
        if (kind < 0 || kind > KINDS) {
            return found(OUT_OF_RANGE, kind);
        }
        if (now.netNumbered(net).kindAt(place) == kind) {
            return found(ALREADY_SO, kind);
        }
        return NOT_REFUSED;
    }

    private int reasonAgainstEnds(int net, int one, int other) {
        if (!isNet(net)) {
            return found(NO_SUCH, net);
        }
        if (!isPlace(one)) {
            return found(NO_SUCH, one);
        }
        if (!isPlace(other)) {
            return found(NO_SUCH, other);
        }
        return NOT_REFUSED;
    }

    private int reasonAgainstString(int net, int one, int other, boolean isToBeTorn) {
        if (!areBeside(one, other)) {
            return found(NOT_BESIDE, other);
        }
        if (now.netNumbered(net).isTornBetween(one, other) != isToBeTorn) {
            return found(ALREADY_SO, Math.max(one, other));
        }
        return NOT_REFUSED;
    }

    private int reasonAgainstTear(int net, int one, int other) {
        int reason = reasonAgainstEnds(net, one, other);
        return reason == NOT_REFUSED ? reasonAgainstString(net, one, other, false) : reason;
    }

    private int reasonAgainstMend(int net, int one, int other, int editor) {
        int reason = reasonAgainstEnds(net, one, other);
        if (reason != NOT_REFUSED) {
            return reason;
        }
        if (!now.hasEditor(editor)) {
            return found(NO_SUCH, editor);
        }
        reason = reasonAgainstString(net, one, other, true);
        if (reason != NOT_REFUSED) {
            return reason;
        }
        int twine = now.editorNumbered(editor).twine;
        return twine < twineFor(one, other) ? found(TOO_LITTLE_TWINE, twine) : NOT_REFUSED;
    }

    private int reasonAgainstEditor(int twine) {
        if (twine < 0 || twine > MOST_TWINE) {
            return found(OUT_OF_RANGE, twine);
        }
        return now.editorCount >= MOST_EDITORS ? found(FULL, now.editorCount) : NOT_REFUSED;
    }

    private int reasonAgainstTide(int level) {
        if (level < 0 || level > MOST_WATER) {
            return found(OUT_OF_RANGE, level);
        }
        return now.tide == level ? found(ALREADY_SO, level) : NOT_REFUSED;
    }

    private int reasonAgainstSink(int net, int draught) {
        if (!isNet(net)) {
            return found(NO_SUCH, net);
        }
        if (draught < 0 || draught > MOST_WATER) {
            return found(OUT_OF_RANGE, draught);
        }
        boolean isSo = now.netNumbered(net).draught == draught;
        return isSo ? found(ALREADY_SO, draught) : NOT_REFUSED;
    }

    private int reasonAgainstNote(int net, int place) {
        if (!isNet(net)) {
            return found(NO_SUCH, net);
        }
        if (!isPlace(place)) {
            return found(NO_SUCH, place);
        }
        int chapter = now.netNumbered(net).chapterAt(place);
        if (chapter == 0) {
            return found(NO_KNOT, place);
        }
        int same = now.lowestNoteOf(net, chapter);
        if (same != NONE) {
            return found(NOTED_ALREADY, same);
        }
        return now.noteCount >= MOST_NOTES ? found(FULL, now.noteCount) : NOT_REFUSED;
    }

    private int reasonAgainstDrop(int note) {
        return now.hasNote(note) ? NOT_REFUSED : found(NO_SUCH, note);
    }

    // ---- orders

    private int reasonAgainstOrder(int order) {
        int first = script.numberAt(order, 0);
        int second = script.numberAt(order, 1);
        int third = script.numberAt(order, 2);
        switch (script.wordAt(order)) {
            case ORDER_KNOT:
                return reasonAgainstKnot(first, second, third);
            case ORDER_TEAR:
                return reasonAgainstTear(first, second, third);
            case ORDER_MEND:
                return reasonAgainstMend(first, second, third, script.numberAt(order, 3));
            case ORDER_EDITOR:
                return reasonAgainstEditor(first);
            case ORDER_TIDE:
                return reasonAgainstTide(first);
            case ORDER_SINK:
                return reasonAgainstSink(first, second);
            case ORDER_NOTE:
                return reasonAgainstNote(first, second);
            default:
                return reasonAgainstDrop(first);
        }
    }

    private void doOrder(int order) {
        int first = script.numberAt(order, 0);
        int second = script.numberAt(order, 1);
        int third = script.numberAt(order, 2);
        switch (script.wordAt(order)) {
            case ORDER_KNOT:
                now.netNumbered(first).tie(second, third);
                break;
            case ORDER_TEAR:
                now.tearString(first, second, third);
                break;
            case ORDER_MEND:
                now.mendString(first, second, third, script.numberAt(order, 3));
                break;
            case ORDER_EDITOR:
                now.addEditor(first);
                break;
            case ORDER_TIDE:
                now.tide = first;
                break;
            case ORDER_SINK:
                now.netNumbered(first).draught = second;
                break;
            case ORDER_NOTE:
                now.addNote(first, second);
                break;
            default:
                now.removeNote(first);
                break;
        }
    }

    // ---- nets, places and strings

    private static boolean isNet(int net) {
        return net >= 0 && net < NETS;
    }

    private static boolean isPlace(int place) {
        return place >= 0 && place < PLACES;
    }

    private static boolean areBeside(int one, int other) {
        if (!isPlace(one) || !isPlace(other)) {
            return false;
        }
        int lesser = Math.min(one, other);
        int step = Math.max(one, other) - lesser;
        return step == ACROSS && isIn(STRINGS_ACROSS, lesser) || step == DOWN;
    }

    private static boolean isAcross(int one, int other) {
        return Math.max(one, other) - Math.min(one, other) == ACROSS;
    }

    private static int twineFor(int one, int other) {
        return isAcross(one, other) ? TWINE_ACROSS : TWINE_DOWN;
    }

    private static boolean isIn(int set, int place) {
        return (set >> place & 1) != 0;
    }

    private static int with(int set, int place, boolean isIn) {
        return isIn ? set | 1 << place : set & ~(1 << place);
    }

    /** The bits below the lowest one are as many as its number. */
    private static int lowestPlace(int set) {
        return Integer.bitCount((set & -set) - 1);
    }

    /** Returns the places to which one of the strings leads from one of the places of a set. */
    private static int beside(int set, int stringsAcross, int stringsDown) {
        return (set & stringsAcross) << ACROSS
                | set >> ACROSS & stringsAcross
                | (set & stringsDown) << DOWN
                | set >> DOWN & stringsDown;
    }

    /** Returns those of the strings that have both ends in a set of places. */
    private static int within(int set, int strings, int step) {
        return set & set >> step & strings;
    }

    /** A net with its boat. */
    private static final class Net {
        /** The places with a knot of the kind 1 or 3. */
        private int oddKinds = 0;
        /** The places with a knot of the kind 2 or 3. */
        private int highKinds = 0;
        private int tornAcross = 0;
        private int tornDown = 0;
        private int draught = 0;

        private void copyFrom(Net other) {
            oddKinds = other.oddKinds;
            highKinds = other.highKinds;
            tornAcross = other.tornAcross;
            tornDown = other.tornDown;
            draught = other.draught;
        }

        private int knots() {
            return oddKinds | highKinds;
        }

        private int kindAt(int place) {
            return (isIn(oddKinds, place) ? 1 : 0) + (isIn(highKinds, place) ? 2 : 0);
        }

        private void tie(int place, int kind) {
            oddKinds = with(oddKinds, place, (kind & 1) != 0);
            highKinds = with(highKinds, place, (kind & 2) != 0);
        }

        private int wholeAcross() {
            return STRINGS_ACROSS & ~tornAcross;
        }

        private int wholeDown() {
            return STRINGS_DOWN & ~tornDown;
        }

        private boolean isTornBetween(int one, int other) {
            return isIn(isAcross(one, other) ? tornAcross : tornDown, Math.min(one, other));
        }

        private void putString(int one, int other, boolean isToBeTorn) {
            int lesser = Math.min(one, other);
            if (isAcross(one, other)) {
                tornAcross = with(tornAcross, lesser, isToBeTorn);
            } else {
                tornDown = with(tornDown, lesser, isToBeTorn);
            }
        }

        private int countTorn() {
            return Integer.bitCount(tornAcross) + Integer.bitCount(tornDown);
        }

        private int twineForAll() {
            return TWINE_ACROSS * Integer.bitCount(tornAcross)
                    + TWINE_DOWN * Integer.bitCount(tornDown);
        }

        private int countWholeWithin(int set) {
            return Integer.bitCount(within(set, wholeAcross(), ACROSS))
                    + Integer.bitCount(within(set, wholeDown(), DOWN));
        }

        /** Returns the places of the chapter with the knot at a place, none without a knot. */
        private int chapterAt(int place) {
            int chapter = knots() & 1 << place;
            for (int step = 0; step < PLACES; step++) {
                int more = chapter | beside(chapter, wholeAcross(), wholeDown()) & knots();
                if (more == chapter) {
                    return chapter;
                }
                chapter = more;
            }
            return chapter;
        }

        private int countChapters() {
            int rest = knots();
            int count = 0;
            while (rest != 0 && count < PLACES) {
                rest &= ~chapterAt(lowestPlace(rest));
                count++;
            }
            return count;
        }

        private int countChaptersByStrings(Parts parts) {
            parts.separate();
            return Integer.bitCount(knots())
                    - parts.joinAll(within(knots(), wholeAcross(), ACROSS), ACROSS)
                    - parts.joinAll(within(knots(), wholeDown(), DOWN), DOWN);
        }

        /** Returns the first of the greatest ones of the chapters whose knots are in a set. */
        private int greatestChapter(int set) {
            int rest = set;
            int greatest = 0;
            for (int seen = 0; seen < PLACES && rest != 0; seen++) {
                int chapter = chapterAt(lowestPlace(rest));
                if (Integer.bitCount(chapter) > Integer.bitCount(greatest)) {
                    greatest = chapter;
                }
                rest &= ~chapter;
            }
            return greatest;
        }

        /** Returns the chapter at a place of the order by knots, none if there is no such place. */
        private int chapterRanked(int rank) {
            if (rank < 0 || rank >= PLACES) {
                return 0;
            }
            int rest = knots();
            for (int before = 0; before < rank; before++) {
                rest &= ~greatestChapter(rest);
            }
            return greatestChapter(rest);
        }

        /** Returns how many knots hang together by a mending, 0 if it joins no two chapters. */
        private int knotsJoinedBy(int one, int other) {
            if (!areBeside(one, other) || !isTornBetween(one, other)) {
                return 0;
            }
            int chapter = chapterAt(one);
            int otherChapter = chapterAt(other);
            if (chapter == 0 || otherChapter == 0 || chapter == otherChapter) {
                return 0;
            }
            return Integer.bitCount(chapter | otherChapter);
        }

        /** Returns an end of the string whose mending is the best one, or NONE. */
        private int bestTornString(boolean isGreater) {
            int best = NONE;
            int bestKnots = 0;
            int bestTwine = 0;
            for (int lesser = 0; lesser < PLACES; lesser++) {
                for (int step = ACROSS; step <= DOWN; step += DOWN - ACROSS) {
                    int greater = lesser + step;
                    int knots = knotsJoinedBy(lesser, greater);
                    int twine = twineFor(lesser, greater);
                    if (knots > bestKnots || knots == bestKnots && twine < bestTwine) {
                        best = isGreater ? greater : lesser;
                        bestKnots = knots;
                        bestTwine = twine;
                    }
                }
            }
            return best;
        }

        private boolean hasStringOutOf(int set) {
            return (beside(set, wholeAcross(), wholeDown()) & knots() & ~set) != 0;
        }

        private int leastByStrings(int set, Parts parts) {
            parts.separate();
            parts.joinAll(within(set, wholeAcross(), ACROSS), ACROSS);
            parts.joinAll(within(set, wholeDown(), DOWN), DOWN);
            return TWINE_ACROSS * parts.joinAll(within(set, tornAcross, ACROSS), ACROSS)
                    + TWINE_DOWN * parts.joinAll(within(set, tornDown, DOWN), DOWN);
        }

        private int leastByPlaces(int set) {
            int reached = set & -set;
            int twine = 0;
            for (int step = 0; step < PLACES && reached != set; step++) {
                int missing = set & ~reached;
                int next = beside(reached, wholeAcross(), wholeDown()) & missing;
                int price = 0;
                if (next == 0) {
                    next = beside(reached, tornAcross, 0) & missing;
                    price = TWINE_ACROSS;
                }
                if (next == 0) {
                    next = beside(reached, 0, tornDown) & missing;
                    price = TWINE_DOWN;
                }
                reached |= next & -next;
                twine += price;
            }
            return twine;
        }

        private void writeLine(int number, Line line) {
            for (int column = 0; column < COLUMNS; column++) {
                int place = number * COLUMNS + column;
                if (column > 0) {
                    line.append(isTornBetween(place - 1, place) ? '/' : '-');
                }
                int kind = kindAt(place);
                line.append(kind == 0 ? '.' : letterOf(kind));
            }
        }
    }

    private static char letterOf(int kind) {
        return (char) ('a' + kind - 1);
    }

    /** A chapter as it was. */
    private static final class Note {
        private int net = 0;
        private int oddKinds = 0;
        private int highKinds = 0;

        private void copyFrom(Note other) {
            net = other.net;
            oddKinds = other.oddKinds;
            highKinds = other.highKinds;
        }

        private int places() {
            return oddKinds | highKinds;
        }

        /** Returns whether the knots of a net at a set of places are just the noted ones. */
        private boolean isOf(Net asked, int set) {
            return (asked.oddKinds & set) == oddKinds && (asked.highKinds & set) == highKinds;
        }
    }

    private static final class Editor {
        private int twine = 0;
        private int mended = 0;

        private void copyFrom(Editor other) {
            twine = other.twine;
            mended = other.mended;
        }
    }

    /** All that goes back when a change is undone. */
    private static final class State {
        private final Net[] nets = new Net[NETS];
        private final Editor[] editors = new Editor[MOST_EDITORS];
        private final Note[] notes = new Note[MOST_NOTES];
        private int editorCount = 0;
        private int noteCount = 0;
        private int tide = 0;
        private int tornSoFar = 0;
        private int mendedSoFar = 0;
        private int twineUsed = 0;

        private State() {
            for (int i = 0; i < NETS; i++) {
                nets[i] = new Net();
            }
            for (int i = 0; i < MOST_EDITORS; i++) {
                editors[i] = new Editor();
            }
            for (int i = 0; i < MOST_NOTES; i++) {
                notes[i] = new Note();
            }
        }

        private void copyFrom(State other) {
            for (int i = 0; i < NETS; i++) {
                nets[i].copyFrom(other.nets[i]);
            }
            for (int i = 0; i < MOST_EDITORS; i++) {
                editors[i].copyFrom(other.editors[i]);
            }
            for (int i = 0; i < MOST_NOTES; i++) {
                notes[i].copyFrom(other.notes[i]);
            }
            editorCount = other.editorCount;
            noteCount = other.noteCount;
            tide = other.tide;
            tornSoFar = other.tornSoFar;
            mendedSoFar = other.mendedSoFar;
            twineUsed = other.twineUsed;
        }

        // The numbers below are asked for before; one that is none must still not throw.

        private Net netNumbered(int net) {
            return nets[isNet(net) ? net : 0];
        }

        private Editor editorNumbered(int editor) {
            return editors[editor >= 0 && editor < MOST_EDITORS ? editor : 0];
        }

        private Note noteNumbered(int note) {
            return notes[note >= 0 && note < MOST_NOTES ? note : 0];
        }

        private boolean hasEditor(int editor) {
            return editor >= 0 && editor < editorCount;
        }

        private boolean hasNote(int note) {
            return note >= 0 && note < noteCount;
        }

        private void tearString(int net, int one, int other) {
            netNumbered(net).putString(one, other, true);
            tornSoFar++;
        }

        private void mendString(int net, int one, int other, int editor) {
            int twine = twineFor(one, other);
            netNumbered(net).putString(one, other, false);
            editorNumbered(editor).twine -= twine;
            editorNumbered(editor).mended++;
            mendedSoFar++;
            twineUsed += twine;
        }

        private void addEditor(int twine) {
            editorNumbered(editorCount).twine = twine;
            editorNumbered(editorCount).mended = 0;
            editorCount++;
        }

        private void addNote(int net, int place) {
            Net noted = netNumbered(net);
            int chapter = noted.chapterAt(place);
            Note note = noteNumbered(noteCount);
            note.net = net;
            note.oddKinds = noted.oddKinds & chapter;
            note.highKinds = noted.highKinds & chapter;
            noteCount++;
        }

        private void removeNote(int note) {
            for (int i = note; i < noteCount - 1; i++) {
                noteNumbered(i).copyFrom(noteNumbered(i + 1));
            }
            noteCount--;
        }

        /** Returns the lowest note that keeps a chapter as it is, or NONE. */
        private int lowestNoteOf(int net, int chapter) {
            for (int i = 0; i < noteCount; i++) {
                Note note = noteNumbered(i);
                if (note.net == net && note.isOf(netNumbered(net), chapter)) {
                    return i;
                }
            }
            return NONE;
        }

        private boolean readsAsNoted(Note note) {
            Net net = netNumbered(note.net);
            return note.isOf(net, net.chapterAt(lowestPlace(note.places())));
        }

        private boolean canBeMended(Note note) {
            Net net = netNumbered(note.net);
            return note.isOf(net, note.places()) && !net.hasStringOutOf(note.places());
        }

        private int leastByStrings(Note note, Parts parts) {
            return netNumbered(note.net).leastByStrings(note.places(), parts);
        }

        private int leastByPlaces(Note note) {
            return netNumbered(note.net).leastByPlaces(note.places());
        }

        private int linesUnderWater(int net) {
            return Math.min(tide + netNumbered(net).draught, LINES);
        }

        private int dryPlaces(int net) {
            return (1 << (LINES - linesUnderWater(net)) * COLUMNS) - 1;
        }

        private int countKnots() {
            int count = 0;
            for (int net = 0; net < NETS; net++) {
                count += Integer.bitCount(netNumbered(net).knots());
            }
            return count;
        }

        private int countReadable() {
            int count = 0;
            for (int net = 0; net < NETS; net++) {
                count += Integer.bitCount(netNumbered(net).knots() & dryPlaces(net));
            }
            return count;
        }

        private int countAllChapters() {
            int count = 0;
            for (int net = 0; net < NETS; net++) {
                count += netNumbered(net).countChapters();
            }
            return count;
        }

        private int countTorn() {
            int count = 0;
            for (int net = 0; net < NETS; net++) {
                count += netNumbered(net).countTorn();
            }
            return count;
        }

        private int sumTwine() {
            int sum = 0;
            for (int editor = 0; editor < editorCount; editor++) {
                sum += editorNumbered(editor).twine;
            }
            return sum;
        }

        private int countAsNoted() {
            int count = 0;
            for (int note = 0; note < noteCount; note++) {
                count += readsAsNoted(noteNumbered(note)) ? 1 : 0;
            }
            return count;
        }

        private boolean areChaptersToldAlike(Parts parts) {
            int count = 0;
            for (int net = 0; net < NETS; net++) {
                count += netNumbered(net).countChaptersByStrings(parts);
            }
            return count == countAllChapters();
        }

        private boolean areNotesToldAlike(Parts parts) {
            for (int i = 0; i < noteCount; i++) {
                Note note = noteNumbered(i);
                if (canBeMended(note) && leastByStrings(note, parts) != leastByPlaces(note)) {
                    return false;
                }
            }
            return true;
        }
    }

    /** The states before the latest changes, in a ring. */
    private static final class History {
        private final State[] states = new State[MOST_UNDONE];
        private int oldest = 0;
        private int count = 0;

        private History() {
            for (int i = 0; i < MOST_UNDONE; i++) {
                states[i] = new State();
            }
        }

        private void push(State state) {
            states[Math.floorMod(oldest + count, MOST_UNDONE)].copyFrom(state);
            if (count < MOST_UNDONE) {
                count++;
            } else {
                oldest = Math.floorMod(oldest + 1, MOST_UNDONE);
            }
        }

        private void popInto(State state) {
            if (count > 0) {
                count--;
                state.copyFrom(states[Math.floorMod(oldest + count, MOST_UNDONE)]);
            }
        }

        private void clear() {
            count = 0;
        }
    }

    /** The places of a net in parts, which strings join. */
    private static final class Parts {
        private final int[] partOf = new int[PLACES];

        private void separate() {
            for (int place = 0; place < PLACES; place++) {
                partOf[place] = place;
            }
        }

        /** Returns how many of the strings joined two parts. */
        private int joinAll(int strings, int step) {
            int joined = 0;
            for (int lesser = 0; lesser < PLACES; lesser++) {
                if (isIn(strings, lesser) && join(lesser, lesser + step)) {
                    joined++;
                }
            }
            return joined;
        }

        private boolean join(int one, int other) {
            if (!isPlace(one) || !isPlace(other) || partOf[one] == partOf[other]) {
                return false;
            }
            int kept = partOf[one];
            int gone = partOf[other];
            for (int place = 0; place < PLACES; place++) {
                if (partOf[place] == gone) {
                    partOf[place] = kept;
                }
            }
            return true;
        }
    }

    /** The tape, and the orders that were read from it. */
    private static final class Script {
        private final char[] tape = new char[MOST_CHARACTERS];
        private int length = 0;
        private int position = 0;
        private final int[] words = new int[MOST_ORDERS];
        private final int[][] numbers = new int[MOST_ORDERS][MOST_NUMBERS];
        private int orderCount = 0;

        private boolean isFull() {
            return length >= MOST_CHARACTERS;
        }

        private void append(char character) {
            if (length >= 0 && length < MOST_CHARACTERS) {
                tape[length] = character;
                length++;
            }
        }

        private void clear() {
            length = 0;
        }

        private int wordAt(int order) {
            return order >= 0 && order < MOST_ORDERS ? words[order] : NONE;
        }

        private void putWord(int order, int word) {
            if (order >= 0 && order < MOST_ORDERS) {
                words[order] = word;
            }
        }

        private int numberAt(int order, int index) {
            if (order < 0 || order >= MOST_ORDERS || index < 0 || index >= MOST_NUMBERS) {
                return NONE;
            }
            return numbers[order][index];
        }

        private void putNumber(int order, int index, int number) {
            if (order >= 0 && order < MOST_ORDERS && index >= 0 && index < MOST_NUMBERS) {
                numbers[order][index] = number;
            }
        }

        /** Reads the orders; returns the fault position, or NONE. */
        private int findFault() {
            position = 0;
            orderCount = 0;
            for (int order = 0; order < MOST_ORDERS; order++) {
                if (!readOrder(order)) {
                    return position;
                }
                orderCount++;
                if (position >= length) {
                    return NONE;
                }
                if (!isNext(';')) {
                    return position;
                }
                position++;
            }
            return position;
        }

        /** Goes on behind an order, or else to the first character that continues none. */
        private boolean readOrder(int order) {
            int start = position;
            int furthest = position;
            for (int word = 0; word < ORDER_WORDS; word++) {
                position = start;
                if (readForm(formOf(word), order)) {
                    putWord(order, word);
                    return true;
                }
                furthest = Math.max(furthest, position);
            }
            position = furthest;
            return false;
        }

        /** D stands for a digit, N for a number, anything else for itself. */
        private static String formOf(int word) {
            switch (word) {
                case ORDER_KNOT:
                    return "knot D N=D";
                case ORDER_TEAR:
                    return "tear D N-N";
                case ORDER_MEND:
                    return "mend D N-N/D";
                case ORDER_EDITOR:
                    return "editor N";
                case ORDER_TIDE:
                    return "tide D";
                case ORDER_SINK:
                    return "sink D=D";
                case ORDER_NOTE:
                    return "note D N";
                default:
                    return "drop D";
            }
        }

        private boolean readForm(String form, int order) {
            int index = 0;
            for (int i = 0; i < form.length(); i++) {
                char sign = form.charAt(i);
                if (sign == 'D' || sign == 'N') {
                    if (!isDigitNext()) {
                        return false;
                    }
                    putNumber(order, index, readNumber(sign == 'N'));
                    index++;
                } else if (isNext(sign)) {
                    position++;
                } else {
                    return false;
                }
            }
            return true;
        }

        private int readNumber(boolean canHaveTwoDigits) {
            int number = 0;
            int mostDigits = canHaveTwoDigits ? 2 : 1;
            for (int digits = 0; digits < mostDigits && isDigitNext(); digits++) {
                number = 10 * number + (tape[position] - '0');
                position++;
            }
            return number;
        }

        private boolean isInText() {
            return position >= 0 && position < length && position < MOST_CHARACTERS;
        }

        private boolean isNext(char sign) {
            return isInText() && tape[position] == sign;
        }

        private boolean isDigitNext() {
            return isInText() && tape[position] >= '0' && tape[position] <= '9';
        }
    }

    /** The line that was written last. */
    private static final class Line {
        private final char[] characters = new char[LONGEST_LINE];
        private int length = 0;

        private void clear() {
            length = 0;
        }

        private void append(char character) {
            if (length >= 0 && length < LONGEST_LINE) {
                characters[length] = character;
                length++;
            }
        }

        private void appendKnots(int oddKinds, int highKinds) {
            for (int place = 0; place < PLACES; place++) {
                int kind = (isIn(oddKinds, place) ? 1 : 0) + (isIn(highKinds, place) ? 2 : 0);
                if (kind != 0) {
                    append(letterOf(kind));
                }
            }
        }

        private boolean hasIndex(int index) {
            return index >= 0 && index < length && index < LONGEST_LINE;
        }

        private char at(int index) {
            return hasIndex(index) ? characters[index] : '.';
        }
    }

    /** The reason that was kept last, with what stands behind it. */
    private static final class Refusal {
        private int reason = NOT_REFUSED;
        private int detail = 0;
        private int reasonBehind = NOT_REFUSED;
        private int detailBehind = 0;

        private void keepAlone(int refusedFor, int withDetail) {
            reason = refusedFor;
            detail = withDetail;
            reasonBehind = NOT_REFUSED;
            detailBehind = 0;
        }

        private void keepOrder(int order, int refusedFor, int withDetail) {
            reason = ORDER_REFUSED;
            detail = order;
            reasonBehind = refusedFor;
            detailBehind = withDetail;
        }
    }
}

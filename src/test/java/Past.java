import java.util.ArrayList;
import java.util.List;
import java.util.function.Consumer;

/**
 * What has been done with an object. Two pasts are alike if their objects answer alike whatever is
 * asked, undone, restored or run; so it is seen whether a call left all as it was.
 *
 * Each part is asked of an object of its own, since one is used for 512 calls at most.
 */
final class Past {
    /** The starts of the names of what a call may change although it is refused. */
    static final String REASON = "reason";
    static final String FAULT = "fault";
    static final String LINE = "line";

    private static final int MOST_UNDOS = 9;

    private final Consumer<NetScript> doings;
    private List<String> parts = null;

    Past(Consumer<NetScript> doings) {
        this.doings = doings;
    }

    NetScript make() {
        NetScript x = new NetScript();
        doings.accept(x);
        return x;
    }

    /** This past and a call more, whatever that one answers. */
    Past then(Consumer<NetScript> call) {
        return new Past(x -> {
            doings.accept(x);
            Check.answer(() -> {
                call.accept(x);
                return "";
            });
        });
    }

    /** The refused call keeps its reason, without one behind it, and leaves all else as it was. */
    void refuses(String what, int reason, int detail, Consumer<NetScript> call) {
        NetScript x = make();
        Check.refused(what, x, reason, detail, () -> call.accept(x));
        alike(what, then(call), REASON);
    }

    /** The call throws just this exception, and leaves all as it was. */
    void thrown(String what, Class<? extends RuntimeException> want, Consumer<NetScript> call) {
        NetScript x = make();
        Check.thrown(what, want, () -> call.accept(x));
        alike(what, then(call));
    }

    /** Compares all parts, but those whose names start with the given ones. */
    void alike(String what, Past other, String... but) {
        List<String> mine = parts();
        List<String> others = other.parts();
        for (int i = 0; i < mine.size(); i++) {
            boolean isAsked = true;
            for (String start : but) {
                isAsked &= !mine.get(i).startsWith(start);
            }
            if (isAsked && !mine.get(i).equals(others.get(i))) {
                Check.fail(what + ": what is there is\n  " + others.get(i) + ", due is\n  " + mine.get(i));
            }
        }
    }

    private List<String> parts() {
        if (parts == null) {
            parts = new ArrayList<>();
            parts.add("reason " + reasons(make()));
            parts.add("fault " + Check.answer(make()::faultPosition));
            parts.add("line " + line(make()));
            parts.add("tape " + make().account(11));
            parts.add("tape runs " + runs(make()));
            addStock("run", then(NetScript::run));
            Past undone = this;
            for (int undos = 0; undos <= MOST_UNDOS; undos++) {
                addStock("undone " + undos, undone);
                undone = undone.then(NetScript::undo);
            }
            parts.add("restored " + Check.answer(make()::restore));
            addStock("restored", then(NetScript::restore));
        }
        return parts;
    }

    /** All that goes back. */
    private void addStock(String when, Past past) {
        for (int net = 0; net < 3; net++) {
            parts.add(when + ", net " + net + " " + net(past.make(), net));
        }
        parts.add(when + ", notes " + notes(past.make()));
        parts.add(when + ", accounts " + accounts(past.make()));
    }

    /** How the tape is read, with what is kept by that, not what was kept before. */
    private static String runs(NetScript x) {
        String answer = Check.answer(x::run);
        if (answer.endsWith("IllegalArgumentException")) {
            return answer + " " + x.faultPosition();
        }
        return answer.endsWith("UnsupportedOperationException") ? answer + " " + reasons(x) : answer;
    }

    private static String reasons(NetScript x) {
        return Check.answer(() -> x.reason(false, false)) + " " + Check.answer(() -> x.reason(false, true)) + " "
                + Check.answer(() -> x.reason(true, false)) + " " + Check.answer(() -> x.reason(true, true));
    }

    /** The line, of which nothing but its characters can be asked. */
    static String line(NetScript x) {
        StringBuilder line = new StringBuilder();
        String character = Check.answer(() -> x.character(0));
        while (character.length() == 1) {
            line.append(character);
            character = Check.answer(() -> x.character(line.length()));
        }
        return line.toString();
    }

    private static String net(NetScript x, int net) {
        StringBuilder all = new StringBuilder();
        for (int place = 0; place < 24; place++) {
            all.append(x.kindOf(net, place));
        }
        all.append(' ');
        for (int place = 0; place < 24; place++) {
            int at = place;
            all.append(place % 6 == 5 ? "" : x.isTorn(net, at, at + 1) ? "t" : "w");
            all.append(place >= 18 ? "" : x.isTorn(net, at, at + 6) ? "T" : "W");
        }
        for (int what = 0; what <= 6; what++) {
            all.append(' ').append(x.netOf(net, what));
        }
        return all.toString();
    }

    private static String notes(NetScript x) {
        StringBuilder all = new StringBuilder();
        for (int note = 0; note < x.account(5); note++) {
            for (int what = 0; what <= 3; what++) {
                all.append(x.noteOf(note, what)).append(' ');
            }
            int asked = note;
            all.append(Check.answer(() -> x.least(asked))).append(' ');
            x.noteLine(note);
            all.append(line(x)).append("; ");
        }
        return all.toString();
    }

    private static String accounts(NetScript x) {
        StringBuilder all = new StringBuilder();
        for (int what = 0; what <= 12; what++) {
            all.append(what == 11 ? "" : x.account(what) + " ");
        }
        for (int editor = 0; editor < x.account(3); editor++) {
            all.append(x.editorOf(editor, 0)).append('/').append(x.editorOf(editor, 1)).append(' ');
        }
        return all.append(x.isBalanced()).toString();
    }
}

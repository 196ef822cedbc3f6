import java.util.function.Supplier;

/** Texts and their faults: orders with each one character changed, whose answers the model gives too. */
public final class FaultsTest {
    private static final String[] ORDERS = {
        "knot 0 1=2", "knot 2 23=3", "tear 1 2-8", "tear 0 12-13", "mend 1 2-3/0", "mend 1 02-03/0",
        "editor 7", "editor 99", "tide 3", "sink 1=2", "note 1 2", "note 1 02", "drop 0"
    };
    private static final String[] AHEAD = {"", "tide 1;", "drop 0;knot 0 0=1;"};
    private static final String[] BEHIND = {"", ";", ";;", ";tide 2"};
    /** All that an order is made of, their neighbours, and signs that are letters and digits elsewhere. */
    private static final String SIGNS = "0123456789 ;=-/:.abcdefghiklmnoprstuKT\0\t\n\u00A0\u00B2\u0661\uFF11\uFFFF";

    public static void main(String[] args) {
        for (String order : ORDERS) {
            for (String ahead : AHEAD) {
                for (String behind : BEHIND) {
                    changed(ahead, order, behind);
                }
            }
        }
        Check.end();
    }

    /** The text as it is, and with a character of its middle replaced, left out or put in. */
    private static void changed(String ahead, String order, String behind) {
        same(ahead + order + behind);
        for (int i = 0; i <= order.length(); i++) {
            String start = ahead + order.substring(0, i);
            String end = order.substring(i) + behind;
            same(start);
            for (char sign : SIGNS.toCharArray()) {
                same(start + sign + end);
                if (i < order.length()) {
                    same(start + sign + end.substring(1));
                }
            }
            if (i < order.length()) {
                same(start + end.substring(1));
            }
        }
    }

    private static void same(String text) {
        NetScript x = new NetScript();
        Model model = new Model();
        x.knot(1, 2, 1);
        model.knot(1, 2, 1);
        x.editor(5);
        model.editor(5);
        x.tear(1, 2, 3);
        model.tear(1, 2, 3);
        x.note(1, 2);
        model.note(1, 2);
        for (char character : text.toCharArray()) {
            x.feed(character);
            model.feed(character);
        }
        both("run of " + text, x::run, model::run);
        both("fault of " + text, x::faultPosition, model::faultPosition);
        both("reason of " + text, () -> x.reason(false, false), () -> model.reason(false, false));
        both("detail of " + text, () -> x.reason(false, true), () -> model.reason(false, true));
        both("reason behind " + text, () -> x.reason(true, false), () -> model.reason(true, false));
        both("detail behind " + text, () -> x.reason(true, true), () -> model.reason(true, true));
        both("changes behind " + text, () -> x.account(12), () -> model.account(12));
    }

    private static void both(String what, Supplier<Object> ofClass, Supplier<Object> ofModel) {
        Check.due(what, Check.answer(ofClass), Check.answer(ofModel));
    }
}

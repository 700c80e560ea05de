import java.util.ArrayList;
import java.util.List;
import java.util.regex.Matcher;
import java.util.regex.Pattern;

/** The whole face once more over Model: the pad is a text, the code and the rules are lists of texts. */
final class Plain {
    private static final int UNKNOWN = -1, OUTSIDE = -2, STATE = -3, FULL = -4, NO = -5, NONE = -6;
    private static final String STEP = "[a-d]=(?:[a-d0-7]|[-+*m][a-d0-7][a-d0-7])";
    private static final Pattern CODE = Pattern.compile(STEP + "(?:;" + STEP + "){0,11}");
    private static final Pattern RULE = Pattern.compile(STEP + "(?:;" + STEP + "){0,2}>(?:" + STEP + "(?:;" + STEP + "){0,2})?");

    /** All that an image keeps; nothing in it is ever changed, only put anew. */
    private static final class Kept implements Cloneable {
        List<String> code = List.of();
        List<String> other = List.of();
        List<List<String>> lefts = List.of();
        List<List<String>> rights = List.of();
        int wanted = 15;
        int[] settings = {1, 1, 1, 1, 1};

        Kept copy() {
            try {
                return (Kept) clone();
            } catch (CloneNotSupportedException broken) {
                throw new IllegalStateException(broken);
            }
        }
    }

    private final Kept[] images = new Kept[2];
    private Kept now = new Kept();
    private String pad = "";

    List<String> steps() {
        return now.code;
    }

    /** What a call of this name is due to answer; a number that the call does not take is not looked at. */
    int call(String name, int one, int two) {
        switch (name) {
            case "say": return say(one);
            case "wipe": return wipe();
            case "fault": return one < 0 || one > 1 ? OUTSIDE : fault(one == 0 ? CODE : RULE);
            case "code": return code();
            case "want": return want(one);
            case "step": return noStep(one) ? UNKNOWN : two < 0 || two > 3 ? OUTSIDE : part(now.code.get(one), two);
            case "run": return one < 0 || one > 4095 || noPlace(two) ? OUTSIDE : Model.run(now.code, one, two);
            case "keep": return keep();
            case "unlike": return Model.unlike(now.code, now.other, now.wanted);
            default: return callOfFacts(name, one, two);
        }
    }

    private int callOfFacts(String name, int one, int two) {
        boolean nowhere = noPlace(one) || two < 0 || two > 3;
        switch (name) {
            case "live": return noPlace(one) ? UNKNOWN : Model.live(now.code, now.wanted, one);
            case "bad": return one < 0 || one > 1 ? OUTSIDE : one == 0 ? Model.dead(now.code, now.wanted) : Model.needless(now.code);
            case "known": return nowhere ? UNKNOWN : Model.known(now.code, one, two);
            case "sort": return nowhere ? UNKNOWN : Model.sorts(now.code)[one][two];
            case "mend": return one < 1 || one > 4 ? OUTSIDE : mend(one);
            case "clean": return become(Model.clean(now.code, now.wanted));
            default: return callOfOrders(name, one, two);
        }
    }

    private int callOfOrders(String name, int one, int two) {
        int many = now.code.size();
        switch (name) {
            case "behind": return noStep(one) ? UNKNOWN : Model.behind(now.code, one);
            case "orders": return Model.orders(Model.behinds(now.code)).size();
            case "set": return set(one, two);
            case "tick": return noStep(one) ? UNKNOWN : ticks()[one];
            case "time": return ticks()[many];
            case "quickest": return many > 8 ? STATE : ofOrder(Model.quickest(now.code, now.settings), one);
            case "reads": return noStep(one) ? UNKNOWN : two < 0 || two > 1 ? OUTSIDE : Model.reads(now.code, one, two);
            case "held": return noPlace(one) ? UNKNOWN : held()[one];
            case "width": return Model.width(held());
            case "fewest": return many > 8 ? STATE : ofOrder(Model.fewest(now.code, now.wanted), one);
            case "spill": return one < 1 || one > 8 ? OUTSIDE : Model.spill(now.code, now.wanted, one);
            default: return callOfRules(name, one);
        }
    }

    private int callOfRules(String name, int one) {
        switch (name) {
            case "rule": return rule();
            case "free": return free();
            case "holds": return noRule(one) ? UNKNOWN : Model.unlike(now.lefts.get(one), now.rights.get(one), 15) == NONE ? 1 : 0;
            case "fits": return noRule(one) ? UNKNOWN : Model.fits(now.code, now.lefts.get(one));
            case "replace": return noRule(one) ? UNKNOWN : replace(now.lefts.get(one), now.rights.get(one));
            case "go": return go();
            case "shortest": return shortest(one);
            case "image": return image(one);
            case "restore": return restore(one);
            case "told": return told(one);
            default: throw new IllegalStateException(name);
        }
    }

    private boolean noStep(int i) {
        return i < 0 || i >= now.code.size();
    }

    private boolean noPlace(int place) {
        return place < 0 || place > now.code.size();
    }

    private boolean noRule(int rule) {
        return rule < 0 || rule >= now.lefts.size();
    }

    private int become(List<String> steps) {
        now.code = List.copyOf(steps);
        return steps.size();
    }

    private int say(int sign) {
        if (sign < 33 || sign > 126) {
            return OUTSIDE;
        }
        if (pad.length() == 80) {
            return FULL;
        }
        pad += (char) sign;
        return pad.length();
    }

    private int wipe() {
        int before = pad.length();
        pad = "";
        return before;
    }

    /** A sign can stand, if the text up to it is one of the form or may become one. */
    private int fault(Pattern form) {
        for (int many = 1; many <= pad.length(); many++) {
            Matcher matcher = form.matcher(pad.substring(0, many));
            if (!matcher.matches() && !matcher.hitEnd()) {
                return many - 1;
            }
        }
        return form.matcher(pad).matches() ? NONE : pad.length();
    }

    private int code() {
        if (fault(CODE) != NONE) {
            return NO;
        }
        become(List.of(pad.split(";")));
        wipe();
        return now.code.size();
    }

    private int want(int set) {
        if (set < 1 || set > 15) {
            return OUTSIDE;
        }
        int before = now.wanted;
        now.wanted = set;
        return before;
    }

    private static int part(String step, int what) {
        String operands = Model.operands(step);
        if (what == 0) {
            return Model.target(step);
        }
        if (what == 1) {
            return Model.isCopy(step) ? NONE : step.charAt(2);
        }
        if (what - 2 >= operands.length()) {
            return NONE;
        }
        char sign = operands.charAt(what - 2);
        return sign >= 'a' ? sign - 'a' : sign - '0' + 10;
    }

    private int keep() {
        now.other = now.code;
        return now.other.size();
    }

    private int mend(int which) {
        List<String> before = now.code;
        become(Model.mend(before, now.wanted, which));
        int changed = before.size() - now.code.size();
        for (int i = 0; i < before.size() && which != 4; i++) {
            changed += before.get(i).equals(now.code.get(i)) ? 0 : 1;
        }
        return changed;
    }

    private int set(int which, int v) {
        if (which < 0 || which > 4 || v < 1 || v > (which == 0 ? 3 : 5)) {
            return OUTSIDE;
        }
        int before = now.settings[which];
        now.settings = now.settings.clone();
        now.settings[which] = v;
        return before;
    }

    private int[] ticks() {
        return Model.ticks(now.code, Model.asWritten(now.code), now.settings);
    }

    private int[] held() {
        return Model.held(now.code, now.wanted, Model.asWritten(now.code));
    }

    /** An order with its measure behind it. */
    private static int ofOrder(int[] order, int i) {
        int many = order.length - 1;
        return i == -1 ? order[many] : i >= 0 && i < many ? order[i] : NONE;
    }

    private int rule() {
        if (fault(RULE) != NONE) {
            return NO;
        }
        if (now.lefts.size() == 4) {
            return FULL;
        }
        int mark = pad.indexOf('>');
        String right = pad.substring(mark + 1);
        now.lefts = with(now.lefts, List.of(pad.substring(0, mark).split(";")));
        now.rights = with(now.rights, right.isEmpty() ? List.of() : List.of(right.split(";")));
        wipe();
        return now.lefts.size() - 1;
    }

    private static List<List<String>> with(List<List<String>> sides, List<String> side) {
        List<List<String>> more = new ArrayList<>(sides);
        more.add(side);
        return more;
    }

    private int free() {
        int before = now.lefts.size();
        now.lefts = List.of();
        now.rights = List.of();
        return before;
    }

    private int replace(List<String> left, List<String> right) {
        if (Model.fits(now.code, left) == NONE) {
            return STATE;
        }
        if (now.code.size() - left.size() + right.size() > 12) {
            return FULL;
        }
        return become(Model.replace(now.code, left, right));
    }

    private int go() {
        List<String> told = Model.go(now.code, now.lefts, now.rights);
        become(told.subList(0, told.size() - 1));
        return Integer.parseInt(told.get(told.size() - 1));
    }

    private int shortest(int i) {
        if (now.wanted > 3 || String.join(";", now.code).matches(".*[cd].*")) {
            return STATE;
        }
        List<Integer> moves = Model.shortest(now.code, now.wanted);
        if (moves == null) {
            return NONE;
        }
        return i == -1 ? moves.size() : i >= 0 && i < moves.size() ? moves.get(i) : NONE;
    }

    private int image(int n) {
        if (n < 0 || n > 1) {
            return OUTSIDE;
        }
        images[n] = now.copy();
        return 1;
    }

    private int restore(int n) {
        if (n < 0 || n > 1) {
            return OUTSIDE;
        }
        if (images[n] == null) {
            return STATE;
        }
        now = images[n].copy();
        return 1;
    }

    private int told(int what) {
        if (what < 0 || what > 9) {
            return OUTSIDE;
        }
        if (what >= 4 && what <= 8) {
            return now.settings[what - 4];
        }
        int[] counts = {now.code.size(), pad.length(), now.wanted, now.lefts.size()};
        return what == 9 ? now.other.size() : counts[what];
    }
}

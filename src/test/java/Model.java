import java.util.ArrayList;
import java.util.HashMap;
import java.util.List;
import java.util.Map;

/** The document's terms once more, as plainly as they can be written, over steps that are texts ("a=+b3"). */
final class Model {
    static final int NONE = -6;

    private Model() {
    }

    static int target(String step) {
        return step.charAt(0) - 'a';
    }

    static boolean isCopy(String step) {
        return step.length() == 3;
    }

    /** The operands' signs. */
    static String operands(String step) {
        return isCopy(step) ? step.substring(2) : step.substring(3);
    }

    static boolean reads(String step, int register) {
        return operands(step).indexOf('a' + register) >= 0;
    }

    static int act(char act, int x, int y) {
        switch (act) {
            case '+':
                return (x + y) % 8;
            case '-':
                return (x + 8 - y) % 8;
            case '*':
                return x * y % 8;
            default:
                return x < y ? x : y;
        }
    }

    static int[] registers(int row) {
        return new int[] {row / 512, row / 64 % 8, row / 8 % 8, row % 8};
    }

    static void perform(String step, int[] registers) {
        int[] numbers = new int[2];
        String operands = operands(step);
        for (int k = 0; k < operands.length(); k++) {
            char sign = operands.charAt(k);
            numbers[k] = sign < 'a' ? sign - '0' : registers[sign - 'a'];
        }
        registers[target(step)] = isCopy(step) ? numbers[0] : act(step.charAt(2), numbers[0], numbers[1]);
    }

    static int run(List<String> steps, int row, int many) {
        int[] registers = registers(row);
        for (int i = 0; i < many; i++) {
            perform(steps.get(i), registers);
        }
        return registers[0] * 512 + registers[1] * 64 + registers[2] * 8 + registers[3];
    }

    static int unlike(List<String> some, List<String> other, int wanted) {
        for (int row = 0; row < 4096; row++) {
            int[] x = registers(run(some, row, some.size()));
            int[] y = registers(run(other, row, other.size()));
            for (int r = 0; r < 4; r++) {
                if ((wanted >> r & 1) == 1 && x[r] != y[r]) {
                    return row;
                }
            }
        }
        return NONE;
    }

    // ---- 2 facts

    static boolean isLive(List<String> steps, int wanted, int place, int register) {
        for (int i = place; i < steps.size(); i++) {
            if (reads(steps.get(i), register)) {
                return true;
            }
            if (target(steps.get(i)) == register) {
                return false;
            }
        }
        return (wanted >> register & 1) == 1;
    }

    static int live(List<String> steps, int wanted, int place) {
        int bits = 0;
        for (int r = 0; r < 4; r++) {
            bits |= isLive(steps, wanted, place, r) ? 1 << r : 0;
        }
        return bits;
    }

    static int dead(List<String> steps, int wanted) {
        int bits = 0;
        for (int i = 0; i < steps.size(); i++) {
            bits |= isLive(steps, wanted, i + 1, target(steps.get(i))) ? 0 : 1 << i;
        }
        return bits;
    }

    /** Goes back from the place to the step that made the number. */
    static int known(List<String> steps, int place, int register) {
        for (int i = place - 1; i >= 0; i--) {
            String step = steps.get(i);
            if (target(step) == register) {
                String operands = operands(step);
                int[] numbers = new int[2];
                for (int k = 0; k < operands.length(); k++) {
                    char sign = operands.charAt(k);
                    numbers[k] = sign < 'a' ? sign - '0' : known(steps, i, sign - 'a');
                    if (numbers[k] == NONE) {
                        return NONE;
                    }
                }
                return isCopy(step) ? numbers[0] : act(step.charAt(2), numbers[0], numbers[1]);
            }
        }
        return NONE;
    }

    /** Rows of sorts ahead of each place; behind the four registers' what the step there makes. */
    static int[][] sorts(List<String> steps) {
        int[][] rows = new int[steps.size() + 1][5];
        Map<String, Integer> given = new HashMap<>();
        int next = 4;
        int[] now = {0, 1, 2, 3};
        for (int i = 0; i <= steps.size(); i++) {
            System.arraycopy(now, 0, rows[i], 0, 4);
            if (i < steps.size()) {
                String step = steps.get(i);
                String operands = operands(step);
                int[] sorts = new int[2];
                for (int k = 0; k < operands.length(); k++) {
                    char sign = operands.charAt(k);
                    if (sign < 'a') {
                        if (!given.containsKey("digit " + sign)) {
                            given.put("digit " + sign, next++);
                        }
                        sorts[k] = given.get("digit " + sign);
                    } else {
                        sorts[k] = now[sign - 'a'];
                    }
                }
                int made = sorts[0];
                if (!isCopy(step)) {
                    char act = step.charAt(2);
                    String one = act + " " + sorts[0] + " " + sorts[1];
                    String two = act + " " + sorts[1] + " " + sorts[0];
                    if (!given.containsKey(one)) {
                        given.put(one, next);
                        if (act != '-') {
                            given.put(two, next);
                        }
                        next++;
                    }
                    made = given.get(one);
                }
                rows[i][4] = made;
                now[target(step)] = made;
            }
        }
        return rows;
    }

    static int holder(int[] row) {
        for (int r = 0; r < 4; r++) {
            if (row[r] == row[4]) {
                return r;
            }
        }
        return NONE;
    }

    static int needless(List<String> steps) {
        int[][] sorts = sorts(steps);
        int bits = 0;
        for (int i = 0; i < steps.size(); i++) {
            bits |= holder(sorts[i]) != NONE ? 1 << i : 0;
        }
        return bits;
    }

    static List<String> mend(List<String> steps, int wanted, int which) {
        List<String> mended = new ArrayList<>();
        int[][] sorts = sorts(steps);
        for (int i = 0; i < steps.size(); i++) {
            String step = steps.get(i);
            String head = step.substring(0, 2);
            String operands = operands(step);
            boolean goes = false;
            if (which == 1) {
                StringBuilder text = new StringBuilder(isCopy(step) ? head : step.substring(0, 3));
                for (char sign : operands.toCharArray()) {
                    int known = sign < 'a' ? NONE : known(steps, i, sign - 'a');
                    text.append(known == NONE ? sign : (char) ('0' + known));
                }
                step = text.toString();
            } else if (which == 2) {
                if (!isCopy(step) && operands.charAt(0) < 'a' && operands.charAt(1) < 'a') {
                    step = head + act(step.charAt(2), operands.charAt(0) - '0', operands.charAt(1) - '0');
                }
            } else if (which == 3) {
                if (!isCopy(step) && holder(sorts[i]) != NONE) {
                    step = head + (char) ('a' + holder(sorts[i]));
                }
            } else {
                goes = !isLive(steps, wanted, i + 1, target(step)) || operands.equals(step.substring(0, 1));
            }
            if (!goes) {
                mended.add(step);
            }
        }
        return mended;
    }

    static List<String> clean(List<String> steps, int wanted) {
        List<String> before = null;
        List<String> now = steps;
        while (!now.equals(before)) {
            before = now;
            for (int which = 1; which <= 4; which++) {
                now = mend(now, wanted, which);
            }
        }
        return now;
    }

    // ---- 3 orders

    /** Whether step i reads what step j made. */
    static boolean comesOf(List<String> steps, int i, int j) {
        int made = target(steps.get(j));
        for (int between = j + 1; between < i; between++) {
            if (target(steps.get(between)) == made) {
                return false;
            }
        }
        return j < i && reads(steps.get(i), made);
    }

    static boolean waitsFor(List<String> steps, int i, int j) {
        int target = target(steps.get(i));
        return j < i && (reads(steps.get(j), target) || target(steps.get(j)) == target);
    }

    static int behind(List<String> steps, int i) {
        int bits = 0;
        for (int j = 0; j < i; j++) {
            bits |= comesOf(steps, i, j) || waitsFor(steps, i, j) ? 1 << j : 0;
        }
        return bits;
    }

    static int needs(List<String> steps, int i) {
        int bits = 0;
        for (int j = 0; j < i; j++) {
            bits |= comesOf(steps, i, j) ? 1 << j : 0;
        }
        return bits;
    }

    /** All orders by numbers, in each of which a step stands behind those whose bits it has. */
    static List<int[]> orders(int[] bits) {
        List<int[]> orders = new ArrayList<>();
        extend(bits, new int[bits.length], 0, 0, orders);
        return orders;
    }

    private static void extend(int[] bits, int[] order, int depth, int done, List<int[]> orders) {
        if (depth == bits.length) {
            orders.add(order.clone());
            return;
        }
        for (int i = 0; i < bits.length; i++) {
            if ((done >> i & 1) == 0 && (bits[i] & ~done) == 0) {
                order[depth] = i;
                extend(bits, order, depth + 1, done | 1 << i, orders);
            }
        }
    }

    static int[] behinds(List<String> steps) {
        int[] bits = new int[steps.size()];
        for (int i = 0; i < bits.length; i++) {
            bits[i] = behind(steps, i);
        }
        return bits;
    }

    static int delay(String step, int[] settings) {
        return isCopy(step) ? 1 : settings[1 + "+-*m".indexOf(step.charAt(2))];
    }

    /** Ticks of all steps in an order; behind them the time. */
    static int[] ticks(List<String> steps, int[] order, int[] settings) {
        int[] ticks = new int[steps.size() + 1];
        int[] begun = new int[200];
        int tick = 0;
        int time = 0;
        for (int n = 0; n < order.length; n++) {
            int i = order[n];
            while (begun[tick] >= settings[0] || !mayBegin(steps, i, tick, ticks, settings)) {
                tick++;
            }
            begun[tick]++;
            ticks[i] = tick;
            time = Math.max(time, tick + delay(steps.get(i), settings));
        }
        ticks[steps.size()] = time;
        return ticks;
    }

    private static boolean mayBegin(List<String> steps, int i, int tick, int[] ticks, int[] settings) {
        for (int j = 0; j < i; j++) {
            if (comesOf(steps, i, j) && tick < ticks[j] + delay(steps.get(j), settings)) {
                return false;
            }
            if (waitsFor(steps, i, j) && tick <= ticks[j]) {
                return false;
            }
        }
        return true;
    }

    /** The quickest order; behind it its time. */
    static int[] quickest(List<String> steps, int[] settings) {
        int[] best = null;
        for (int[] order : orders(behinds(steps))) {
            int time = ticks(steps, order, settings)[steps.size()];
            if (best == null || time < best[steps.size()]) {
                best = java.util.Arrays.copyOf(order, order.length + 1);
                best[steps.size()] = time;
            }
        }
        return best;
    }

    // ---- 4 values

    static int valueIn(List<String> steps, int place, int register) {
        for (int i = place - 1; i >= 0; i--) {
            if (target(steps.get(i)) == register) {
                return 4 + i;
            }
        }
        return register;
    }

    static int reads(List<String> steps, int i, int k) {
        String operands = operands(steps.get(i));
        if (k >= operands.length() || operands.charAt(k) < 'a') {
            return NONE;
        }
        return valueIn(steps, i, operands.charAt(k) - 'a');
    }

    static boolean isLasting(List<String> steps, int wanted, int value) {
        for (int r = 0; r < 4; r++) {
            if ((wanted >> r & 1) == 1 && valueIn(steps, steps.size(), r) == value) {
                return true;
            }
        }
        return false;
    }

    /** Values held at each place of an order. */
    static int[] held(List<String> steps, int wanted, int[] order) {
        int many = steps.size();
        int[] held = new int[many + 1];
        for (int value = 0; value < 4 + many; value++) {
            int from = 0;
            int to = -1;
            for (int n = 0; n < many; n++) {
                if (order[n] == value - 4) {
                    from = n + 1;
                }
                if (reads(steps, order[n], 0) == value || reads(steps, order[n], 1) == value) {
                    to = n;
                }
            }
            if (isLasting(steps, wanted, value)) {
                to = many;
            }
            if (to < 0 && value >= 4) {
                to = from;
            }
            for (int place = from; place <= to; place++) {
                held[place] |= 1 << value;
            }
        }
        return held;
    }

    static int[] asWritten(List<String> steps) {
        int[] order = new int[steps.size()];
        for (int i = 0; i < order.length; i++) {
            order[i] = i;
        }
        return order;
    }

    static int width(int[] held) {
        int most = 0;
        for (int bits : held) {
            most = Math.max(most, Integer.bitCount(bits));
        }
        return most;
    }

    /** The order of the least width; behind it that width. */
    static int[] fewest(List<String> steps, int wanted) {
        int[] needs = new int[steps.size()];
        for (int i = 0; i < needs.length; i++) {
            needs[i] = needs(steps, i);
        }
        int[] best = null;
        for (int[] order : orders(needs)) {
            int width = width(held(steps, wanted, order));
            if (best == null || width < best[steps.size()]) {
                best = java.util.Arrays.copyOf(order, order.length + 1);
                best[steps.size()] = width;
            }
        }
        return best;
    }

    static int spill(List<String> steps, int wanted, int k) {
        int[] held = held(steps, wanted, asWritten(steps));
        int best = -1;
        int bestReadings = 0;
        for (int set = 0; set < 1 << (4 + steps.size()); set++) {
            boolean lawful = best < 0 || Integer.bitCount(set) <= Integer.bitCount(best);
            for (int bits : held) {
                lawful = lawful && Integer.bitCount(bits & ~set) <= k;
            }
            if (lawful) {
                int readings = readings(steps, set);
                if (best < 0 || Integer.bitCount(set) < Integer.bitCount(best) || readings < bestReadings) {
                    best = set;
                    bestReadings = readings;
                }
            }
        }
        return best;
    }

    private static int readings(List<String> steps, int set) {
        int readings = 0;
        for (int i = 0; i < steps.size(); i++) {
            for (int k = 0; k < 2; k++) {
                int value = reads(steps, i, k);
                readings += value != NONE && (set >> value & 1) == 1 ? 1 : 0;
            }
        }
        return readings;
    }

    // ---- 5 rules

    /** All ways to call a to d by the same four names. */
    static List<String> namings() {
        List<String> namings = new ArrayList<>();
        for (int n = 0; n < 256; n++) {
            String names = "" + (char) ('a' + n / 64) + (char) ('a' + n / 16 % 4) + (char) ('a' + n / 4 % 4) + (char) ('a' + n % 4);
            if (names.chars().distinct().count() == 4) {
                namings.add(names);
            }
        }
        return namings;
    }

    static String rename(String step, String names) {
        StringBuilder text = new StringBuilder();
        for (char sign : step.toCharArray()) {
            text.append(sign >= 'a' && sign <= 'd' ? names.charAt(sign - 'a') : sign);
        }
        return text.toString();
    }

    static List<String> rename(List<String> steps, String names) {
        List<String> renamed = new ArrayList<>();
        for (String step : steps) {
            renamed.add(rename(step, names));
        }
        return renamed;
    }

    static int fits(List<String> steps, List<String> left) {
        for (int at = 0; at + left.size() <= steps.size(); at++) {
            for (String names : namings()) {
                if (rename(left, names).equals(steps.subList(at, at + left.size()))) {
                    return at;
                }
            }
        }
        return NONE;
    }

    /** Of all namings that fit, the one whose names of the right side's own registers are the least, from a on. */
    static List<String> replace(List<String> steps, List<String> left, List<String> right) {
        int at = fits(steps, left);
        String best = null;
        String bestOwn = null;
        for (String names : namings()) {
            if (rename(left, names).equals(steps.subList(at, at + left.size()))) {
                StringBuilder own = new StringBuilder();
                for (int r = 0; r < 4; r++) {
                    String sign = String.valueOf((char) ('a' + r));
                    if (String.join(";", right).contains(sign) && !String.join(";", left).contains(sign)) {
                        own.append(names.charAt(r));
                    }
                }
                if (best == null || own.toString().compareTo(bestOwn) < 0) {
                    best = names;
                    bestOwn = own.toString();
                }
            }
        }
        List<String> replaced = new ArrayList<>(steps.subList(0, at));
        replaced.addAll(rename(right, best));
        replaced.addAll(steps.subList(at + left.size(), steps.size()));
        return replaced;
    }

    /** The code behind go(); its last text is the number of times. */
    static List<String> go(List<String> steps, List<List<String>> lefts, List<List<String>> rights) {
        List<String> now = steps;
        int times = 0;
        boolean more = true;
        while (more && times < 20) {
            int first = 0;
            while (first < lefts.size() && fits(now, lefts.get(first)) == NONE) {
                first++;
            }
            more = first < lefts.size() && now.size() - lefts.get(first).size() + rights.get(first).size() <= 12;
            if (more) {
                now = replace(now, lefts.get(first), rights.get(first));
                times++;
            }
        }
        List<String> told = new ArrayList<>(now);
        told.add(String.valueOf(times));
        return told;
    }

    /** The moves of the shortest code as shortest() tells them; null: no three do. */
    static List<Integer> shortest(List<String> steps, int wanted) {
        List<String> moves = new ArrayList<>();
        List<Integer> numbers = new ArrayList<>();
        for (int target = 0; target < 2; target++) {
            String head = (char) ('a' + target) + "=";
            moves.add(head + "0");
            numbers.add(1000 * target);
            moves.add(head + (char) ('b' - target));
            numbers.add(1000 * target + 100 + 10 * (1 - target));
            for (int act = 0; act < 4; act++) {
                for (int first = 0; first < 2; first++) {
                    for (int second = 0; second < 3; second++) {
                        moves.add(head + "+-*m".charAt(act) + "ab".charAt(first) + "ab1".charAt(second));
                        numbers.add(1000 * target + 100 * (act + 2) + 10 * first + second);
                    }
                }
            }
        }
        int[][] goal = new int[64][];
        int[][] start = new int[64][];
        for (int row = 0; row < 64; row++) {
            start[row] = new int[] {row / 8, row % 8, 0, 0};
            goal[row] = start[row].clone();
            for (String step : steps) {
                perform(step, goal[row]);
            }
        }
        for (int most = 0; most <= 3; most++) {
            List<Integer> found = seek(moves, numbers, start, goal, wanted, most);
            if (found != null) {
                return found;
            }
        }
        return null;
    }

    private static List<Integer> seek(List<String> moves, List<Integer> numbers, int[][] now, int[][] goal, int wanted, int most) {
        if (most == 0) {
            for (int row = 0; row < 64; row++) {
                for (int r = 0; r < 2; r++) {
                    if ((wanted >> r & 1) == 1 && now[row][r] != goal[row][r]) {
                        return null;
                    }
                }
            }
            return new ArrayList<>();
        }
        int[][] then = new int[64][4];
        for (int n = 0; n < moves.size(); n++) {
            for (int row = 0; row < 64; row++) {
                System.arraycopy(now[row], 0, then[row], 0, 4);
                perform(moves.get(n), then[row]);
            }
            List<Integer> found = seek(moves, numbers, then, goal, wanted, most - 1);
            if (found != null) {
                found.add(0, numbers.get(n));
                return found;
            }
        }
        return null;
    }
}

import java.util.Arrays;

/** Straight code of small steps over four registers, and what can be said of it; ../shared/DOC.md tells all. */
public final class FewerSteps {
    public static final int UNKNOWN = -1, OUTSIDE = -2, STATE = -3, FULL = -4, NO = -5, NONE = -6;

    private static final int REGISTERS = 4;
    private static final int ALL_REGISTERS = 15;
    private static final int MOST_STEPS = 12;
    private static final int PLACES = MOST_STEPS + 1;
    private static final int VALUES = REGISTERS + MOST_STEPS;
    private static final int MOST_SIGNS = 80;
    private static final int FIRST_SIGN = 33;
    private static final int LAST_SIGN = 126;
    private static final int ROWS = 4096;
    private static final int BLOCK = 64;
    private static final int RULES = 4;
    private static final int RULE_STEPS = 3;
    private static final int IMAGES = 2;
    private static final int SETTINGS = 5;
    private static final int MOST_UNITS = 3;
    private static final int MOST_DELAY = 5;
    private static final int ORDERED_STEPS = 8;
    private static final int MOST_PLACES_TO_HOLD = 8;
    private static final int MOST_REPLACINGS = 20;
    private static final int SHORTEST_STEPS = 3;
    // Every mending makes the code smaller in steps, acts or registers read, so the rounds are few.
    private static final int MOST_ROUNDS = 1000;
    // Above every time, width and cost that can come up.
    private static final int HUGE = 1 << 29;

    // The parts of a step, and its digits as operands, are numbered as step() tells them.
    private static final int TARGET = 0;
    private static final int ACT = 1;
    private static final int FIRST = 2;
    private static final int SECOND = 3;
    private static final int PARTS = 4;
    private static final int DIGIT = 10;
    private static final int DIGITS = 8;
    private static final int[] ACTS = {'+', '-', '*', 'm'};

    private final Pad pad;
    private final Desk desk;
    private final Desk[] images;
    private final boolean[] imageKept;
    private final Facts facts;
    private final Mender mender;
    private final Links links;
    private final Clock clock;
    private final Holding holding;
    private final Rows someRows;
    private final Rows otherRows;
    private final Search search;
    private final Code spare;
    private final int[] registers;

    public FewerSteps() {
        pad = new Pad();
        desk = new Desk();
        images = new Desk[IMAGES];
        for (int n = 0; n < IMAGES; n++) {
            images[n] = new Desk();
        }
        imageKept = new boolean[IMAGES];
        facts = new Facts();
        mender = new Mender();
        links = new Links();
        clock = new Clock();
        holding = new Holding();
        someRows = new Rows();
        otherRows = new Rows();
        search = new Search();
        spare = new Code();
        registers = new int[REGISTERS];
    }

    // ---- 1 codes

    public int say(int sign) {
        if (sign < FIRST_SIGN || sign > LAST_SIGN) {
            return OUTSIDE;
        }
        return pad.write(sign);
    }

    public int wipe() {
        return pad.empty();
    }

    public int fault(int how) {
        if (how != 0 && how != 1) {
            return OUTSIDE;
        }
        return pad.parse(how == 1);
    }

    public int code() {
        if (pad.parse(false) != NONE) {
            return NO;
        }
        desk.code.copyFrom(pad.left);
        pad.empty();
        return desk.code.count;
    }

    public int want(int set) {
        if (set < 1 || set > ALL_REGISTERS) {
            return OUTSIDE;
        }
        int before = desk.wanted;
        desk.wanted = set;
        return before;
    }

    public int step(int i, int what) {
        if (isNoStep(i)) {
            return UNKNOWN;
        }
        if (what < TARGET || what > SECOND) {
            return OUTSIDE;
        }
        return desk.code.part(i, what);
    }

    public int run(int row, int steps) {
        if (row < 0 || row >= ROWS || steps < 0 || steps > desk.code.count) {
            return OUTSIDE;
        }
        for (int r = 0; r < REGISTERS; r++) {
            registers[r] = (row >> (3 * (REGISTERS - 1 - r))) & 7;
        }
        for (int i = 0; i < steps; i++) {
            registers[desk.code.target(i)] = madeBy(desk.code, i);
        }
        int after = 0;
        for (int r = 0; r < REGISTERS; r++) {
            after = after * 8 + registers[r];
        }
        return after;
    }

    public int keep() {
        desk.other.copyFrom(desk.code);
        return desk.other.count;
    }

    public int unlike() {
        return firstUnlike(desk.code, desk.other, desk.wanted);
    }

    // ---- 2 facts

    public int live(int place) {
        if (isNoPlace(place)) {
            return UNKNOWN;
        }
        facts.followLive(desk.code, desk.wanted);
        return facts.liveAt[place];
    }

    public int bad(int what) {
        if (what != 0 && what != 1) {
            return OUTSIDE;
        }
        if (what == 0) {
            facts.followLive(desk.code, desk.wanted);
        } else {
            facts.followSorts(desk.code);
        }
        int bits = 0;
        for (int i = 0; i < desk.code.count; i++) {
            boolean isBad = what == 0 ? facts.isDead(desk.code, i) : facts.holderOfMade(i) != NONE;
            if (isBad) {
                bits |= 1 << i;
            }
        }
        return bits;
    }

    public int known(int place, int register) {
        if (isNoPlace(place) || isNoRegister(register)) {
            return UNKNOWN;
        }
        facts.followKnown(desk.code);
        return facts.knownAt[place * REGISTERS + register];
    }

    public int sort(int place, int register) {
        if (isNoPlace(place) || isNoRegister(register)) {
            return UNKNOWN;
        }
        facts.followSorts(desk.code);
        return facts.sortAt[place * REGISTERS + register];
    }

    public int mend(int which) {
        if (which < 1 || which > 4) {
            return OUTSIDE;
        }
        return mender.mendOnce(which, desk.code, desk.wanted);
    }

    public int clean() {
        mender.mendAll(desk.code, desk.wanted);
        return desk.code.count;
    }

    // ---- 3 orders

    public int behind(int i) {
        if (isNoStep(i)) {
            return UNKNOWN;
        }
        links.follow(desk.code);
        return links.mustFollow(i);
    }

    public int orders() {
        links.follow(desk.code);
        return clock.countOrders(links, desk.code.count);
    }

    public int set(int which, int v) {
        if (which < 0 || which >= SETTINGS) {
            return OUTSIDE;
        }
        int most = which == 0 ? MOST_UNITS : MOST_DELAY;
        if (v < 1 || v > most) {
            return OUTSIDE;
        }
        int before = desk.settings[which];
        desk.settings[which] = v;
        return before;
    }

    public int tick(int i) {
        if (isNoStep(i)) {
            return UNKNOWN;
        }
        windClock();
        clock.layAsWritten();
        return clock.ticks[i];
    }

    public int time() {
        windClock();
        return clock.layAsWritten();
    }

    public int quickest(int i) {
        if (desk.code.count > ORDERED_STEPS) {
            return STATE;
        }
        if (i < -1 || i >= desk.code.count) {
            return NONE;
        }
        windClock();
        clock.findQuickest();
        return i == -1 ? clock.leastTime : clock.leastOrder[i];
    }

    // ---- 4 values

    public int reads(int i, int k) {
        if (isNoStep(i)) {
            return UNKNOWN;
        }
        if (k != 0 && k != 1) {
            return OUTSIDE;
        }
        links.follow(desk.code);
        return links.source[2 * i + k];
    }

    public int held(int place) {
        if (isNoPlace(place)) {
            return UNKNOWN;
        }
        weighValues();
        return holding.heldAt(place);
    }

    public int width() {
        weighValues();
        return holding.widest();
    }

    public int fewest(int i) {
        if (desk.code.count > ORDERED_STEPS) {
            return STATE;
        }
        if (i < -1 || i >= desk.code.count) {
            return NONE;
        }
        weighValues();
        holding.findFewest();
        return i == -1 ? holding.leastWidth : holding.leastOrder[i];
    }

    public int spill(int k) {
        if (k < 1 || k > MOST_PLACES_TO_HOLD) {
            return OUTSIDE;
        }
        weighValues();
        return holding.putBy(k);
    }

    // ---- 5 rules, the shortest

    public int rule() {
        if (pad.parse(true) != NONE) {
            return NO;
        }
        if (desk.ruleCount >= RULES) {
            return FULL;
        }
        desk.rules[desk.ruleCount].copySides(pad.left, pad.right);
        pad.empty();
        return desk.ruleCount++;
    }

    public int free() {
        int before = desk.ruleCount;
        desk.ruleCount = 0;
        return before;
    }

    public int holds(int rule) {
        if (isNoRule(rule)) {
            return UNKNOWN;
        }
        Rule it = desk.rules[rule];
        return firstUnlike(it.left, it.right, ALL_REGISTERS) == NONE ? 1 : 0;
    }

    public int fits(int rule) {
        if (isNoRule(rule)) {
            return UNKNOWN;
        }
        return desk.rules[rule].firstFit(desk.code);
    }

    public int replace(int rule) {
        if (isNoRule(rule)) {
            return UNKNOWN;
        }
        Rule it = desk.rules[rule];
        int at = it.firstFit(desk.code);
        if (at == NONE) {
            return STATE;
        }
        if (it.countAfter(desk.code) > MOST_STEPS) {
            return FULL;
        }
        it.replaceAt(desk.code, at, spare);
        return desk.code.count;
    }

    public int go() {
        for (int times = 0; times < MOST_REPLACINGS; times++) {
            if (!replaceOnce()) {
                return times;
            }
        }
        return MOST_REPLACINGS;
    }

    public int shortest(int i) {
        if ((desk.wanted | desk.code.named()) > 3) {
            return STATE;
        }
        search.find(desk.code, desk.wanted);
        if (i == -1) {
            return search.length;
        }
        return i >= 0 && i < search.length ? search.moves[i] : NONE;
    }

    public int image(int n) {
        if (n < 0 || n >= IMAGES) {
            return OUTSIDE;
        }
        images[n].copyFrom(desk);
        imageKept[n] = true;
        return 1;
    }

    public int restore(int n) {
        if (n < 0 || n >= IMAGES) {
            return OUTSIDE;
        }
        if (!imageKept[n]) {
            return STATE;
        }
        desk.copyFrom(images[n]);
        return 1;
    }

    public int told(int what) {
        switch (what) {
            case 0:
                return desk.code.count;
            case 1:
                return pad.count;
            case 2:
                return desk.wanted;
            case 3:
                return desk.ruleCount;
            case 9:
                return desk.other.count;
            default:
                return what >= 4 && what < 4 + SETTINGS ? desk.settings[what - 4] : OUTSIDE;
        }
    }

    // ---- what the calls share

    private boolean isNoStep(int i) {
        return i < 0 || i >= desk.code.count;
    }

    private boolean isNoPlace(int place) {
        return place < 0 || place > desk.code.count;
    }

    private boolean isNoRule(int rule) {
        return rule < 0 || rule >= desk.ruleCount;
    }

    private int madeBy(Code code, int i) {
        int x = numberOf(code.part(i, FIRST));
        int y = numberOf(code.part(i, SECOND));
        return act(code.part(i, ACT), x, y);
    }

    private int numberOf(int operand) {
        if (isNoRegister(operand)) {
            return operand >= DIGIT ? operand - DIGIT : 0;
        }
        return registers[operand];
    }

    /** The first row for which two codes come to something else in one of these registers; NONE. */
    private int firstUnlike(Code some, Code other, int set) {
        for (int block = 0; block < ROWS / BLOCK; block++) {
            someRows.beginBlock(block);
            someRows.perform(some);
            otherRows.beginBlock(block);
            otherRows.perform(other);
            long unlike = 0;
            for (int r = 0; r < REGISTERS; r++) {
                if ((set >> r & 1) == 1) {
                    unlike |= someRows.unlikeIn(r, otherRows);
                }
            }
            if (unlike != 0) {
                return block * BLOCK + lowestBit(unlike);
            }
        }
        return NONE;
    }

    private static int lowestBit(long bits) {
        int n = 0;
        while (n < BLOCK - 1 && (bits >>> n & 1) == 0) {
            n++;
        }
        return n;
    }

    private void windClock() {
        links.follow(desk.code);
        clock.wind(desk.code, links, desk.settings);
    }

    private void weighValues() {
        links.follow(desk.code);
        facts.followLive(desk.code, desk.wanted);
        holding.take(desk.code, links, facts);
    }

    /** The first rule that fits decides alone: if its right side is too long, no other rule is asked. */
    private boolean replaceOnce() {
        for (int n = 0; n < desk.ruleCount; n++) {
            Rule it = desk.rules[n];
            int at = it.firstFit(desk.code);
            if (at != NONE) {
                if (it.countAfter(desk.code) > MOST_STEPS) {
                    return false;
                }
                it.replaceAt(desk.code, at, spare);
                return true;
            }
        }
        return false;
    }

    private static boolean isNoRegister(int number) {
        return number < 0 || number >= REGISTERS;
    }

    private static boolean isDigit(int operand) {
        return operand >= DIGIT && operand < DIGIT + DIGITS;
    }

    private static boolean isAct(int sign) {
        return sign == '+' || sign == '-' || sign == '*' || sign == 'm';
    }

    /** What an act makes of two numbers; no act is a copy of the first. */
    private static int act(int sign, int x, int y) {
        switch (sign) {
            case '+':
                return (x + y) & 7;
            case '-':
                return (x - y) & 7;
            case '*':
                return (x * y) & 7;
            case 'm':
                return Math.min(x, y);
            default:
                return x;
        }
    }

    /** Steps one after another, each held as its four parts. */
    private static final class Code {
        private final int[] parts = new int[MOST_STEPS * PARTS];
        private int count;

        void copyFrom(Code from) {
            System.arraycopy(from.parts, 0, parts, 0, parts.length);
            count = from.count;
        }

        int part(int i, int what) {
            if (i < 0 || i >= count || what < TARGET || what > SECOND) {
                return NONE;
            }
            return parts[i * PARTS + what];
        }

        int target(int i) {
            int target = part(i, TARGET);
            return isNoRegister(target) ? 0 : target;
        }

        void add(int target, int act, int first, int second) {
            if (count < MOST_STEPS) {
                count++;
                change(count - 1, target, TARGET);
                rewrite(count - 1, act, first, second);
            }
        }

        void addFrom(Code from, int i) {
            add(from.target(i), from.part(i, ACT), from.part(i, FIRST), from.part(i, SECOND));
        }

        void rewrite(int i, int act, int first, int second) {
            change(i, act, ACT);
            change(i, first, FIRST);
            change(i, second, SECOND);
        }

        void change(int i, int part, int what) {
            if (i >= 0 && i < count && what >= TARGET && what <= SECOND) {
                parts[i * PARTS + what] = part;
            }
        }

        /** Registers that a step reads, as bits. */
        int readBits(int i) {
            return bitOf(part(i, FIRST)) | bitOf(part(i, SECOND));
        }

        /** Registers that come up anywhere, as bits. */
        int named() {
            int bits = 0;
            for (int i = 0; i < count; i++) {
                bits |= readBits(i) | 1 << target(i);
            }
            return bits;
        }

        private static int bitOf(int operand) {
            return isNoRegister(operand) ? 0 : 1 << operand;
        }
    }

    /** The signs, and what they tell: a code (left alone), or a rule. */
    private static final class Pad {
        private static final int DUE_TARGET = 0;
        private static final int DUE_RIGHT = 1;
        private static final int DUE_EQUALS = 2;
        private static final int DUE_MAKING = 3;
        private static final int DUE_FIRST = 4;
        private static final int DUE_SECOND = 5;
        private static final int DUE_MORE = 6;

        private final int[] signs = new int[MOST_SIGNS];
        private final Code left = new Code();
        private final Code right = new Code();
        private int count;
        private boolean asRule;
        private boolean inRight;
        private int due;
        private int target;
        private int act;
        private int first;

        int write(int sign) {
            if (count >= MOST_SIGNS) {
                return FULL;
            }
            signs[count] = sign;
            count++;
            return count;
        }

        int empty() {
            int before = count;
            count = 0;
            return before;
        }

        /** Fills left and right by the signs: the fault, or NONE. */
        int parse(boolean rule) {
            left.count = 0;
            right.count = 0;
            asRule = rule;
            inRight = false;
            due = DUE_TARGET;
            for (int i = 0; i < count; i++) {
                if (!takes(signs[i])) {
                    return i;
                }
            }
            boolean mayEnd = due == DUE_RIGHT || due == DUE_MORE && inRight == asRule;
            return mayEnd ? NONE : count;
        }

        private boolean takes(int sign) {
            switch (due) {
                case DUE_TARGET:
                case DUE_RIGHT:
                    target = operandOf(sign);
                    due = DUE_EQUALS;
                    return !isNoRegister(target);
                case DUE_EQUALS:
                    due = DUE_MAKING;
                    return sign == '=';
                case DUE_MAKING:
                    return takesMaking(sign);
                case DUE_FIRST:
                    first = operandOf(sign);
                    due = DUE_SECOND;
                    return first != NONE;
                case DUE_SECOND:
                    return endsStep(act, first, operandOf(sign));
                default:
                    return takesMore(sign);
            }
        }

        private boolean takesMaking(int sign) {
            if (isAct(sign)) {
                act = sign;
                due = DUE_FIRST;
                return true;
            }
            return endsStep(NONE, operandOf(sign), NONE);
        }

        private boolean endsStep(int sign, int one, int two) {
            if (one == NONE || sign != NONE && two == NONE) {
                return false;
            }
            Code side = inRight ? right : left;
            side.add(target, sign, one, two);
            due = DUE_MORE;
            return true;
        }

        private boolean takesMore(int sign) {
            int most = asRule ? RULE_STEPS : MOST_STEPS;
            Code side = inRight ? right : left;
            if (sign == ';' && side.count < most) {
                due = DUE_TARGET;
                return true;
            }
            if (sign == '>' && asRule && !inRight) {
                inRight = true;
                due = DUE_RIGHT;
                return true;
            }
            return false;
        }

        private static int operandOf(int sign) {
            if (sign >= 'a' && sign <= 'd') {
                return sign - 'a';
            }
            if (sign >= '0' && sign <= '7') {
                return sign - '0' + DIGIT;
            }
            return NONE;
        }
    }

    /** All that an image keeps. */
    private static final class Desk {
        private final Code code = new Code();
        private final Code other = new Code();
        private final Rule[] rules = new Rule[RULES];
        private final int[] settings = new int[SETTINGS];
        private int ruleCount;
        private int wanted = ALL_REGISTERS;

        Desk() {
            for (int n = 0; n < RULES; n++) {
                rules[n] = new Rule();
            }
            Arrays.fill(settings, 1);
        }

        void copyFrom(Desk from) {
            code.copyFrom(from.code);
            other.copyFrom(from.other);
            for (int n = 0; n < RULES; n++) {
                rules[n].copySides(from.rules[n].left, from.rules[n].right);
            }
            System.arraycopy(from.settings, 0, settings, 0, SETTINGS);
            ruleCount = from.ruleCount;
            wanted = from.wanted;
        }
    }

    /** What holds ahead of each place of a code. */
    private static final class Facts {
        // A step brings three new sorts at most: of two digits, and of what it makes.
        private static final int MOST_SORTS = REGISTERS + 3 * MOST_STEPS;

        private final int[] liveAt = new int[PLACES];
        private final int[] knownAt = new int[PLACES * REGISTERS];
        private final int[] sortAt = new int[PLACES * REGISTERS];
        private final int[] madeSort = new int[MOST_STEPS];
        private final int[] digitSort = new int[DIGITS];
        private final int[] actOfSort = new int[MOST_SORTS];
        private final int[] firstOfSort = new int[MOST_SORTS];
        private final int[] secondOfSort = new int[MOST_SORTS];
        private int sorts;

        void followLive(Code code, int wanted) {
            liveAt[code.count] = wanted;
            for (int i = code.count - 1; i >= 0; i--) {
                liveAt[i] = liveAt[i + 1] & ~(1 << code.target(i)) | code.readBits(i);
            }
        }

        boolean isDead(Code code, int i) {
            return (liveAt[i + 1] >> code.target(i) & 1) == 0;
        }

        void followKnown(Code code) {
            for (int r = 0; r < REGISTERS; r++) {
                knownAt[r] = NONE;
            }
            for (int i = 0; i < code.count; i++) {
                int here = i * REGISTERS;
                System.arraycopy(knownAt, here, knownAt, here + REGISTERS, REGISTERS);
                knownAt[here + REGISTERS + code.target(i)] = knownMade(code, i);
            }
        }

        private int knownMade(Code code, int i) {
            int sign = code.part(i, ACT);
            int x = knownOperand(i, code.part(i, FIRST));
            int y = sign == NONE ? 0 : knownOperand(i, code.part(i, SECOND));
            return x == NONE || y == NONE ? NONE : act(sign, x, y);
        }

        int knownOperand(int place, int operand) {
            if (isDigit(operand)) {
                return operand - DIGIT;
            }
            return isNoRegister(operand) ? NONE : knownAt[place * REGISTERS + operand];
        }

        void followSorts(Code code) {
            sorts = REGISTERS;
            Arrays.fill(digitSort, NONE);
            Arrays.fill(actOfSort, NONE);
            for (int r = 0; r < REGISTERS; r++) {
                sortAt[r] = r;
            }
            for (int i = 0; i < code.count; i++) {
                int here = i * REGISTERS;
                madeSort[i] = sortMade(code, i);
                System.arraycopy(sortAt, here, sortAt, here + REGISTERS, REGISTERS);
                sortAt[here + REGISTERS + code.target(i)] = madeSort[i];
            }
        }

        private int sortMade(Code code, int i) {
            int sign = code.part(i, ACT);
            int x = sortOperand(i, code.part(i, FIRST));
            if (sign == NONE) {
                return x;
            }
            int y = sortOperand(i, code.part(i, SECOND));
            // Acts that may be turned round are written with the lesser sort first.
            boolean turned = sign != '-' && y < x;
            return sortOfAct(sign, turned ? y : x, turned ? x : y);
        }

        private int sortOperand(int place, int operand) {
            if (!isDigit(operand)) {
                return isNoRegister(operand) ? NONE : sortAt[place * REGISTERS + operand];
            }
            int digit = operand - DIGIT;
            if (digitSort[digit] == NONE) {
                digitSort[digit] = sorts;
                sorts++;
            }
            return digitSort[digit];
        }

        private int sortOfAct(int sign, int x, int y) {
            for (int s = REGISTERS; s < sorts; s++) {
                if (actOfSort[s] == sign && firstOfSort[s] == x && secondOfSort[s] == y) {
                    return s;
                }
            }
            actOfSort[sorts] = sign;
            firstOfSort[sorts] = x;
            secondOfSort[sorts] = y;
            sorts++;
            return sorts - 1;
        }

        /** The least register that holds, ahead of a step, what it makes. */
        int holderOfMade(int i) {
            for (int r = 0; r < REGISTERS; r++) {
                if (sortAt[i * REGISTERS + r] == madeSort[i]) {
                    return r;
                }
            }
            return NONE;
        }
    }

    /** The four mendings; each goes by facts of the code as it is ahead of it. */
    private static final class Mender {
        private final Facts facts = new Facts();

        int mendOnce(int which, Code code, int wanted) {
            switch (which) {
                case 1:
                    return writeKnown(code);
                case 2:
                    return workOutDigits(code);
                case 3:
                    return copyNeedless(code);
                default:
                    return dropUseless(code, wanted);
            }
        }

        void mendAll(Code code, int wanted) {
            int changed = 1;
            for (int round = 0; round < MOST_ROUNDS && changed > 0; round++) {
                changed = 0;
                for (int which = 1; which <= 4; which++) {
                    changed += mendOnce(which, code, wanted);
                }
            }
        }

        private int writeKnown(Code code) {
            facts.followKnown(code);
            int changed = 0;
            for (int i = 0; i < code.count; i++) {
                boolean first = writeKnownOperand(code, i, FIRST);
                boolean second = writeKnownOperand(code, i, SECOND);
                if (first || second) {
                    changed++;
                }
            }
            return changed;
        }

        private boolean writeKnownOperand(Code code, int i, int which) {
            int operand = code.part(i, which);
            if (isNoRegister(operand)) {
                return false;
            }
            int number = facts.knownOperand(i, operand);
            if (number == NONE) {
                return false;
            }
            code.change(i, number + DIGIT, which);
            return true;
        }

        private int workOutDigits(Code code) {
            int changed = 0;
            for (int i = 0; i < code.count; i++) {
                int sign = code.part(i, ACT);
                int x = code.part(i, FIRST);
                int y = code.part(i, SECOND);
                if (isAct(sign) && isDigit(x) && isDigit(y)) {
                    code.rewrite(i, NONE, act(sign, x - DIGIT, y - DIGIT) + DIGIT, NONE);
                    changed++;
                }
            }
            return changed;
        }

        private int copyNeedless(Code code) {
            facts.followSorts(code);
            int changed = 0;
            for (int i = 0; i < code.count; i++) {
                int holder = facts.holderOfMade(i);
                if (holder != NONE && isAct(code.part(i, ACT))) {
                    code.rewrite(i, NONE, holder, NONE);
                    changed++;
                }
            }
            return changed;
        }

        private int dropUseless(Code code, int wanted) {
            facts.followLive(code, wanted);
            int before = code.count;
            int useless = 0;
            for (int i = 0; i < before; i++) {
                boolean toItself = code.part(i, ACT) == NONE && code.part(i, FIRST) == code.target(i);
                if (toItself || facts.isDead(code, i)) {
                    useless |= 1 << i;
                }
            }
            int left = 0;
            for (int i = 0; i < before; i++) {
                if ((useless >> i & 1) == 0) {
                    code.change(left, code.target(i), TARGET);
                    code.rewrite(left, code.part(i, ACT), code.part(i, FIRST), code.part(i, SECOND));
                    left++;
                }
            }
            code.count = left;
            return before - left;
        }
    }

    /** Which values steps read, and which steps must stand behind which. */
    private static final class Links {
        private final int[] valueAt = new int[PLACES * REGISTERS];
        private final int[] source = new int[2 * MOST_STEPS];
        private final int[] needs = new int[MOST_STEPS];
        private final int[] awaits = new int[MOST_STEPS];
        private final int[] readers = new int[VALUES];
        private final int[] readings = new int[VALUES];

        void follow(Code code) {
            Arrays.fill(readers, 0);
            Arrays.fill(readings, 0);
            for (int r = 0; r < REGISTERS; r++) {
                valueAt[r] = r;
            }
            for (int i = 0; i < code.count; i++) {
                needs[i] = 0;
                noteReading(i, 0, code.part(i, FIRST));
                noteReading(i, 1, code.part(i, SECOND));
                awaits[i] = usersAhead(code, i);
                int here = i * REGISTERS;
                System.arraycopy(valueAt, here, valueAt, here + REGISTERS, REGISTERS);
                valueAt[here + REGISTERS + code.target(i)] = REGISTERS + i;
            }
        }

        private void noteReading(int i, int k, int operand) {
            source[2 * i + k] = NONE;
            if (isNoRegister(operand)) {
                return;
            }
            int value = valueAt[i * REGISTERS + operand];
            source[2 * i + k] = value;
            readers[value] |= 1 << i;
            readings[value]++;
            if (value >= REGISTERS) {
                needs[i] |= 1 << (value - REGISTERS);
            }
        }

        /** Steps ahead that read or have a step's target. */
        private static int usersAhead(Code code, int i) {
            int target = code.target(i);
            int bits = 0;
            for (int j = 0; j < i; j++) {
                if (code.target(j) == target || (code.readBits(j) >> target & 1) == 1) {
                    bits |= 1 << j;
                }
            }
            return bits;
        }

        int mustFollow(int i) {
            return needs[i] | awaits[i];
        }
    }

    /** Orders: how many, and the ticks in which their steps begin. */
    private static final class Clock {
        private final int[] ways = new int[1 << MOST_STEPS];
        private final int[] delays = new int[MOST_STEPS];
        private final int[] needs = new int[MOST_STEPS];
        private final int[] awaits = new int[MOST_STEPS];
        private final int[] ticks = new int[MOST_STEPS];
        private final int[] order = new int[ORDERED_STEPS];
        private final int[] leastOrder = new int[ORDERED_STEPS];
        private int count;
        private int units;
        private int leastTime;

        int countOrders(Links links, int steps) {
            int all = (1 << steps) - 1;
            Arrays.fill(ways, 0);
            ways[0] = 1;
            for (int done = 0; done < all; done++) {
                for (int i = 0; i < steps && ways[done] > 0; i++) {
                    boolean mayCome = (done >> i & 1) == 0 && (links.mustFollow(i) & ~done) == 0;
                    if (mayCome) {
                        ways[done | 1 << i] += ways[done];
                    }
                }
            }
            return ways[all];
        }

        void wind(Code code, Links links, int[] settings) {
            count = code.count;
            units = settings[0];
            for (int i = 0; i < count; i++) {
                delays[i] = delayOf(code.part(i, ACT), settings);
                needs[i] = links.needs[i];
                awaits[i] = links.awaits[i];
            }
        }

        private static int delayOf(int sign, int[] settings) {
            for (int n = 0; n < ACTS.length; n++) {
                if (ACTS[n] == sign) {
                    return settings[n + 1];
                }
            }
            return 1;
        }

        /** Sets the ticks of the steps as they are written: the time. */
        int layAsWritten() {
            int now = 0;
            int begun = 0;
            int end = 0;
            for (int i = 0; i < count; i++) {
                int tick = firstTick(i, now, begun);
                begun = tick == now ? begun + 1 : 1;
                now = tick;
                ticks[i] = tick;
                end = Math.max(end, tick + delays[i]);
            }
            return end;
        }

        /** The first tick for a step, when the one ahead began at now, the last of so many begun there. */
        private int firstTick(int i, int now, int begun) {
            int tick = begun < units ? now : now + 1;
            for (int j = 0; j < i; j++) {
                if ((needs[i] >> j & 1) == 1) {
                    tick = Math.max(tick, ticks[j] + delays[j]);
                }
                if ((awaits[i] >> j & 1) == 1) {
                    tick = Math.max(tick, ticks[j] + 1);
                }
            }
            return tick;
        }

        void findQuickest() {
            leastTime = HUGE;
            if (count <= ORDERED_STEPS) {
                layOn(0, 0, 0, 0, 0);
            }
        }

        /** Tries orders by numbers, so that a later one must be better; what comes later never ends sooner. */
        private void layOn(int depth, int done, int now, int begun, int end) {
            if (end >= leastTime) {
                return;
            }
            if (depth >= count || depth >= ORDERED_STEPS) {
                leastTime = end;
                System.arraycopy(order, 0, leastOrder, 0, ORDERED_STEPS);
                return;
            }
            for (int i = 0; i < count; i++) {
                boolean mayCome = (done >> i & 1) == 0 && ((needs[i] | awaits[i]) & ~done) == 0;
                if (mayCome) {
                    int tick = firstTick(i, now, begun);
                    ticks[i] = tick;
                    order[depth] = i;
                    layOn(depth + 1, done | 1 << i, tick, tick == now ? begun + 1 : 1, Math.max(end, tick + delays[i]));
                }
            }
        }
    }

    /** How many values are held at once, by the written order and by the best one, and which to put by. */
    private static final class Holding {
        private static final int SETS = 1 << ORDERED_STEPS;
        private static final int KEPT_SETS = 1 << REGISTERS;
        // A cost holds, from the top: how many values, their readings, the values as bits.
        private static final int ONE_VALUE = 1 << 21;
        private static final int ONE_READING = 1 << VALUES;

        private final int[] targets = new int[MOST_STEPS];
        private final int[] held = new int[PLACES];
        private final int[] heldRegisters = new int[PLACES];
        private final int[] costs = new int[VALUES];
        private final int[] readers = new int[VALUES];
        private final int[] needs = new int[MOST_STEPS];
        private final int[] heldCount = new int[SETS];
        private final int[] widthFrom = new int[SETS];
        private final int[] leastOrder = new int[ORDERED_STEPS];
        private int[] cost = new int[KEPT_SETS];
        private int[] nextCost = new int[KEPT_SETS];
        private int count;
        private int lasting;
        private int leastWidth;

        /** Takes what it needs of a code's links and of where registers are live. */
        void take(Code code, Links links, Facts facts) {
            count = code.count;
            for (int v = 0; v < VALUES; v++) {
                readers[v] = links.readers[v];
                costs[v] = ONE_VALUE + links.readings[v] * ONE_READING + (1 << v);
            }
            for (int i = 0; i < count; i++) {
                targets[i] = code.target(i);
                needs[i] = links.needs[i];
            }
            for (int place = 0; place <= count; place++) {
                // A held value stands in a live register, or was made just now.
                heldRegisters[place] = facts.liveAt[place] | (place == 0 ? 0 : 1 << targets[place - 1]);
                held[place] = valuesIn(heldRegisters[place], place, links);
            }
            lasting = valuesIn(facts.liveAt[count], count, links);
        }

        private static int valuesIn(int set, int place, Links links) {
            int bits = 0;
            for (int r = 0; r < REGISTERS; r++) {
                if ((set >> r & 1) == 1) {
                    bits |= 1 << links.valueAt[place * REGISTERS + r];
                }
            }
            return bits;
        }

        int heldAt(int place) {
            return place < 0 || place > count ? 0 : held[place];
        }

        int widest() {
            int most = 0;
            for (int place = 0; place <= count; place++) {
                most = Math.max(most, Integer.bitCount(held[place]));
            }
            return most;
        }

        /** What is held hangs on which steps are done, not on their order: so each set is weighed once. */
        void findFewest() {
            if (count > ORDERED_STEPS) {
                return;
            }
            int all = (1 << count) - 1;
            widthFrom[all] = 0;
            heldCount[all] = heldBehind(all);
            for (int done = all - 1; done >= 0; done--) {
                heldCount[done] = heldBehind(done);
                widthFrom[done] = HUGE;
                for (int i = 0; i < count; i++) {
                    widthFrom[done] = Math.min(widthFrom[done], widthBy(done, i));
                }
            }
            leastWidth = Math.max(heldCount[0], widthFrom[0]);
            tellFirstOrder();
        }

        private int heldBehind(int done) {
            int many = 0;
            for (int v = 0; v < REGISTERS + count; v++) {
                boolean made = v < REGISTERS || (done >> (v - REGISTERS) & 1) == 1;
                boolean needed = (lasting >> v & 1) == 1 || (readers[v] & ~done) != 0;
                if (made && needed) {
                    many++;
                }
            }
            return many;
        }

        /** The least width of what follows, if a step comes next; HUGE: it may not. */
        private int widthBy(int done, int i) {
            if ((done >> i & 1) == 1 || (needs[i] & ~done) != 0) {
                return HUGE;
            }
            int value = REGISTERS + i;
            boolean unneeded = readers[value] == 0 && (lasting >> value & 1) == 0;
            int then = done | 1 << i;
            return Math.max(heldCount[then] + (unneeded ? 1 : 0), widthFrom[then]);
        }

        private void tellFirstOrder() {
            int done = 0;
            for (int depth = 0; depth < count && depth < ORDERED_STEPS; depth++) {
                int next = 0;
                while (next < count - 1 && widthBy(done, next) > leastWidth) {
                    next++;
                }
                leastOrder[depth] = next;
                done |= 1 << next;
            }
        }

        /** Goes from place to place; cost[kept] is the least cost that leaves just these registers' values. */
        int putBy(int most) {
            for (int kept = 0; kept < KEPT_SETS; kept++) {
                boolean lawful = (kept & ~heldRegisters[0]) == 0 && Integer.bitCount(kept) <= most;
                cost[kept] = lawful ? costOf(heldRegisters[0] & ~kept) : HUGE;
            }
            for (int i = 0; i < count; i++) {
                passStep(i, most);
            }
            int least = HUGE;
            for (int kept = 0; kept < KEPT_SETS; kept++) {
                least = Math.min(least, cost[kept]);
            }
            return least & (ONE_READING - 1);
        }

        private int costOf(int firstValues) {
            int sum = 0;
            for (int v = 0; v < REGISTERS; v++) {
                if ((firstValues >> v & 1) == 1) {
                    sum += costs[v];
                }
            }
            return sum;
        }

        private void passStep(int i, int most) {
            int target = 1 << targets[i];
            Arrays.fill(nextCost, HUGE);
            for (int kept = 0; kept < KEPT_SETS; kept++) {
                if (cost[kept] < HUGE) {
                    int left = kept & heldRegisters[i + 1] & ~target;
                    nextCost[left] = Math.min(nextCost[left], cost[kept] + costs[REGISTERS + i]);
                    if (Integer.bitCount(left) < most) {
                        nextCost[left | target] = Math.min(nextCost[left | target], cost[kept]);
                    }
                }
            }
            int[] passed = cost;
            cost = nextCost;
            nextCost = passed;
        }
    }

    /** A rule, and the names by which its registers were called when it was last held against a code. */
    private static final class Rule {
        private final Code left = new Code();
        private final Code right = new Code();
        private final int[] names = new int[REGISTERS];
        private int taken;

        void copySides(Code newLeft, Code newRight) {
            left.copyFrom(newLeft);
            right.copyFrom(newRight);
        }

        int countAfter(Code code) {
            return code.count - left.count + right.count;
        }

        int firstFit(Code code) {
            for (int at = 0; at + left.count <= code.count; at++) {
                if (fitsAt(code, at)) {
                    return at;
                }
            }
            return NONE;
        }

        private boolean fitsAt(Code code, int at) {
            Arrays.fill(names, NONE);
            taken = 0;
            for (int i = 0; i < left.count; i++) {
                for (int what = TARGET; what <= SECOND; what++) {
                    int mine = left.part(i, what);
                    int its = code.part(at + i, what);
                    boolean alike = what == ACT ? mine == its : mayBeCalled(mine, its);
                    if (!alike) {
                        return false;
                    }
                }
            }
            return true;
        }

        private boolean mayBeCalled(int mine, int its) {
            if (isNoRegister(mine)) {
                return mine == its;
            }
            if (isNoRegister(its)) {
                return false;
            }
            if (names[mine] == NONE && (taken >> its & 1) == 0) {
                giveName(mine, its);
            }
            return names[mine] == its;
        }

        private void giveName(int mine, int its) {
            names[mine] = its;
            taken |= 1 << its;
        }

        /** Puts the right side where the left one stands; the caller has seen that it fits there and is not too long. */
        void replaceAt(Code code, int at, Code spare) {
            if (!fitsAt(code, at)) {
                return;
            }
            nameTheRest();
            spare.copyFrom(code);
            code.count = at;
            for (int i = 0; i < right.count; i++) {
                code.add(called(right.part(i, TARGET)), right.part(i, ACT),
                        called(right.part(i, FIRST)), called(right.part(i, SECOND)));
            }
            for (int i = at + left.count; i < spare.count; i++) {
                code.addFrom(spare, i);
            }
        }

        private void nameTheRest() {
            int inRight = right.named();
            for (int r = 0; r < REGISTERS; r++) {
                if ((inRight >> r & 1) == 1 && names[r] == NONE) {
                    int name = 0;
                    while (name < REGISTERS - 1 && (taken >> name & 1) == 1) {
                        name++;
                    }
                    giveName(r, name);
                }
            }
        }

        private int called(int operand) {
            return isNoRegister(operand) ? operand : names[operand];
        }
    }

    /** 64 rows at once: a long holds one bit (worth 1, 2 or 4) of one register's number in each of them. */
    private static final class Rows {
        private static final long[] HIGH_DIGIT = {0xFF00FF00FF00FF00L, 0xFFFF0000FFFF0000L, 0xFFFFFFFF00000000L};
        private static final long[] LOW_DIGIT = {0xAAAAAAAAAAAAAAAAL, 0xCCCCCCCCCCCCCCCCL, 0xF0F0F0F0F0F0F0F0L};
        private static final int BITS = 3;

        private final long[] bits = new long[REGISTERS * BITS];
        private long ones;
        private long twos;
        private long fours;

        /** The rows 64 * block and on: a and b are the same in all of them. */
        void beginBlock(int block) {
            for (int n = 0; n < BITS; n++) {
                bits[n] = -(long) (block >> (BITS + n) & 1);
                bits[BITS + n] = -(long) (block >> n & 1);
                bits[2 * BITS + n] = HIGH_DIGIT[n];
                bits[3 * BITS + n] = LOW_DIGIT[n];
            }
        }

        /** All that may be in a and b, with nothing in c and d. */
        void beginPairs() {
            for (int n = 0; n < BITS; n++) {
                bits[n] = HIGH_DIGIT[n];
                bits[BITS + n] = LOW_DIGIT[n];
                bits[2 * BITS + n] = 0;
                bits[3 * BITS + n] = 0;
            }
        }

        void copyFrom(Rows from) {
            System.arraycopy(from.bits, 0, bits, 0, bits.length);
        }

        void perform(Code code) {
            for (int i = 0; i < code.count; i++) {
                make(code.part(i, ACT), code.part(i, FIRST), code.part(i, SECOND));
                storeMade(code.target(i), this);
            }
        }

        /** Makes a number in each row, without putting it into a register. */
        void make(int sign, int first, int second) {
            makeOf(sign, bit(first, 0), bit(first, 1), bit(first, 2), bit(second, 0), bit(second, 1), bit(second, 2));
        }

        void storeMade(int target, Rows in) {
            in.bits[target * BITS] = ones;
            in.bits[target * BITS + 1] = twos;
            in.bits[target * BITS + 2] = fours;
        }

        boolean hasMade(int target, Rows wanted) {
            return wanted.bits[target * BITS] == ones
                    && wanted.bits[target * BITS + 1] == twos
                    && wanted.bits[target * BITS + 2] == fours;
        }

        /** The rows in which a register is not what it is in others. */
        long unlikeIn(int register, Rows others) {
            long unlike = 0;
            for (int n = register * BITS; n < register * BITS + BITS; n++) {
                unlike |= bits[n] ^ others.bits[n];
            }
            return unlike;
        }

        private long bit(int operand, int n) {
            if (isNoRegister(operand)) {
                return isDigit(operand) ? -(long) (operand - DIGIT >> n & 1) : 0;
            }
            return bits[operand * BITS + n];
        }

        private void makeOf(int sign, long x1, long x2, long x4, long y1, long y2, long y4) {
            switch (sign) {
                case '+':
                    sum(x1, x2, x4, y1, y2, y4, 0);
                    break;
                case '-':
                    // By 8, less y is the turned bits of y, and one more.
                    sum(x1, x2, x4, ~y1, ~y2, ~y4, -1);
                    break;
                case '*':
                    ones = x1 & y1;
                    twos = x2 & y1 ^ x1 & y2;
                    fours = x4 & y1 ^ x2 & y2 ^ x1 & y4 ^ x2 & y1 & x1 & y2;
                    break;
                case 'm':
                    lesser(x1, x2, x4, y1, y2, y4);
                    break;
                default:
                    ones = x1;
                    twos = x2;
                    fours = x4;
            }
        }

        private void sum(long x1, long x2, long x4, long y1, long y2, long y4, long carry) {
            long carry2 = x1 & y1 | carry & (x1 ^ y1);
            long carry4 = x2 & y2 | carry2 & (x2 ^ y2);
            ones = x1 ^ y1 ^ carry;
            twos = x2 ^ y2 ^ carry2;
            fours = x4 ^ y4 ^ carry4;
        }

        private void lesser(long x1, long x2, long x4, long y1, long y2, long y4) {
            long below1 = ~x1 & y1;
            long below2 = ~x2 & y2 | ~(x2 ^ y2) & below1;
            long below = ~x4 & y4 | ~(x4 ^ y4) & below2;
            ones = x1 & below | y1 & ~below;
            twos = x2 & below | y2 & ~below;
            fours = x4 & below | y4 & ~below;
        }
    }

    /** The search for the shortest code over a and b. */
    private static final class Search {
        // Each as shortest() tells it, without target; what is left out does nothing, or what an earlier one does.
        private static final int[] MOVES =
                {0, 100, 200, 201, 202, 211, 212, 301, 302, 310, 312, 400, 401, 411, 501, 502, 512};

        private final Rows start = new Rows();
        private final Rows goal = new Rows();
        private final Rows asked = new Rows();
        private final Rows[] stages = new Rows[SHORTEST_STEPS];
        private final int[] moves = new int[SHORTEST_STEPS];
        private int wanted;
        private int length;

        Search() {
            start.beginPairs();
            for (int n = 0; n < SHORTEST_STEPS; n++) {
                stages[n] = new Rows();
            }
        }

        /** Sets length and moves; the answer hangs on goal and wanted alone, so the same ones are not sought twice. */
        void find(Code code, int set) {
            asked.copyFrom(start);
            asked.perform(code);
            if (set == wanted && (asked.unlikeIn(0, goal) | asked.unlikeIn(1, goal)) == 0) {
                return;
            }
            goal.copyFrom(asked);
            wanted = set;
            length = differs(start, 0) || differs(start, 1) ? NONE : 0;
            for (int most = 1; most <= SHORTEST_STEPS && length == NONE; most++) {
                stages[0].copyFrom(start);
                if (reaches(0, most)) {
                    length = most;
                }
            }
        }

        private boolean differs(Rows rows, int register) {
            return (wanted >> register & 1) == 1 && rows.unlikeIn(register, goal) != 0;
        }

        /** Whether so many steps, from the one of this depth on, come to the goal. */
        private boolean reaches(int depth, int most) {
            if (depth >= most || depth >= SHORTEST_STEPS) {
                return false;
            }
            for (int target = 0; target < 2; target++) {
                // The last step can not mend the other register, nor is it of use in one that is not wanted.
                boolean useless = depth == most - 1
                        && (differs(stages[depth], 1 - target) || (wanted >> target & 1) == 0);
                for (int n = 0; n < MOVES.length && !useless; n++) {
                    if (reachesBy(depth, most, target, MOVES[n])) {
                        return true;
                    }
                }
            }
            return false;
        }

        private boolean reachesBy(int depth, int most, int target, int move) {
            Rows here = stages[depth];
            int kind = move / 100;
            int first = kind == 0 ? DIGIT : kind == 1 ? 1 - target : move / 10 % 10;
            int second = move % 10 == 2 ? DIGIT + 1 : move % 10;
            here.make(kind < 2 ? NONE : ACTS[kind - 2], first, second);
            moves[depth] = 1000 * target + move + (kind == 1 ? 10 * first : 0);
            if (depth == most - 1) {
                return here.hasMade(target, goal);
            }
            if (depth + 1 >= SHORTEST_STEPS) {
                return false;
            }
            stages[depth + 1].copyFrom(here);
            here.storeMade(target, stages[depth + 1]);
            return reaches(depth + 1, most);
        }
    }
}

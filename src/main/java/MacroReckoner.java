/**
 * A desk calculator with a stack: long decimal numbers with scales, texts that can be run,
 * registers and choices. Everything it needs is made by the constructor and used again, so that
 * no later call makes an object.
 */
public final class MacroReckoner {
    public static final int IDLE = 0;
    public static final int MORE = 1;
    public static final int WAITS = 2;
    public static final int BAD = -1;
    public static final int EMPTY = -2;
    public static final int TYPE = -3;
    public static final int RANGE = -4;
    public static final int ZERO = -5;
    public static final int ROOT = -6;
    public static final int SIZE = -7;
    public static final int FULL = -8;
    public static final int DEEP = -9;
    public static final int OVER = -10;

    private static final int DONE = 0;
    private static final int MOST_COMMANDS = 100;
    private static final int MOST_INPUT = 100;
    private static final int MOST_TEXT = 60;
    private static final int MOST_DIGITS = 60;
    private static final int MOST_SCALE = 40;
    private static final int MOST_STACKED = 20;
    private static final int MOST_TEXTS_RUN = 8;
    private static final int MOST_PRINTED = 200;
    private static final int MOST_POWER = 200;
    private static final int REGISTERS = 26;
    private static final char LINE_END = 10;
    private static final String TAKE_TWO = "+-*/%^r<>=";
    private static final String TAKE_ONE = "vdkpnZXsx";
    private static final String TAKE_NUMBERS = "+-*/%^vk<>=";

    private final Tape input = new Tape(MOST_INPUT);
    private final Tape[] texts = new Tape[MOST_TEXTS_RUN];
    private int textsRun = 0;
    private final Token token = new Token();
    private final Value[] stack = new Value[MOST_STACKED];
    private int height = 0;
    private final Value[] registers = new Value[REGISTERS];
    private int workScale = 0;
    private final Value result = new Value();
    private final Arithmetic arithmetic = new Arithmetic(result);
    private final Paper paper = new Paper();

    public MacroReckoner() {
        for (int i = 0; i < MOST_TEXTS_RUN; i++) {
            texts[i] = new Tape(MOST_TEXT);
        }
        for (int i = 0; i < MOST_STACKED; i++) {
            stack[i] = new Value();
        }
        for (int i = 0; i < REGISTERS; i++) {
            registers[i] = new Value();
        }
    }

    public boolean type(char c) {
        return c >= 32 && c <= 126 && input.append(c);
    }

    public int run(int commands) throws IllegalArgumentException {
        if (commands < 1 || commands > MOST_COMMANDS) {
            throw new IllegalArgumentException();
        }
        int error = DONE;
        for (int done = 0; done < commands && error == DONE && takeToken(); done++) {
            error = whatIsMissing(token.command);
            if (error == DONE) {
                error = perform(token.command);
            }
        }
        if (error != DONE) {
            textsRun = 0;
        }
        int answer = error != DONE ? error : whatIsLeft();
        input.skipSpaces();
        return answer;
    }

    public int drop() {
        int had = input.left();
        input.clear();
        textsRun = 0;
        return had;
    }

    public int depth() {
        return height;
    }

    public int scale() {
        return workScale;
    }

    public int running() {
        forgetSpentTexts();
        return textsRun;
    }

    public boolean isText(char register) throws IllegalArgumentException {
        if (register < 'a' || register > 'z') {
            throw new IllegalArgumentException();
        }
        return registers[register - 'a'].text;
    }

    public int printed() {
        return paper.length;
    }

    public char charAt(int p) {
        return p >= 0 && p < paper.length ? paper.row[p] : 0;
    }

    public int tear() {
        int had = paper.length;
        paper.clear();
        return had;
    }

    // Only the topmost text loses characters, and it is looked at before another comes above it:
    // so a spent text is never hidden under others.
    private void forgetSpentTexts() {
        while (textsRun > 0 && texts[textsRun - 1].isBlank()) {
            textsRun--;
        }
    }

    private Tape source() {
        return textsRun > 0 ? texts[textsRun - 1] : input;
    }

    private boolean findToken() {
        forgetSpentTexts();
        return token.read(source(), textsRun > 0);
    }

    private boolean takeToken() {
        boolean found = findToken();
        if (found) {
            source().take(token.length);
        }
        return found;
    }

    private int whatIsLeft() {
        if (findToken()) {
            return MORE;
        }
        return input.isBlank() ? IDLE : WAITS;
    }

    // What a command takes is looked at here alone: those that perform it rely on that.
    private int whatIsMissing(char command) {
        int needed = TAKE_TWO.indexOf(command) >= 0 ? 2 : TAKE_ONE.indexOf(command) >= 0 ? 1 : 0;
        if (height < needed) {
            return EMPTY;
        }
        if (TAKE_NUMBERS.indexOf(command) >= 0) {
            for (int i = height - needed; i < height; i++) {
                if (stack[i].text) {
                    return TYPE;
                }
            }
        }
        return DONE;
    }

    private int perform(char command) {
        switch (command) {
            case Token.NUMERAL: return pushNumeral();
            case '[': return pushText();
            case '+': case '-': case '*': case '/': case '%': case '^': return calculate(command);
            case 'v': return takeRoot();
            case 'd': return push(stack[height - 1]);
            case 'r': return swap();
            case 'c': return clearStack();
            case 'z': return pushCount(height);
            case 'K': return pushCount(workScale);
            case 'k': return takeScale();
            case 'p': return printTop();
            case 'n': return printAndTake();
            case 'f': return printAll();
            case 'Z': return measure(true);
            case 'X': return measure(false);
            case 's': return store(registers[token.register]);
            case 'l': return push(registers[token.register]);
            case 'x': return runTop();
            case '<': case '>': case '=': return choose(command, registers[token.register]);
            case 'q': return endTexts();
            default: return BAD;
        }
    }

    private int push(Value value) {
        if (height == MOST_STACKED) {
            return FULL;
        }
        stack[height].become(value);
        height++;
        return DONE;
    }

    private int pushNumeral() {
        result.becomeNumeral(token.row, token.start, token.length);
        return result.fits() ? push(result) : SIZE;
    }

    private int pushText() {
        int length = token.length - 2;
        if (length > MOST_TEXT) {
            return SIZE;
        }
        result.becomeText(token.row, token.start + 1, length);
        return push(result);
    }

    private int pushCount(int count) {
        result.becomeCount(count);
        return push(result);
    }

    private int calculate(char command) {
        Value x = stack[height - 2];
        Value y = stack[height - 1];
        int error;
        switch (command) {
            case '+': error = arithmetic.sum(x, y, y.negative); break;
            case '-': error = arithmetic.sum(x, y, !y.negative); break;
            case '*': error = arithmetic.product(x, y, workScale); break;
            case '/': error = arithmetic.quotient(x, y, workScale); break;
            case '%': error = arithmetic.remainder(x, y, workScale); break;
            default: error = arithmetic.power(x, y, workScale); break;
        }
        if (error == DONE) {
            x.become(result);
            height--;
        }
        return error;
    }

    private int takeRoot() {
        Value x = stack[height - 1];
        int error = arithmetic.root(x, workScale);
        if (error == DONE) {
            x.become(result);
        }
        return error;
    }

    private int swap() {
        Value top = stack[height - 1];
        stack[height - 1] = stack[height - 2];
        stack[height - 2] = top;
        return DONE;
    }

    private int clearStack() {
        height = 0;
        return DONE;
    }

    private int takeScale() {
        Value x = stack[height - 1];
        // Two digits first: the lowest group alone tells nothing of a longer number.
        if (x.scale != 0 || x.negative || x.whole.size() > 2 || x.whole.lowest() > MOST_SCALE) {
            return RANGE;
        }
        workScale = x.whole.lowest();
        height--;
        return DONE;
    }

    private int printTop() {
        Value top = stack[height - 1];
        if (top.printLength() + 1 > paper.room()) {
            return OVER;
        }
        paper.print(top);
        paper.put(LINE_END);
        return DONE;
    }

    private int printAndTake() {
        Value top = stack[height - 1];
        if (top.printLength() > paper.room()) {
            return OVER;
        }
        paper.print(top);
        height--;
        return DONE;
    }

    private int printAll() {
        int needed = 0;
        for (int i = 0; i < height; i++) {
            needed += stack[i].printLength() + 1;
        }
        if (needed > paper.room()) {
            return OVER;
        }
        for (int i = height - 1; i >= 0; i--) {
            paper.print(stack[i]);
            paper.put(LINE_END);
        }
        return DONE;
    }

    private int measure(boolean ofSize) {
        Value top = stack[height - 1];
        if (top.text) {
            top.becomeCount(ofSize ? top.length : 0);
        } else {
            top.becomeCount(ofSize ? top.whole.size() : top.scale);
        }
        return DONE;
    }

    private int store(Value register) {
        register.become(stack[height - 1]);
        height--;
        return DONE;
    }

    private int runTop() {
        Value top = stack[height - 1];
        if (!top.text) {
            return DONE;
        }
        int error = beginText(top);
        if (error == DONE) {
            height--;
        }
        return error;
    }

    private int choose(char command, Value register) {
        Value x = stack[height - 2];
        Value y = stack[height - 1];
        int order = arithmetic.order(y, x);
        boolean holds = command == '<' ? order < 0 : command == '>' ? order > 0 : order == 0;
        int error = holds && register.text ? beginText(register) : DONE;
        if (error == DONE) {
            height -= 2;
        }
        return error;
    }

    private int beginText(Value text) {
        if (Tape.onlySpaces(text.row, 0, text.length)) {
            return DONE;
        }
        forgetSpentTexts();
        if (textsRun == MOST_TEXTS_RUN) {
            return DEEP;
        }
        texts[textsRun].fill(text.row, text.length);
        textsRun++;
        return DONE;
    }

    private int endTexts() {
        textsRun = 0;
        return DONE;
    }

    /** A whole number not below 0, in groups of nine digits, the lowest group first. */
    private static final class Whole {
        private static final int BASE = 1000000000;
        private static final int GROUP_DIGITS = 9;
        private static final int[] TENS = {
            1, 10, 100, 1000, 10000, 100000, 1000000, 10000000, 100000000
        };
        // The longest is a power of 200 digits times a number of 60, in 30 groups; the greatest
        // dividend, 10 to the power 240, has 27, and a division puts up to two above it.
        private static final int GROUPS = 32;

        private final int[] groups = new int[GROUPS];
        private int used = 0;

        boolean isZero() {
            return used == 0;
        }

        int lowest() {
            return used == 0 ? 0 : groups[0];
        }

        int size() {
            if (used == 0) {
                return 0;
            }
            int top = groups[used - 1];
            int size = (used - 1) * GROUP_DIGITS;
            for (int i = 0; i < GROUP_DIGITS && top >= TENS[i]; i++) {
                size++;
            }
            return size;
        }

        int digit(int place) {
            int group = place / GROUP_DIGITS;
            return group < used ? groups[group] / TENS[place % GROUP_DIGITS] % 10 : 0;
        }

        int against(Whole other) {
            if (used != other.used) {
                return used < other.used ? -1 : 1;
            }
            for (int i = used - 1; i >= 0; i--) {
                if (groups[i] != other.groups[i]) {
                    return groups[i] < other.groups[i] ? -1 : 1;
                }
            }
            return 0;
        }

        void become(Whole other) {
            System.arraycopy(other.groups, 0, groups, 0, other.used);
            used = other.used;
        }

        void becomeSmall(int small) {
            groups[0] = small;
            used = small == 0 ? 0 : 1;
        }

        void becomePowerOfTen(int exponent) {
            becomeSmall(1);
            widen(exponent);
        }

        void widen(int digits) {
            int shift = digits / GROUP_DIGITS;
            if (used == 0 || shift + used >= GROUPS) {
                return;
            }
            System.arraycopy(groups, 0, groups, shift, used);
            for (int i = 0; i < shift; i++) {
                groups[i] = 0;
            }
            used += shift;
            timesSmallPlus(TENS[digits % GROUP_DIGITS], 0);
        }

        void cut(int digits) {
            int shift = Math.min(digits / GROUP_DIGITS, used);
            used -= shift;
            System.arraycopy(groups, shift, groups, 0, used);
            divideBySmall(TENS[digits % GROUP_DIGITS]);
        }

        void timesSmallPlus(int factor, int more) {
            long carry = more;
            for (int i = 0; i < used; i++) {
                carry += (long) groups[i] * factor;
                groups[i] = (int) (carry % BASE);
                carry /= BASE;
            }
            if (carry > 0 && used < GROUPS) {
                groups[used] = (int) carry;
                used++;
            }
        }

        void divideBySmall(int divisor) {
            if (divisor == 0) {
                return;
            }
            long rest = 0;
            for (int i = used - 1; i >= 0; i--) {
                rest = rest * BASE + groups[i];
                groups[i] = (int) (rest / divisor);
                rest %= divisor;
            }
            trim();
        }

        void add(Whole other) {
            int longer = Math.max(used, other.used);
            int carry = 0;
            for (int i = 0; i < longer; i++) {
                int here = i < used ? groups[i] : 0;
                int there = i < other.used ? other.groups[i] : 0;
                int sum = here + there + carry;
                carry = sum >= BASE ? 1 : 0;
                groups[i] = sum - carry * BASE;
            }
            used = longer;
            if (carry > 0 && used < GROUPS) {
                groups[used] = carry;
                used++;
            }
        }

        /** Takes away another that is not greater. */
        void subtract(Whole other) {
            int borrow = 0;
            for (int i = 0; i < used; i++) {
                int there = i < other.used ? other.groups[i] : 0;
                int rest = groups[i] - there - borrow;
                borrow = rest < 0 ? 1 : 0;
                groups[i] = rest + borrow * BASE;
            }
            trim();
        }

        void becomeProduct(Whole a, Whole b) {
            used = Math.min(a.used + b.used, GROUPS);
            for (int i = 0; i < used; i++) {
                groups[i] = 0;
            }
            for (int i = 0; i < a.used; i++) {
                long carry = 0;
                for (int j = 0; j < b.used && i + j < GROUPS; j++) {
                    carry += groups[i + j] + (long) a.groups[i] * b.groups[j];
                    groups[i + j] = (int) (carry % BASE);
                    carry /= BASE;
                }
                if (i + b.used < GROUPS) {
                    groups[i + b.used] = (int) carry;
                }
            }
            trim();
        }

        /** Becomes the remainder; a divisor of 0 changes nothing. */
        void divideBy(Whole divisor, Whole quotient) {
            quotient.used = 0;
            if (divisor.used == 0 || against(divisor) < 0) {
                return;
            }
            // Both are stretched so that the divisor's top group is at least half the base: a
            // quotient's group guessed from the top groups is then at most two too great.
            int stretch = BASE / (divisor.groups[divisor.used - 1] + 1);
            timesSmallPlus(stretch, 0);
            divisor.timesSmallPlus(stretch, 0);
            if (used < GROUPS) {
                groups[used] = 0;
                quotient.used = used - divisor.used + 1;
                for (int i = quotient.used - 1; i >= 0; i--) {
                    int guess = guessMultiple(divisor, i);
                    boolean tooMuch = takeAway(divisor, guess, i);
                    if (tooMuch) {
                        giveBack(divisor, i);
                    }
                    quotient.groups[i] = tooMuch ? guess - 1 : guess;
                }
                used = divisor.used;
            }
            quotient.trim();
            divideBySmall(stretch);
            divisor.divideBySmall(stretch);
        }

        /** The quotient's group at this place, or one more. */
        private int guessMultiple(Whole divisor, int place) {
            int length = divisor.used;
            long first = divisor.groups[length - 1];
            long second = length > 1 ? divisor.groups[length - 2] : 0;
            long third = length > 1 ? groups[place + length - 2] : 0;
            long lead = (long) groups[place + length] * BASE + groups[place + length - 1];
            long guess = lead / first;
            long rest = lead % first;
            for (int tries = 0; tries < 4 && rest < BASE
                    && (guess >= BASE || guess * second > rest * BASE + third); tries++) {
                guess--;
                rest += first;
            }
            return (int) guess;
        }

        /** Whether it was too much, so that the divisor must be given back once. */
        private boolean takeAway(Whole divisor, int times, int place) {
            long carry = 0;
            for (int i = 0; i < divisor.used; i++) {
                carry += groups[place + i] - (long) times * divisor.groups[i];
                groups[place + i] = (int) Math.floorMod(carry, (long) BASE);
                carry = Math.floorDiv(carry, (long) BASE);
            }
            return groups[place + divisor.used] + carry < 0;
        }

        private void giveBack(Whole divisor, int place) {
            int carry = 0;
            for (int i = 0; i < divisor.used; i++) {
                int sum = groups[place + i] + divisor.groups[i] + carry;
                carry = sum >= BASE ? 1 : 0;
                groups[place + i] = sum - carry * BASE;
            }
        }

        private void trim() {
            while (used > 0 && groups[used - 1] == 0) {
                used--;
            }
        }
    }

    /**
     * What stands on the stack or in a register: a number, which has no characters, or a text,
     * which has no digits.
     */
    private static final class Value {
        private boolean text = false;
        private final Whole whole = new Whole();
        private boolean negative = false;
        private int scale = 0;
        private final char[] row = new char[MOST_TEXT];
        private int length = 0;

        void become(Value other) {
            text = other.text;
            whole.become(other.whole);
            negative = other.negative;
            scale = other.scale;
            System.arraycopy(other.row, 0, row, 0, other.length);
            length = other.length;
        }

        void becomeNumber(Whole digits, boolean belowZero, int itsScale) {
            text = false;
            whole.become(digits);
            negative = belowZero && !digits.isZero();
            scale = itsScale;
            length = 0;
        }

        void becomeCount(int count) {
            text = false;
            whole.becomeSmall(count);
            negative = false;
            scale = 0;
            length = 0;
        }

        void becomeText(char[] from, int start, int itsLength) {
            becomeCount(0);
            text = true;
            System.arraycopy(from, start, row, 0, itsLength);
            length = itsLength;
        }

        void becomeNumeral(char[] from, int start, int itsLength) {
            becomeCount(0);
            boolean belowZero = false;
            boolean behindPoint = false;
            for (int i = start; i < start + itsLength; i++) {
                char c = from[i];
                if (c == '_') {
                    belowZero = true;
                } else if (c == '.') {
                    behindPoint = true;
                } else {
                    whole.timesSmallPlus(10, c - '0');
                    scale += behindPoint ? 1 : 0;
                }
            }
            negative = belowZero && !whole.isZero();
        }

        boolean fits() {
            return whole.size() <= MOST_DIGITS && scale <= MOST_SCALE;
        }

        int printLength() {
            if (text) {
                return length;
            }
            if (whole.isZero()) {
                return 1;
            }
            return Math.max(whole.size(), scale) + (scale > 0 ? 1 : 0) + (negative ? 1 : 0);
        }
    }

    /** Reckons with numbers; an operation answers its error, or sets the result without one. */
    private static final class Arithmetic {
        // Newton's steps for a root of 140 digits are some twenty.
        private static final int MOST_STEPS = 1000;

        private final Value result;
        private final Whole left = new Whole();
        private final Whole right = new Whole();
        private final Whole rest = new Whole();
        private final Whole ratio = new Whole();

        Arithmetic(Value result) {
            this.result = result;
        }

        int order(Value x, Value y) {
            if (x.negative != y.negative) {
                return x.negative ? -1 : 1;
            }
            level(x, y);
            return x.negative ? right.against(left) : left.against(right);
        }

        int sum(Value x, Value y, boolean secondNegative) {
            int scale = level(x, y);
            if (x.negative == secondNegative) {
                left.add(right);
                return finish(left, x.negative, scale);
            }
            if (left.against(right) < 0) {
                right.subtract(left);
                return finish(right, secondNegative, scale);
            }
            left.subtract(right);
            return finish(left, x.negative, scale);
        }

        int product(Value x, Value y, int workScale) {
            int exact = x.scale + y.scale;
            int scale = Math.min(exact, Math.max(workScale, Math.max(x.scale, y.scale)));
            left.becomeProduct(x.whole, y.whole);
            left.cut(exact - scale);
            return finish(left, x.negative != y.negative, scale);
        }

        int quotient(Value x, Value y, int workScale) {
            if (y.whole.isZero()) {
                return ZERO;
            }
            align(x, y, workScale);
            left.divideBy(right, ratio);
            return finish(ratio, x.negative != y.negative, workScale);
        }

        int remainder(Value x, Value y, int workScale) {
            if (y.whole.isZero()) {
                return ZERO;
            }
            int scale = Math.max(x.scale, workScale + y.scale);
            if (scale > MOST_SCALE) {
                return SIZE;
            }
            // What is left over has this very scale: the one of the two below it was widened.
            align(x, y, workScale);
            left.divideBy(right, ratio);
            return finish(left, x.negative, scale);
        }

        int power(Value x, Value y, int workScale) {
            if (y.scale != 0 || y.whole.size() > 2) {
                return RANGE;
            }
            if (y.negative && x.whole.isZero()) {
                return ZERO;
            }
            int times = y.whole.lowest();
            int exact = times * x.scale;
            if (exact > MOST_POWER || !raise(x.whole, times)) {
                return SIZE;
            }
            boolean negative = x.negative && times % 2 == 1;
            if (y.negative) {
                rest.becomePowerOfTen(exact + workScale);
                rest.divideBy(left, ratio);
                return finish(ratio, negative, workScale);
            }
            int scale = Math.min(exact, Math.max(workScale, x.scale));
            left.cut(exact - scale);
            return finish(left, negative, scale);
        }

        int root(Value x, int workScale) {
            if (x.negative) {
                return ROOT;
            }
            int scale = Math.max(workScale, x.scale);
            left.become(x.whole);
            left.widen(2 * scale - x.scale);
            // Newton's way from above: the guess falls until it is the root, cut.
            right.becomeSmall(0);
            boolean falls = !left.isZero();
            if (falls) {
                right.becomePowerOfTen((left.size() + 1) / 2);
            }
            for (int step = 0; step < MOST_STEPS && falls; step++) {
                rest.become(left);
                rest.divideBy(right, ratio);
                ratio.add(right);
                ratio.divideBySmall(2);
                falls = ratio.against(right) < 0;
                if (falls) {
                    right.become(ratio);
                }
            }
            return finish(right, false, scale);
        }

        private int level(Value x, Value y) {
            int scale = Math.max(x.scale, y.scale);
            left.become(x.whole);
            left.widen(scale - x.scale);
            right.become(y.whole);
            right.widen(scale - y.scale);
            return scale;
        }

        /** Makes ready two whole numbers whose quotient, cut, is that of x and y with the scale. */
        private void align(Value x, Value y, int workScale) {
            int shift = workScale + y.scale - x.scale;
            left.become(x.whole);
            left.widen(Math.max(shift, 0));
            right.become(y.whole);
            right.widen(Math.max(-shift, 0));
        }

        private boolean raise(Whole base, int times) {
            left.becomeSmall(1);
            for (int i = 0; i < times && left.size() <= MOST_POWER; i++) {
                right.becomeProduct(left, base);
                left.become(right);
            }
            return left.size() <= MOST_POWER;
        }

        private int finish(Whole digits, boolean negative, int scale) {
            if (digits.size() > MOST_DIGITS) {
                return SIZE;
            }
            result.becomeNumber(digits, negative, scale);
            return DONE;
        }
    }

    /** Characters that are taken from the front: the input, or a text that is being run. */
    private static final class Tape {
        private final char[] row;
        private int at = 0;
        private int end = 0;

        Tape(int most) {
            row = new char[most];
        }

        int left() {
            return end - at;
        }

        boolean append(char c) {
            if (end == row.length) {
                System.arraycopy(row, at, row, 0, end - at);
                end -= at;
                at = 0;
            }
            if (end == row.length) {
                return false;
            }
            row[end] = c;
            end++;
            return true;
        }

        void take(int count) {
            at += count;
        }

        void fill(char[] from, int length) {
            System.arraycopy(from, 0, row, 0, length);
            at = 0;
            end = length;
        }

        void clear() {
            at = 0;
            end = 0;
        }

        void skipSpaces() {
            while (at < end && row[at] == ' ') {
                at++;
            }
        }

        boolean isBlank() {
            return onlySpaces(row, at, end);
        }

        static boolean onlySpaces(char[] row, int from, int to) {
            for (int i = from; i < to; i++) {
                if (row[i] != ' ') {
                    return false;
                }
            }
            return true;
        }
    }

    /** The token at the front of a tape, and the command that it is. */
    private static final class Token {
        // No other token begins with a digit, so one digit can stand for all numerals.
        private static final char NUMERAL = '0';
        private static final char WRONG = 0;

        private char command = WRONG;
        private int register = 0;
        private char[] row = null;
        private int start = 0;
        private int end = 0;
        private int length = 0;

        /** Whether there is a command; in a text nothing more can come, so there always is. */
        boolean read(Tape tape, boolean inText) {
            tape.skipSpaces();
            row = tape.row;
            start = tape.at;
            end = tape.end;
            if (start >= end) {
                return false;
            }
            command = row[start];
            length = 1;
            boolean unfinished = measure();
            if (unfinished && inText && command != NUMERAL) {
                command = WRONG;
            }
            return inText || !unfinished;
        }

        private boolean measure() {
            switch (command) {
                case '[': return measureText();
                case 's': case 'l': case '<': case '>': case '=': return measurePair();
                default: return startsNumeral(command) && measureNumeral();
            }
        }

        private boolean measureNumeral() {
            int i = row[start] == '_' ? start + 1 : start;
            int digits = 0;
            int points = 0;
            while (i < end && (isDigit(row[i]) || row[i] == '.' && points == 0)) {
                if (row[i] == '.') {
                    points++;
                } else {
                    digits++;
                }
                i++;
            }
            if (digits > 0) {
                command = NUMERAL;
                length = i - start;
            }
            return i == end;
        }

        private boolean measureText() {
            int open = 0;
            for (int i = start; i < end; i++) {
                if (row[i] == '[') {
                    open++;
                } else if (row[i] == ']') {
                    open--;
                }
                if (open == 0) {
                    length = i - start + 1;
                    return false;
                }
            }
            return true;
        }

        private boolean measurePair() {
            if (start + 1 >= end) {
                return true;
            }
            length = 2;
            register = row[start + 1] - 'a';
            if (register < 0 || register >= REGISTERS) {
                command = WRONG;
            }
            return false;
        }

        private static boolean startsNumeral(char c) {
            return c == '_' || c == '.' || isDigit(c);
        }

        private static boolean isDigit(char c) {
            return c >= '0' && c <= '9';
        }
    }

    /** What is printed. */
    private static final class Paper {
        private final char[] row = new char[MOST_PRINTED];
        private int length = 0;

        int room() {
            return MOST_PRINTED - length;
        }

        void clear() {
            length = 0;
        }

        void put(char c) {
            if (length < MOST_PRINTED) {
                row[length] = c;
                length++;
            }
        }

        void print(Value value) {
            if (value.text) {
                for (int i = 0; i < value.length; i++) {
                    put(value.row[i]);
                }
            } else if (value.whole.isZero()) {
                put('0');
            } else {
                printDigits(value);
            }
        }

        private void printDigits(Value number) {
            if (number.negative) {
                put('-');
            }
            for (int place = Math.max(number.whole.size(), number.scale) - 1; place >= 0; place--) {
                if (place == number.scale - 1) {
                    put('.');
                }
                put((char) ('0' + number.whole.digit(place)));
            }
        }
    }
}

import java.math.BigInteger;
import java.util.ArrayList;
import java.util.List;
import java.util.regex.Matcher;
import java.util.regex.Pattern;

/** The document read a second time, with the Java library, to compare the program with. */
final class Model {
    private static final Pattern NUMERAL = Pattern.compile("_?(\\d+\\.?\\d*|\\.\\d+)");
    private static final Pattern NUMERAL_TO_BE = Pattern.compile("_|\\.|_\\.");

    /** A number (text is null) or a text. */
    record Thing(BigInteger w, int scale, String text) {
        static Thing number(BigInteger w, int scale) {
            return new Thing(w, scale, null);
        }

        boolean isZero() {
            return w.signum() == 0;
        }

        String print() {
            if (text != null) {
                return text;
            }
            if (isZero()) {
                return "0";
            }
            String digits = w.abs().toString();
            while (digits.length() < scale) {
                digits = "0" + digits;
            }
            String before = digits.substring(0, digits.length() - scale);
            String behind = digits.substring(digits.length() - scale);
            return (w.signum() < 0 ? "-" : "") + before + (scale > 0 ? "." + behind : "");
        }
    }

    /** Ends a command before it has changed anything. */
    static final class Fault extends RuntimeException {
        private static final long serialVersionUID = 1L;
        final int code;

        Fault(int code) {
            super(null, null, false, false);
            this.code = code;
        }
    }

    private String input = "";
    private List<String> texts = new ArrayList<>();
    private List<Thing> stack = new ArrayList<>();
    private final Thing[] registers = new Thing[26];
    private int k = 0;
    private String paper = "";

    Model() {
        for (int i = 0; i < 26; i++) {
            registers[i] = Thing.number(BigInteger.ZERO, 0);
        }
    }

    boolean type(char c) {
        if (c < 32 || c > 126 || input.length() >= 100) {
            return false;
        }
        input += c;
        return true;
    }

    int drop() {
        int had = input.length();
        input = "";
        texts.clear();
        return had;
    }

    int depth() {
        return stack.size();
    }

    int scale() {
        return k;
    }

    int running() {
        int count = 0;
        for (String text : texts) {
            count += text.isBlank() ? 0 : 1;
        }
        return count;
    }

    boolean isText(char register) {
        return registers[register - 'a'].text() != null;
    }

    int printed() {
        return paper.length();
    }

    char charAt(int p) {
        return p < 0 || p >= paper.length() ? (char) 0 : paper.charAt(p);
    }

    int tear() {
        int had = paper.length();
        paper = "";
        return had;
    }

    int run(int commands) {
        if (commands < 1 || commands > 100) {
            throw new IllegalArgumentException();
        }
        int answer = 0;
        for (int done = 0; done < commands; done++) {
            String token = nextToken();
            if (token == null) {
                break;
            }
            take(token);
            try {
                obey(token);
            } catch (Fault fault) {
                texts.clear();
                answer = fault.code;
                break;
            }
        }
        if (answer == 0) {
            answer = nextToken() != null ? 1 : input.isBlank() ? 0 : 2;
        }
        input = input.stripLeading();
        return answer;
    }

    private String nextToken() {
        texts.removeIf(String::isBlank);
        if (!texts.isEmpty()) {
            String rest = texts.get(texts.size() - 1).stripLeading();
            String token = tokenOf(rest);
            return token != null ? token : NUMERAL.matcher(rest).matches() ? rest : "?" + rest;
        }
        String rest = input.stripLeading();
        return rest.isEmpty() ? null : tokenOf(rest);
    }

    /** The token at the front, null if it is unfinished. */
    private static String tokenOf(String rest) {
        if (NUMERAL_TO_BE.matcher(rest).matches()) {
            return null;
        }
        Matcher numeral = NUMERAL.matcher(rest);
        if (numeral.lookingAt()) {
            return numeral.end() == rest.length() ? null : numeral.group();
        }
        char c = rest.charAt(0);
        if (c == '[') {
            int open = 0;
            for (int i = 0; i < rest.length(); i++) {
                open += rest.charAt(i) == '[' ? 1 : rest.charAt(i) == ']' ? -1 : 0;
                if (open == 0) {
                    return rest.substring(0, i + 1);
                }
            }
            return null;
        }
        if ("sl<>=".indexOf(c) >= 0) {
            return rest.length() < 2 ? null : rest.substring(0, 2);
        }
        return rest.substring(0, 1);
    }

    private void take(String token) {
        if (texts.isEmpty()) {
            input = input.stripLeading().substring(token.length());
        } else {
            String text = texts.remove(texts.size() - 1).stripLeading();
            // An unfinished one, marked by ?, is the last of its text.
            texts.add(token.startsWith("?") && token.length() > 1 ? "" : text.substring(token.length()));
        }
    }

    private void obey(String token) {
        if (NUMERAL.matcher(token).matches()) {
            put(0, numeral(token));
            return;
        }
        char c = token.charAt(0);
        if (c == '[') {
            if (token.length() - 2 > 60) {
                throw new Fault(MacroReckoner.SIZE);
            }
            put(0, new Thing(null, 0, token.substring(1, token.length() - 1)));
            return;
        }
        boolean pair = "sl<>=".indexOf(c) >= 0;
        if (pair ? !token.matches(".[a-z]") : token.length() != 1 || "+-*/%^vdrczKkpnfZXxq".indexOf(c) < 0) {
            throw new Fault(MacroReckoner.BAD);
        }
        int takes = "+-*/%^r<>=".indexOf(c) >= 0 ? 2 : "vdkpnZXsx".indexOf(c) >= 0 ? 1 : 0;
        if (stack.size() < takes) {
            throw new Fault(MacroReckoner.EMPTY);
        }
        Thing y = takes > 0 ? stack.get(stack.size() - 1) : null;
        Thing x = takes > 1 ? stack.get(stack.size() - 2) : null;
        if ("+-*/%^vk<>=".indexOf(c) >= 0 && (y.text() != null || x != null && x.text() != null)) {
            throw new Fault(MacroReckoner.TYPE);
        }
        perform(c, x, y, pair ? token.charAt(1) - 'a' : 0);
    }

    private void perform(char c, Thing x, Thing y, int register) {
        switch (c) {
            case '+': put(2, add(x, y)); break;
            case '-': put(2, add(x, Thing.number(y.w().negate(), y.scale()))); break;
            case '*': put(2, product(x, y)); break;
            case '/': put(2, Thing.number(divided(x.w(), x.scale(), y.w(), y.scale()), k)); break;
            case '%': put(2, remainder(x, y)); break;
            case '^': put(2, power(x, y)); break;
            case 'v': put(1, root(y)); break;
            case 'd': put(1, y, y); break;
            case 'r': put(2, y, x); break;
            case 'c': stack.clear(); break;
            case 'z': put(0, count(stack.size())); break;
            case 'K': put(0, count(k)); break;
            case 'k': takeScale(y); break;
            case 'p': print(y.print() + "\n"); break;
            case 'n': print(y.print()); put(1); break;
            case 'f': printAll(); break;
            case 'Z': put(1, count(y.text() != null ? y.text().length() : size(y.w()))); break;
            case 'X': put(1, count(y.text() != null ? 0 : y.scale())); break;
            case 's': registers[register] = y; put(1); break;
            case 'l': put(0, registers[register]); break;
            case 'x': if (y.text() != null) { begin(y.text()); put(1); } break;
            case 'q': texts.clear(); break;
            default: choose(c, x, y, registers[register]); break;
        }
    }

    private void put(int taken, Thing... things) {
        for (Thing thing : things) {
            if (thing.text() == null && (size(thing.w()) > 60 || thing.scale() > 40)) {
                throw new Fault(MacroReckoner.SIZE);
            }
        }
        if (stack.size() - taken + things.length > 20) {
            throw new Fault(MacroReckoner.FULL);
        }
        stack = new ArrayList<>(stack.subList(0, stack.size() - taken));
        stack.addAll(List.of(things));
    }

    private static Thing count(int n) {
        return Thing.number(BigInteger.valueOf(n), 0);
    }

    private static int size(BigInteger w) {
        return w.signum() == 0 ? 0 : w.abs().toString().length();
    }

    private static BigInteger ten(int n) {
        return BigInteger.TEN.pow(n);
    }

    private static Thing numeral(String token) {
        String digits = token.replace("_", "").replace(".", "");
        int point = token.indexOf('.');
        BigInteger w = new BigInteger(digits);
        return Thing.number(token.startsWith("_") ? w.negate() : w,
            point < 0 ? 0 : token.length() - point - 1);
    }

    private static BigInteger widened(Thing x, int scale) {
        return x.w().multiply(ten(scale - x.scale()));
    }

    private static Thing add(Thing x, Thing y) {
        int scale = Math.max(x.scale(), y.scale());
        return Thing.number(widened(x, scale).add(widened(y, scale)), scale);
    }

    private Thing product(Thing x, Thing y) {
        int sum = x.scale() + y.scale();
        int most = Math.max(k, Math.max(x.scale(), y.scale()));
        BigInteger exact = x.w().multiply(y.w());
        return most < sum ? Thing.number(exact.divide(ten(sum - most)), most) : Thing.number(exact, sum);
    }

    /** W of the quotient (a / 10^s) / (b / 10^t) with the scale K. */
    private BigInteger divided(BigInteger a, int s, BigInteger b, int t) {
        if (b.signum() == 0) {
            throw new Fault(MacroReckoner.ZERO);
        }
        return a.multiply(ten(t + k)).divide(b.multiply(ten(s)));
    }

    private Thing remainder(Thing x, Thing y) {
        BigInteger q = divided(x.w(), x.scale(), y.w(), y.scale());
        Thing back = Thing.number(q.multiply(y.w()).negate(), k + y.scale());
        return add(x, back);
    }

    private Thing power(Thing x, Thing y) {
        BigInteger most = BigInteger.valueOf(99);
        if (y.scale() != 0 || y.w().abs().compareTo(most) > 0) {
            throw new Fault(MacroReckoner.RANGE);
        }
        int times = y.w().intValue();
        if (times < 0 && x.isZero()) {
            throw new Fault(MacroReckoner.ZERO);
        }
        BigInteger exact = x.w().pow(Math.abs(times));
        int scale = x.scale() * Math.abs(times);
        if (size(exact) > 200 || scale > 200) {
            throw new Fault(MacroReckoner.SIZE);
        }
        if (times < 0) {
            return Thing.number(divided(BigInteger.ONE, 0, exact, scale), k);
        }
        int cut = Math.max(k, x.scale());
        return cut < scale ? Thing.number(exact.divide(ten(scale - cut)), cut) : Thing.number(exact, scale);
    }

    private Thing root(Thing x) {
        if (x.w().signum() < 0) {
            throw new Fault(MacroReckoner.ROOT);
        }
        int scale = Math.max(k, x.scale());
        return Thing.number(x.w().multiply(ten(2 * scale - x.scale())).sqrt(), scale);
    }

    private void takeScale(Thing x) {
        if (x.scale() != 0 || x.w().signum() < 0 || x.w().compareTo(BigInteger.valueOf(40)) > 0) {
            throw new Fault(MacroReckoner.RANGE);
        }
        put(1);
        k = x.w().intValue();
    }

    private void print(String characters) {
        if (paper.length() + characters.length() > 200) {
            throw new Fault(MacroReckoner.OVER);
        }
        paper += characters;
    }

    private void printAll() {
        StringBuilder all = new StringBuilder();
        for (int i = stack.size() - 1; i >= 0; i--) {
            all.append(stack.get(i).print()).append('\n');
        }
        print(all.toString());
    }

    private void choose(char c, Thing x, Thing y, Thing held) {
        int scale = Math.max(x.scale(), y.scale());
        int order = widened(y, scale).compareTo(widened(x, scale));
        if (held.text() != null && (c == '<' ? order < 0 : c == '>' ? order > 0 : order == 0)) {
            begin(held.text());
        }
        put(2);
    }

    private void begin(String text) {
        if (text.isBlank()) {
            return;
        }
        if (running() >= 8) {
            throw new Fault(MacroReckoner.DEEP);
        }
        texts.add(text);
    }
}

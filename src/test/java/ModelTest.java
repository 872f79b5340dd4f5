import java.util.Random;

/** Many runs of calls, made by fixed seeds, answered by the program as by the model. */
public final class ModelTest {
    private static final int RUNS = 20000;
    /** Behind what is typed there is a run, and at the end all is asked. */
    private static final int LAST_CALLS = 60;
    private static final String[] HARD = {
        "000000000", "000000000", "000000001", "999999999", "500000000", "499999999", "999999998"
    };
    private static final String COMMANDS = "+-*/%^vdrczKkpnfZXxq";

    private final Random random;
    private final MacroReckoner program = new MacroReckoner();
    private final Model model = new Model();
    private final StringBuilder story = new StringBuilder();
    private int calls = 0;

    private ModelTest(long seed) {
        random = new Random(seed);
        story.append("seed ").append(seed).append(':');
    }

    public static void main(String[] args) {
        int runs = args.length > 0 ? Integer.parseInt(args[0]) : RUNS;
        for (long seed = 1; seed <= runs; seed++) {
            new ModelTest(seed).play();
        }
        Desk.close("ModelTest");
    }

    private void play() {
        int style = random.nextInt(4);
        while (calls < Desk.MOST_CALLS - LAST_CALLS) {
            type(style == 0 ? noise() : style == 1 ? sums() : style == 2 ? texts() : mixture());
            if (random.nextInt(3) > 0) {
                run(random.nextInt(4) == 0 ? 1 + random.nextInt(8) : 100);
            }
            if (random.nextInt(4) == 0) {
                same("tear()", program.tear(), model.tear());
            }
            if (random.nextInt(60) == 0) {
                same("drop()", program.drop(), model.drop());
            }
        }
        askAll();
        Desk.same(story + " stays within its calls", calls <= Desk.MOST_CALLS, true);
    }

    private void same(String call, int got, int due) {
        calls++;
        // The story is long: it is told only where it is needed.
        Desk.same(got == due ? call : story + " " + call, got, due);
    }

    private void same(String call, boolean got, boolean due) {
        same(call, got ? 1 : 0, due ? 1 : 0);
    }

    private void type(String characters) {
        story.append(' ');
        for (int i = 0; i < characters.length() && calls < Desk.MOST_CALLS - LAST_CALLS; i++) {
            char c = characters.charAt(i);
            story.append(c);
            same("type", program.type(c), model.type(c));
        }
    }

    private void run(int commands) {
        story.append(" run(").append(commands).append(')');
        same("", program.run(commands), model.run(commands));
        same("depth()", program.depth(), model.depth());
        same("scale()", program.scale(), model.scale());
        same("running()", program.running(), model.running());
        same("printed()", program.printed(), model.printed());
        char register = register();
        same("isText", program.isText(register), model.isText(register));
        int p = model.printed() - 1 - random.nextInt(9);
        same("charAt", program.charAt(p), model.charAt(p));
    }

    private void askAll() {
        run(100);
        for (char r = 'a'; r <= 'z'; r++) {
            same("isText", program.isText(r), model.isText(r));
        }
        for (int p = 0; p < model.printed() && calls < Desk.MOST_CALLS - 2; p++) {
            same("charAt", program.charAt(p), model.charAt(p));
        }
        same("tear()", program.tear(), model.tear());
        same("drop()", program.drop(), model.drop());
    }

    private String noise() {
        String alphabet = COMMANDS + "sl<>=sl<>=abcd0123456789._ []  ";
        StringBuilder all = new StringBuilder();
        int length = 1 + random.nextInt(12);
        for (int i = 0; i < length; i++) {
            int pick = random.nextInt(alphabet.length() + 1);
            all.append(pick < alphabet.length() ? alphabet.charAt(pick) : (char) random.nextInt(300));
        }
        return all.toString();
    }

    /** Groups of nine digits at which a long division goes wrong most easily. */
    private String hardDigits(int length) {
        StringBuilder all = new StringBuilder();
        while (all.length() < length) {
            all.insert(0, HARD[random.nextInt(HARD.length)]);
        }
        return all.substring(all.length() - length);
    }

    private String digits(int length) {
        StringBuilder all = new StringBuilder();
        int way = random.nextInt(5);
        if (way == 4) {
            return hardDigits(length);
        }
        for (int i = 0; i < length; i++) {
            int digit = way == 0 ? 9 : way == 1 ? (i == 0 ? 1 : 0) : random.nextInt(10);
            all.append((char) ('0' + digit));
        }
        return all.toString();
    }

    private String numeral() {
        int before = random.nextInt(3) == 0 ? random.nextInt(62) : random.nextInt(5);
        int behind = random.nextInt(3) == 0 ? random.nextInt(42) : random.nextInt(4);
        if (random.nextInt(40) > 0) {
            behind = Math.max(0, Math.min(behind, 60 - before));
        }
        String sign = random.nextInt(3) == 0 ? "_" : "";
        String point = behind > 0 || random.nextInt(9) == 0 ? "." : "";
        return sign + digits(before) + point + digits(behind) + " ";
    }

    private String nearMultiple() {
        String divisor = hardDigits(1 + random.nextInt(35)) + "sb";
        String product = "lb" + hardDigits(1 + random.nextInt(25)) + "*";
        String[] more = {"", "1+", "1-", "5-", "lb2/+", "lb+1-"};
        return divisor + product + more[random.nextInt(more.length)] + "lb";
    }

    private String sums() {
        String ready = random.nextInt(6) == 0 ? random.nextInt(42) + "k" : "";
        String clear = random.nextInt(4) == 0 ? "c" : "";
        switch (random.nextInt(8)) {
            case 6: return "0k" + nearMultiple() + "/p" + clear;
            case 7: return "0k" + nearMultiple() + "%p" + clear;
            case 0: return ready + numeral() + numeral() + "^p" + clear;
            case 1: return ready + numeral() + (random.nextInt(240) - 120) / 2 + " ^p" + clear;
            case 2: return ready + numeral() + "vp" + clear;
            case 3: return ready + numeral() + (random.nextInt(9) == 0 ? "k" : "d*p") + clear;
            default: return ready + numeral() + numeral() + "+-*/%*/%".charAt(random.nextInt(8)) + "p" + clear;
        }
    }

    private char register() {
        return (char) ('a' + random.nextInt(4));
    }

    private String body(int depth) {
        StringBuilder all = new StringBuilder();
        int parts = random.nextInt(4);
        for (int i = 0; i < parts; i++) {
            switch (random.nextInt(10)) {
                case 0: all.append(random.nextInt(20)); break;
                case 1: all.append("l").append(register()).append("x"); break;
                case 2: all.append("l").append(register()); break;
                case 3: all.append(random.nextInt(3)).append(' ').append(random.nextInt(3))
                    .append("<>=".charAt(random.nextInt(3))).append(register()); break;
                case 4: all.append(depth < 3 ? "[" + body(depth + 1) + "]" : " "); break;
                case 5: all.append(COMMANDS.charAt(random.nextInt(COMMANDS.length()))); break;
                case 6: all.append("  "); break;
                case 7: all.append("s").append(register()); break;
                case 8: all.append("_ . [] q ] s <".charAt(random.nextInt(14))); break;
                default: all.append("x"); break;
            }
        }
        return all.toString();
    }

    private String texts() {
        switch (random.nextInt(8)) {
            case 0: return "[" + body(0) + "]s" + register();
            case 1: return "l" + register() + "x";
            case 2: return "[" + body(0) + "l" + register() + "x" + body(0) + "]s" + register();
            case 3: return random.nextInt(3) + " " + random.nextInt(3) + "<>=".charAt(random.nextInt(3)) + register();
            case 4: return "f";
            case 5: return "c[" + body(0) + "]x";
            case 6: return body(0);
            default: return "[" + body(0) + "]";
        }
    }

    private String mixture() {
        switch (random.nextInt(4)) {
            case 0: return noise();
            case 1: return sums();
            default: return texts();
        }
    }
}

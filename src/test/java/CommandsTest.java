/** The document's Terms: tokens, commands, errors and printing, with the edges that they name. */
public final class CommandsTest {
    private static final String NINES_20 = Desk.times("9", 20);
    private static final String NINES_30 = Desk.times("9", 30);
    private static final String NINES_60 = Desk.times("9", 60);
    private static final String ZEROS_39 = Desk.times("0", 39);
    private static final String TEN_59 = "1" + Desk.times("0", 59);
    private static final String TWENTY = Desk.times("1 ", 20);

    public static void main(String[] args) {
        numerals();
        brokenNumerals();
        wrongCharacters();
        texts();
        sums();
        products();
        quotients();
        remainders();
        hardDivisions();
        powers();
        longPowers();
        powersBelowZero();
        roots();
        stackCommands();
        scaleCommand();
        measures();
        registers();
        choices();
        runningTexts();
        deepTexts();
        endOfTexts();
        errorsChangeNothing();
        orderOfErrors();
        printing();
        Desk.close("CommandsTest");
    }

    /** What the program leaves on top of the stack, printed behind what the program prints. */
    private static void reckons(String program, String due) {
        new Desk().does(program + "p").paper(due + "\n");
    }

    /** The command is taken, and nothing but that. */
    private static void fails(String ready, String command, int due) {
        Desk desk = new Desk().does(ready);
        int depth = desk.reckoner().depth();
        int scale = desk.reckoner().scale();
        desk.gives(command, due).drop(0).depth(depth).scale(scale).running(0).paper("");
    }

    private static void numerals() {
        new Desk().does("1 _2 3. .4 _.5 _6.70 007 0.50 _0 0.00 _.0 ")
            .stack("0 0 0 .50 7 -6.70 -.5 .4 3 -2 1 ");
        new Desk().does("3.X .40X 0.00X _.0X ").stack("1 2 2 0 ");
        new Desk().does("1.2.3.4 5_6_7.8_.9 ").stack("-.9 -7.8 -6 5 .4 .3 1.2 ");
        new Desk().does("1..2 ").stack(".2 1 ");
        reckons(NINES_60, NINES_60);
        reckons("_" + NINES_60, "-" + NINES_60);
        reckons(ZEROS_39 + NINES_60, NINES_60);
        fails("", "9" + NINES_60 + " ", MacroReckoner.SIZE);
        fails("", TEN_59 + "0 ", MacroReckoner.SIZE);
        fails("", TEN_59 + ".0 ", MacroReckoner.SIZE);
        fails("", "_" + Desk.times("1", 98) + " ", MacroReckoner.SIZE);
        reckons("." + ZEROS_39 + "1", "." + ZEROS_39 + "1");
        reckons("0." + ZEROS_39 + "0X", "40");
        fails("", "." + ZEROS_39 + "00 ", MacroReckoner.SIZE);
        fails("", "." + ZEROS_39 + "01 ", MacroReckoner.SIZE);
        reckons(NINES_20 + "." + NINES_20 + NINES_20, NINES_20 + "." + NINES_20 + NINES_20);
    }

    private static void brokenNumerals() {
        // What cannot become a numeral any more is taken one character at a time.
        new Desk().type("_.x").run(9, MacroReckoner.BAD).run(9, MacroReckoner.BAD)
            .run(9, MacroReckoner.EMPTY).run(9, MacroReckoner.IDLE);
        new Desk().type("_. ").run(9, MacroReckoner.BAD).run(9, MacroReckoner.BAD)
            .run(9, MacroReckoner.IDLE);
        new Desk().type("_ 5 ").run(9, MacroReckoner.BAD).run(9, MacroReckoner.IDLE).stack("5 ");
        new Desk().type("__5 ").run(9, MacroReckoner.BAD).run(9, MacroReckoner.IDLE).stack("-5 ");
        new Desk().type("..5 ").run(9, MacroReckoner.BAD).run(9, MacroReckoner.IDLE).stack(".5 ");
        new Desk().type("_..5 ").run(9, MacroReckoner.BAD).run(9, MacroReckoner.BAD)
            .run(9, MacroReckoner.IDLE).stack(".5 ");
    }

    private static void wrongCharacters() {
        String right = "+-*/%^vdrczKkpnfZXxqsl<>=[0123456789._ ";
        for (char c = 32; c <= 126; c++) {
            if (right.indexOf(c) < 0) {
                new Desk().does("1 2 ").type(c + "3 ").run(9, MacroReckoner.BAD)
                    .run(9, MacroReckoner.IDLE).stack("3 2 1 ");
            }
        }
        // Behind these five only a letter a .. z will do, and both characters are taken.
        for (String first : new String[] {"s", "l", "<", ">", "="}) {
            for (char c = 32; c <= 126; c++) {
                if (c < 'a' || c > 'z') {
                    new Desk().does("1 2 ").type(first + c + "3 ").run(9, MacroReckoner.BAD)
                        .run(9, MacroReckoner.IDLE).stack("3 2 1 ");
                }
            }
        }
    }

    private static void texts() {
        new Desk().does("[][a][[b]c][ d ]f").paper(" d \n[b]c\na\n\n");
        reckons("[" + Desk.times("a", 60) + "]", Desk.times("a", 60));
        fails("", "[" + Desk.times("a", 61) + "]", MacroReckoner.SIZE);
        reckons("[" + Desk.times("[]", 30) + "]", Desk.times("[]", 30));
        fails("", "[" + Desk.times("[]", 31) + "]", MacroReckoner.SIZE);
        fails("", "[" + Desk.times("a", 98) + "]", MacroReckoner.SIZE);
    }

    private static void sums() {
        reckons("1.50 2.5+", "4.00");
        reckons("1.5 2.50-", "-1.00");
        reckons("2.5 _2.50+X", "2");
        reckons("_1 _2+", "-3");
        reckons("_1 _2-", "1");
        reckons("5 _7+", "-2");
        reckons("_5 7+", "2");
        reckons("5 5-", "0");
        reckons("_5d-", "0");
        reckons("999999999 1+", "1000000000");
        reckons("1000000000000000000 1-", "999999999999999999");
        reckons(TEN_59 + " 1-", NINES_60.substring(1));
        fails(NINES_60 + " 1 ", "+", MacroReckoner.SIZE);
        fails("_" + NINES_60 + " 1 ", "-", MacroReckoner.SIZE);
        fails(TEN_59 + " .1 ", "+", MacroReckoner.SIZE);
        fails(TEN_59 + " 0." + ZEROS_39 + "0 ", "-", MacroReckoner.SIZE);
    }

    private static void products() {
        reckons("1.25 1.5*", "1.87");
        reckons("_1.25 1.5*", "-1.87");
        reckons("3k1.25 1.5*", "1.875");
        reckons("9k1.25 1.5*", "1.875");
        reckons("2 3*", "6");
        reckons("_2 _3*", "6");
        reckons(".1 .1*", "0");
        reckons(".1 _.1*X", "1");
        reckons("2 0.5*", "1.0");
        reckons("999999999999999999d*", "999999999999999998000000000000000001");
        reckons("40k." + ZEROS_39 + "1d*X", "40");
        reckons(NINES_30 + "d*Z", "60");
        fails("9" + NINES_30 + " " + NINES_30 + " ", "*", MacroReckoner.SIZE);
        fails(TEN_59 + " 10 ", "*", MacroReckoner.SIZE);
        // The exact product has 80 digits, but its size counts only when it is cut.
        reckons(NINES_30 + "." + NINES_30 + " .00000000000000000001*", "9999999999." + NINES_30);
    }

    private static void quotients() {
        reckons("7 2/", "3");
        reckons("2k7 2/", "3.50");
        reckons("2k_7 3/", "-2.33");
        reckons("2k7 _3/", "-2.33");
        reckons("2k_7 _3/", "2.33");
        reckons("_1 2/", "0");
        reckons("1.239 1/", "1");
        reckons("1k1.239 1/", "1.2");
        reckons("3k0 5/X", "3");
        reckons("0.0 5/X", "0");
        reckons("5 .001/", "5000");
        reckons("40k1 7/", ".1428571428571428571428571428571428571428");
        reckons("1000000000000000000000 1000000001/", "999999999000");
        reckons(NINES_60 + " 1/", NINES_60);
        reckons(NINES_60 + "d/", "1");
        reckons("." + NINES_20 + NINES_20 + " " + NINES_60 + "/", "0");
        fails("1 0 ", "/", MacroReckoner.ZERO);
        fails("1 0.00 ", "/", MacroReckoner.ZERO);
        fails("0 0 ", "/", MacroReckoner.ZERO);
        fails("1k" + NINES_60 + " 1 ", "/", MacroReckoner.SIZE);
        fails("40k" + TEN_59 + " ." + ZEROS_39 + "1 ", "/", MacroReckoner.SIZE);
    }

    private static void remainders() {
        reckons("7 3%", "1");
        reckons("_7 3%", "-1");
        reckons("7 _3%", "1");
        reckons("2k7 3%", ".01");
        reckons("1.25 .5%", ".25");
        reckons("1k1.25 .5%X", "2");
        reckons("6 3%", "0");
        reckons("2k6 3%X", "2");
        reckons("1.500 2%", "1.500");
        reckons("5.678 1%", ".678");
        reckons("1k5.678 1%", ".078");
        reckons("40k1 3%", "." + ZEROS_39 + "1");
        reckons("39k1 .3%", "." + ZEROS_39 + "1");
        fails("1 0 ", "%", MacroReckoner.ZERO);
        fails("40k1 .1 ", "%", MacroReckoner.SIZE);
        fails("38k1 .001 ", "%", MacroReckoner.SIZE);
        // The quotient has 100 digits, but only what is left over is a result.
        reckons("40k" + NINES_60 + " 8%X", "40");
    }

    private static void hardDivisions() {
        // Dividends at which a guess from the first digits is one or two too great.
        String[][] rows = {
            {"61728394500000000000000000123456788", "500000000000000000000000001", "123456788",
                "500000000000000000000000000"},
            {"61728394500000000000000000123456784", "500000000000000000000000001", "123456788",
                "499999999999999999999999996"},
            {"2962962963000000006913580246", "3000000000000000007", "987654320", "3000000000000000006"},
            {"500000000749999998500000000", "500000000999999999", "999999999", "250000000499999999"},
            {"500000000999999998999999999", "500000000999999999", "999999999", "500000000999999998"},
            {"500000000499999998000000000", "500000000999999999", "999999998", "500000000999999998"},
            {"499999999499999996000000003", "500000000999999999", "999999997", "0"},
            {"499999999499999996000000002", "500000000999999999", "999999996", "500000000999999998"},
        };
        for (String[] row : rows) {
            reckons(row[0] + " " + row[1] + "/", row[2]);
            reckons(row[0] + " " + row[1] + "%", row[3]);
        }
    }

    private static void powers() {
        reckons("2 10^", "1024");
        reckons("_2 3^", "-8");
        reckons("_2 2^", "4");
        reckons("1.5 2^", "2.2");
        reckons("2k1.5 2^", "2.25");
        reckons("9k1.5 2^", "2.25");
        reckons("1.50 1^", "1.50");
        reckons("0 0^", "1");
        reckons("7k2.55 0^dXn", "01");
        reckons("0.00 5^X", "2");
        reckons("1 99^", "1");
        reckons("_1 99^", "-1");
        fails("1 100 ", "^", MacroReckoner.RANGE);
        fails("1 _100 ", "^", MacroReckoner.RANGE);
        fails("1 2.0 ", "^", MacroReckoner.RANGE);
        fails("1 0.0 ", "^", MacroReckoner.RANGE);
        fails("1 1000000002 ", "^", MacroReckoner.RANGE);
        fails("1 1000000000 ", "^", MacroReckoner.RANGE);
        fails("1 " + NINES_60 + " ", "^", MacroReckoner.RANGE);
    }

    private static void longPowers() {
        reckons("9 62^Z", "60");
        fails("9 63 ", "^", MacroReckoner.SIZE);
        reckons("9.9 59^Z", "60");
        fails("9.9 60 ", "^", MacroReckoner.SIZE);
        // The exact power has the size 200 and the scale 200, then the size 201, then the scale 205.
        reckons("0.99999 40^", ".99960");
        fails("1.00000 40 ", "^", MacroReckoner.SIZE);
        reckons(".00001 40^X", "5");
        fails(".00001 41 ", "^", MacroReckoner.SIZE);
        reckons("9.999 50^Z", "53");
        fails("9.999 51 ", "^", MacroReckoner.SIZE);
        reckons("0.00000 40^X", "5");
        fails("0.00000 41 ", "^", MacroReckoner.SIZE);
        fails(NINES_60 + " 99 ", "^", MacroReckoner.SIZE);
    }

    private static void powersBelowZero() {
        reckons("3k2 _2^", ".250");
        reckons("2 _1^", "0");
        reckons("6k1.5 _3^", ".296296");
        reckons("6k_1.5 _3^", "-.296296");
        reckons("4k_1 _2^", "1.0000");
        reckons("40k7 _5^", ".0000594990182661986077229725709525792824");
        reckons("8k0.99999 _40^", "1.00040008");
        reckons("19k.1 _40^Z", "60");
        fails("20k.1 _40 ", "^", MacroReckoner.SIZE);
        fails("8k1.00000 _40 ", "^", MacroReckoner.SIZE);
        fails("8k.00001 _41 ", "^", MacroReckoner.SIZE);
        fails("0 _1 ", "^", MacroReckoner.ZERO);
        fails("0.0 _99 ", "^", MacroReckoner.ZERO);
    }

    private static void roots() {
        reckons("0v", "0");
        reckons("3k0.0vX", "3");
        reckons("1v", "1");
        reckons("15v", "3");
        reckons("16v", "4");
        reckons("17v", "4");
        reckons("2k3v", "1.73");
        reckons("2.00v", "1.41");
        reckons(".09v", ".30");
        reckons("40k2v", "1.4142135623730950488016887242096980785696");
        reckons(NINES_60 + "v", NINES_30);
        reckons("999999999999999999v", "999999999");
        reckons("1000000000000000000v", "1000000000");
        reckons("40k1" + ZEROS_39 + "vZ", "60");
        fails("40k1" + ZEROS_39 + "0 ", "v", MacroReckoner.SIZE);
        fails("_1 ", "v", MacroReckoner.ROOT);
        fails("_.01 ", "v", MacroReckoner.ROOT);
    }

    private static void stackCommands() {
        new Desk().does("1.50d").stack("1.50 1.50 ").does("[t]d").stack("t t 1.50 1.50 ");
        new Desk().does("1[t]2r").stack("t 2 1 ").does("r").stack("2 t 1 ");
        new Desk().does("c").depth(0).does("1 2 3c").depth(0);
        new Desk().does("z").stack("0 ").does("zz").stack("2 1 0 ").does("zX").stack("0 2 1 0 ");
        new Desk().does("K5kK").stack("5 0 ").does("cKX").stack("0 ");
        // A copy is a thing of its own.
        new Desk().does("[ab]dZ").stack("2 ab ").does("c5d1+").stack("6 5 ");
        for (String command : new String[] {"d", "z", "K", "la", "5 ", "[t]", "[]"}) {
            fails(TWENTY, command, MacroReckoner.FULL);
        }
        new Desk().does(TWENTY).does("+z").depth(20).does("r").depth(20).does("+d").depth(20);
        for (String command : new String[] {"d", "v", "k", "p", "n", "Z", "X", "sa", "x"}) {
            fails("", command, MacroReckoner.EMPTY);
        }
        for (String command : new String[] {"+", "-", "*", "/", "%", "^", "r", "<a", ">a", "=a"}) {
            fails("", command, MacroReckoner.EMPTY);
            fails("1 ", command, MacroReckoner.EMPTY);
        }
        for (String command : new String[] {"+", "-", "*", "/", "%", "^", "<a", ">a", "=a"}) {
            fails("1[1]", command, MacroReckoner.TYPE);
            fails("[1]1 ", command, MacroReckoner.TYPE);
            fails("[1][1]", command, MacroReckoner.TYPE);
        }
        fails("[4]", "v", MacroReckoner.TYPE);
        fails("[4]", "k", MacroReckoner.TYPE);
    }

    private static void scaleCommand() {
        new Desk().does("40k").scale(40).depth(0).does("_0k").scale(0);
        for (String wrong : new String[] {"41", "_1", "100", "1.0", "0.0", "1000000000", "1000000007"}) {
            fails("7k" + wrong + " ", "k", MacroReckoner.RANGE);
        }
    }

    private static void measures() {
        new Desk().does("0Z 0.00Z 100Z 0.05Z _12.50Z []Z[ a ]Z").stack("3 0 4 1 3 0 0 ");
        new Desk().does("0X 0.00X 100X 0.05X _12.50X []X[ a ]X").stack("0 0 2 2 0 2 0 ");
        reckons(NINES_60 + "Z", "60");
        reckons("[" + Desk.times("a", 60) + "]Z", "60");
        reckons("1.234ZX", "0");
        for (int digits = 1; digits <= 60; digits++) {
            reckons(Desk.times("9", digits) + "Z", "" + digits);
            reckons("1" + Desk.times("0", digits - 1) + "Z", "" + digits);
        }
    }

    private static void registers() {
        new Desk().does("1.50sa[t]szlalzlb").stack("0 t 1.50 ").does("clala").stack("1.50 1.50 ");
        Desk all = new Desk();
        for (char r = 'a'; r <= 'z'; r++) {
            all.does(r - 'a' + "s" + r);
        }
        for (char r = 'a'; r <= 'z'; r++) {
            all.does("l" + r + "n").paper("" + (r - 'a'));
        }
        // What a register held before does not come back.
        new Desk().does("[long text]sa[t]salaZ").stack("1 ").does("c12345678901sa1salaZ").stack("1 ");
    }

    private static void choices() {
        String[][] rows = {
            {"1 2", ">"}, {"2 1", "<"}, {"2 2", "="}, {"_1 1", ">"}, {"1 _1", "<"}, {"_1 _2", "<"},
            {"_2 _1", ">"}, {"1.0 1", "="}, {"0 _0.00", "="}, {"1.01 1.1", ">"}, {"1.5 1.49", "<"},
            {"_1.5 _1.49", ">"}, {TEN_59 + " .1", "<"}, {NINES_30 + " 1" + NINES_20, "<"},
        };
        for (String[] row : rows) {
            for (String command : new String[] {"<", ">", "="}) {
                String due = command.equals(row[1]) ? "yes" : "";
                new Desk().does("[[yes]n]sa" + row[0] + command + "a").depth(0).paper(due);
            }
        }
        new Desk().does("5sa1 1=a").depth(0).does("1 2=a").depth(0);
        new Desk().does("[  ]sa1 1=a").depth(0);
        // A loop: 3, 2, 1.
        new Desk().does("[p1-d0<a]sa3lax").paper("3\n2\n1\n").stack("0 ");
    }

    private static void runningTexts() {
        new Desk().does("[1 2]x3 ").stack("3 2 1 ");
        new Desk().does("[1[2]x3]x4 ").stack("4 3 2 1 ");
        new Desk().does("5x").stack("5 ").does("[]x[   ]x").stack("5 ");
        // The end of a text ends a numeral; it never joins what follows.
        new Desk().does("[12]x3 ").stack("3 12 ").does("c[1.]x5 [_7]x").stack("-7 5 1 ");
        for (String broken : new String[] {"_", ".", "_.", "s", "l", "<", ">", "="}) {
            new Desk().does("1 2 ").type("[3 " + broken + "]xa 4 ").run(100, MacroReckoner.BAD).running(0)
                .run(100, MacroReckoner.BAD).run(100, MacroReckoner.IDLE).stack("4 3 2 1 ");
        }
        // A text may change the register from which it came.
        new Desk().does("[5sala]salax").stack("5 ");
        new Desk().does("[[3]sb1lbx2]sblbx").stack("2 3 1 ");
        new Desk().does("[s[]]").gives("x", MacroReckoner.BAD).depth(0);
    }

    /** Texts in one another, each with something behind the one that it runs. */
    private static String nested(String inmost, int levels, String behind) {
        String all = inmost;
        for (int i = 0; i < levels; i++) {
            all = "[" + all + "]x" + behind;
        }
        return all;
    }

    private static void deepTexts() {
        new Desk().does(nested("z", 8, "c")).depth(0);
        new Desk().gives(nested("z", 9, "c"), MacroReckoner.DEEP).depth(1).running(0)
            .run(100, MacroReckoner.IDLE).depth(0);
        new Desk().type(nested("zzz", 8, "c")).run(17, MacroReckoner.MORE).running(8);
        // Those with spaces alone behind the one that they run do not count.
        new Desk().does(nested("z", 15, " ")).stack("0 ");
        new Desk().does(nested(nested("z", 5, " "), 7, "c")).depth(0);
        // Nor does a text of spaces as a ninth.
        new Desk().does(nested("[  ]x[]xz", 8, "c")).depth(0);
        new Desk().does("[  ]sb" + nested("1 1=bz", 8, "c")).depth(0);
        // A choice is as deep as x is, if it is taken.
        new Desk().gives("[z]sb" + nested("1 1=bc", 8, "c"), MacroReckoner.DEEP).depth(2).running(0);
        new Desk().does("[z]sb" + nested("1 1=b", 8, "c")).depth(0);
        new Desk().does("[z]sb" + nested("1 2=bc", 8, "c")).depth(0);
    }

    private static void endOfTexts() {
        new Desk().does("[2[3q4]x5]x6 ").stack("6 3 2 ");
        new Desk().does("q1 q").stack("1 ");
        new Desk().type("[q5]x7 ").run(3, MacroReckoner.MORE).running(0).drop(2);
    }

    private static void errorsChangeNothing() {
        new Desk().type("[1+2]x3 ").run(100, MacroReckoner.EMPTY).running(0).depth(1).drop(2);
        new Desk().type("[1+2]x3 ").run(100, MacroReckoner.EMPTY).run(100, MacroReckoner.IDLE).stack("3 1 ");
        new Desk().does("5sa").gives("sa", MacroReckoner.EMPTY).does("la").stack("5 ");
        new Desk().does("1.5 0 ").gives("/", MacroReckoner.ZERO).stack("0 1.5 ");
        new Desk().does("3 2.5 ").gives("^", MacroReckoner.RANGE).stack("2.5 3 ");
        new Desk().does("3[a]").gives("-", MacroReckoner.TYPE).stack("a 3 ");
        new Desk().does("_4 ").gives("v", MacroReckoner.ROOT).stack("-4 ");
        new Desk().does("9k50 ").gives("k", MacroReckoner.RANGE).stack("50 ").scale(9);
        String text = Desk.times("a", 60);
        Desk full = new Desk().does("[" + text + "]ppp").depth(1);
        full.gives("pp", MacroReckoner.OVER).drop(1).gives("n", MacroReckoner.OVER).depth(1)
            .gives("f", MacroReckoner.OVER).paper(Desk.times(text + "\n", 3));
        full.does("n").depth(0).paper(text);
        // All of f is printed or nothing.
        full.does("[" + text + "]ddd").gives("f", MacroReckoner.OVER).paper("");
    }

    private static void orderOfErrors() {
        fails("", "s1", MacroReckoner.BAD);
        fails("", "<1", MacroReckoner.BAD);
        fails(TWENTY, "l1", MacroReckoner.BAD);
        fails("[a]", "+", MacroReckoner.EMPTY);
        fails("[a]", "=a", MacroReckoner.EMPTY);
        fails("[a]0 ", "/", MacroReckoner.TYPE);
        fails("[a]0 ", "%", MacroReckoner.TYPE);
        fails("[a]2.5 ", "^", MacroReckoner.TYPE);
        fails("0 _100 ", "^", MacroReckoner.RANGE);
        fails("0 _1.0 ", "^", MacroReckoner.RANGE);
        fails(NINES_60 + " 100 ", "^", MacroReckoner.RANGE);
        fails("0." + ZEROS_39 + "0 _99 ", "^", MacroReckoner.ZERO);
        fails("40k1 .0 ", "%", MacroReckoner.ZERO);
        fails("40k_" + NINES_60 + " ", "v", MacroReckoner.ROOT);
        fails(TWENTY, "9" + NINES_60 + " ", MacroReckoner.SIZE);
        fails(TWENTY, "." + ZEROS_39 + "00 ", MacroReckoner.SIZE);
        fails(TWENTY, "[" + Desk.times("a", 61) + "]", MacroReckoner.SIZE);
    }

    private static void printing() {
        new Desk().does("12.50n_12.50n.05n_.5n0.00n100n1.0n[ a[b]]n[]n")
            .paper("12.50-12.50.05-.501001.0 a[b]");
        new Desk().does("_.005p").paper("-.005\n").depth(1);
        new Desk().does("[]p").paper("\n").depth(1);
        new Desk().does("f").paper("").does("1[b]3.0f").paper("3.0\nb\n1\n").depth(3);
        roomForNumbers();
        reckons("1000000000000000000.000000001", "1000000000000000000.000000001");
        reckons("123456789012345678901234567890", "123456789012345678901234567890");
    }

    private static void roomForNumbers() {
        String[][] rows = {
            {"0.00", "0"}, {"_7", "-7"}, {".5", ".5"}, {"_.5", "-.5"}, {"_.05", "-.05"}, {"1.5", "1.5"},
            {"_12.50", "-12.50"}, {"[]", ""}, {"[ab]", "ab"},
        };
        for (String[] row : rows) {
            for (int room = 0; room <= 8; room++) {
                int left = 200 - room;
                String first = "[" + Desk.times("a", 60) + "]ddnnn";
                String second = "[" + Desk.times("b", left - 180) + "]n";
                String due = Desk.times("a", 180) + Desk.times("b", left - 180);
                boolean fits = row[1].length() <= room;
                boolean lineFits = row[1].length() + 1 <= room;
                new Desk().does(first).does(second + row[0] + " ")
                    .gives("n", fits ? MacroReckoner.IDLE : MacroReckoner.OVER)
                    .depth(fits ? 0 : 1).paper(fits ? due + row[1] : due);
                for (String command : new String[] {"p", "f"}) {
                    new Desk().does(first).does(second + row[0] + " ")
                        .gives(command, lineFits ? MacroReckoner.IDLE : MacroReckoner.OVER)
                        .depth(1).paper(lineFits ? due + row[1] + "\n" : due);
                }
            }
        }
    }
}

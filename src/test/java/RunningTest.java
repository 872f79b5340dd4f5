/** Texts that are run, by x and by choices, within eight at a time, sentence by sentence. */
public final class RunningTest {
    public static void main(String[] args) {
        before();
        eight();
        ninth();
        ninthByChoice();
        spentTexts();
        blankTexts();
        x();
        choices();
        choicesWithoutText();
        quitting();
        Desk.close("RunningTest");
    }

    /** Texts in one another, each with something behind the one that it runs. */
    private static String nested(String inmost, int levels, String behind) {
        String all = inmost;
        for (int i = 0; i < levels; i++) {
            all = "[" + all + "]x" + behind;
        }
        return all;
    }

    private static void before() {
        Desk.says("its characters are taken before what is left of the text that is being run and of the input.");
        new Desk().does("[1 2]x3 ").stack("3 2 1 ");
        new Desk().does("[1[2 3]x4]x5 ").stack("5 4 3 2 1 ");
        new Desk().does("[[[1]x2]x3]x4 ").stack("4 3 2 1 ");
        new Desk().type("[1 2]x").run(3, MacroReckoner.MORE).type("3 ").run(9, MacroReckoner.IDLE).stack("3 2 1 ");
        // A text may change the register from which it came.
        new Desk().does("[5sala]salax").stack("5 ");
        new Desk().does("[[3]sb1lbx2]sblbx").stack("2 3 1 ");
        // A text at its full length.
        new Desk().does("[" + Desk.times("1c", 30) + "]x").depth(0);
        new Desk().does("[" + Desk.times("1c", 29) + "55]x").stack("55 ");
    }

    private static void eight() {
        Desk.says("At most 8 texts are being run at a time");
        for (int levels = 1; levels <= 8; levels++) {
            new Desk().does(nested("z", levels, "c")).depth(0);
            new Desk().type(nested("zzz", levels, "c")).run(2 * levels + 1, MacroReckoner.MORE).running(levels).drop(1);
        }
    }

    private static void ninth() {
        Desk.says("A ninth text that is to be run: DEEP.");
        // The ninth stays on the stack, the eight end, and what the input has behind them stays.
        new Desk().gives(nested("z", 9, "c"), MacroReckoner.DEEP).depth(1).running(0).drop(1).stack("z ");
        new Desk().gives("5sa" + nested("z", 9, "c") + "  7 ", MacroReckoner.DEEP).stack("7 ");
        new Desk().type(nested("z", 9, "c")).run(17, MacroReckoner.MORE).running(8).depth(1)
            .run(1, MacroReckoner.DEEP).running(0).depth(1);
        // A number at the same place is not run.
        new Desk().does(nested("7x", 8, "c")).depth(0);
        // With seven in one another there is room for two, one behind the other.
        new Desk().does(nested("[1]x[2]xc", 7, "c")).depth(0);
        new Desk().gives(nested("[[1]xc]xc", 8, "c"), MacroReckoner.DEEP).depth(1);
        // Behind an error all eight are free again.
        new Desk().gives(nested("z", 9, "c"), MacroReckoner.DEEP).drop(1).does(nested("z", 8, "c"))
            .type(nested("zz", 8, "c")).run(17, MacroReckoner.MORE).running(8);
    }

    private static void ninthByChoice() {
        String[] rows = {"2 1<b", "1 2>b", "1 1=b"};
        for (String row : rows) {
            new Desk().gives("[z]sb" + nested(row + "c", 8, "c"), MacroReckoner.DEEP).depth(2).running(0).drop(1)
                .isText('b', true);
            new Desk().does("[z]sb" + nested(row + "c", 7, "c")).depth(0);
            // As the eighth's last command it takes the eighth's place.
            new Desk().does("[z]sb" + nested(row, 8, "c")).depth(0);
            new Desk().does("[z]sb" + nested(row + "  ", 8, "c")).depth(0);
        }
        // One that does not hold, or a register with a number or a blank text, runs nothing.
        new Desk().does("[z]sb" + nested("1 2=bc", 8, "c")).depth(0);
        new Desk().does("[z]sb" + nested("1 2<bc", 8, "c")).depth(0);
        new Desk().does("[z]sb" + nested("2 1>bc", 8, "c")).depth(0);
        new Desk().does("5sb" + nested("1 1=bc", 8, "c")).depth(0);
        new Desk().does("[  ]sb" + nested("1 1=bc", 8, "c")).depth(0);
        new Desk().does("[]sb" + nested("1 1=bc", 8, "c")).depth(0);
    }

    private static void spentTexts() {
        Desk.says("those of which nothing but spaces is left are not counted");
        new Desk().does(nested("z", 15, " ")).stack("0 ");
        new Desk().does(nested("z", 15, "")).stack("0 ");
        new Desk().does(nested(nested("z", 5, " "), 7, "c")).depth(0);
        new Desk().does(nested("[z]x", 8, "c")).depth(0);
        new Desk().does(nested("[z]x  ", 8, "c")).depth(0);
        new Desk().gives(nested("[z]x c", 8, "c"), MacroReckoner.DEEP).running(0);
        new Desk().type(nested("[zz]x ", 8, "c")).run(19, MacroReckoner.MORE).running(8);
        // A loop without end never grows.
        Desk loop = new Desk().type("[lax]salax");
        for (int i = 0; i < 5; i++) {
            loop.run(100, MacroReckoner.MORE).running(1);
        }
        new Desk().gives("[lax1]salax", MacroReckoner.DEEP).running(0).depth(1);
        new Desk().gives("[laxc]salax", MacroReckoner.DEEP).running(0).depth(1).drop(0);
    }

    private static void blankTexts() {
        Desk.says("to run a text of nothing but spaces changes nothing.");
        for (String blank : new String[] {"[]", "[ ]", "[   ]", "[" + Desk.times(" ", 60) + "]"}) {
            new Desk().does("5 " + blank + "x").running(0).stack("5 ");
            new Desk().does(blank + "sb1 1=b2 1<b1 2>b").running(0).depth(0);
            new Desk().does("[1" + (blank.length() > 50 ? "[]" : blank) + "x2]x3 ").stack("3 2 1 ");
        }
        // Nor is it a ninth.
        new Desk().does(nested("[  ]x[]xz", 8, "c")).depth(0);
        new Desk().type(nested("[  ]xzz", 8, "c")).run(18, MacroReckoner.MORE).running(8).depth(0);
    }

    private static void x() {
        Desk.says("x (x): a text is run; a number stays on the stack.");
        new Desk().does("[1 2]x").stack("2 1 ");
        new Desk().does("5x").stack("5 ").does("0.00xX").stack("2 5 ").does("_3x").stack("-3 2 5 ");
        new Desk().does("[[1]]x").stack("1 ").does("c[[1]]xx").stack("1 ");
        Twins.undone("", "x", MacroReckoner.EMPTY);
        new Desk().gives("[x]x", MacroReckoner.EMPTY).running(0).depth(0);
    }

    private static void choices() {
        Desk.says("< > = and a register (x y): if y is less than x, greater than x, as great as x, what the register"
            + " holds, if a text, is run.");
        String big = Desk.times("9", 60);
        String least = "." + Desk.times("0", 39) + "1";
        String[][] rows = {
            {"1 2", ">"}, {"2 1", "<"}, {"2 2", "="}, {"_1 1", ">"}, {"1 _1", "<"}, {"_1 _2", "<"},
            {"_2 _1", ">"}, {"_2 _2", "="}, {"0 0", "="}, {"0 _0", "="}, {"0 1", ">"}, {"0 _1", "<"},
            {"1.0 1", "="}, {"0 _0.00", "="}, {"1.01 1.1", ">"}, {"1.5 1.49", "<"}, {"1.5 1.50", "="},
            {"_1.5 _1.49", ">"}, {"_1.5 _1.51", "<"}, {"999999999 1000000000", ">"},
            {"1000000000000000000 1000000000000000001", ">"}, {"2000000000000000000 1000000000000000009", "<"},
            {"0 " + least, ">"}, {"0 _" + least, "<"}, {least + " " + least, "="},
            {big + " " + least, "<"}, {least + " _" + big, "<"}, {big.substring(1) + "8 " + big, ">"},
        };
        for (String[] row : rows) {
            for (String command : new String[] {"<", ">", "="}) {
                String due = command.equals(row[1]) ? "yes" : "";
                new Desk().does("[[yes]n]sa").does("7 " + row[0] + " " + command + "a").depth(1).paper(due)
                    .stack("7 ");
            }
        }
        // A loop: 3, 2, 1.
        new Desk().does("[p1-d0<a]sa3lax").paper("3\n2\n1\n").stack("0 ");
        // The text goes on before what stands behind the choice.
        new Desk().does("[1]sa[5 5=a2]x3 ").stack("3 2 1 ");
    }

    private static void choicesWithoutText() {
        for (String command : new String[] {"<", ">", "="}) {
            for (String pair : new String[] {"1 1", "1 2", "2 1"}) {
                new Desk().does("5sa" + pair + command + "a").depth(0).running(0);
                new Desk().does(pair + command + "z").depth(0).running(0);
            }
            Twins.undone("", command + "a", MacroReckoner.EMPTY);
            Twins.undone("1 ", command + "a", MacroReckoner.EMPTY);
            Twins.undoneAmong("1[1]", command + "a", MacroReckoner.TYPE);
            Twins.undoneAmong("[1]1 ", command + "b", MacroReckoner.TYPE);
            Twins.undoneAmong("[1][1]", command + "b", MacroReckoner.TYPE);
        }
    }

    private static void quitting() {
        Desk.says("q: all texts that are being run end. (Without any: nothing.)");
        new Desk().does("[2[3q4]x5]x6 ").stack("6 3 2 ");
        new Desk().does(nested("1q2", 8, "c") + "3 ").depth(1);
        new Desk().type("[q5]x7 ").run(3, MacroReckoner.MORE).running(0).drop(2);
        new Desk().type(nested("zq", 8, "c") + "7").run(18, MacroReckoner.MORE).running(0).run(1, MacroReckoner.WAITS);
        new Desk().does("q1 q").stack("1 ").does("7k[t]sa").does("q").scale(7).isText('a', true).depth(1);
        // Behind it there is room for eight again.
        new Desk().type(nested("qz", 8, "")).run(17, MacroReckoner.IDLE).does(nested("z", 8, "c")).depth(0);
    }
}

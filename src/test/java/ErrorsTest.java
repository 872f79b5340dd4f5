/** The errors, their order, and that a command with one does nothing, sentence by sentence. */
public final class ErrorsTest {
    private static final String NINES_60 = Desk.times("9", 60);
    private static final String ZEROS_40 = Desk.times("0", 40);
    private static final String TWENTY = Desk.times("1 ", 20);
    private static final String SIXTY = Desk.times("a", 60);
    /** Prints 200 characters and leaves nothing on the stack. */
    private static final String PAPER_FULL = "[" + SIXTY + "]ddnnn[" + Desk.times("b", 20) + "]n";
    private static final String[] TAKE_TWO = {"+", "-", "*", "/", "%", "^", "r", "<a", ">a", "=a"};
    private static final String[] TAKE_ONE = {"v", "d", "k", "p", "n", "Z", "X", "sa", "x"};
    private static final String[] TAKE_NONE = {"1 ", "[t]", "c", "z", "K", "f", "la", "q"};

    public static void main(String[] args) {
        empty();
        type();
        size();
        order();
        orderInEightTexts();
        orderOnFullPaper();
        nothingIsDone();
        textsEnd();
        nothingIsPrinted();
        Desk.close("ErrorsTest");
    }

    private static void empty() {
        Desk.says("too few on the stack for what a command takes (for p: none): EMPTY.");
        for (String command : TAKE_TWO) {
            Twins.undone("", command, MacroReckoner.EMPTY);
            Twins.undone("5k[t]sb1 ", command, MacroReckoner.EMPTY);
            new Desk().does("1 1 ").does(command);
            new Desk().does("3 1 1 ").does(command);
        }
        for (String command : TAKE_ONE) {
            Twins.undone("", command, MacroReckoner.EMPTY);
            Twins.undone("5k[t]sb", command, MacroReckoner.EMPTY);
            new Desk().does("1 ").does(command);
            new Desk().does("3 1 ").does(command);
        }
        for (String command : TAKE_NONE) {
            new Desk().does(command);
        }
    }

    private static void type() {
        Desk.says("A text where a number is needed (for + - * / % ^ v k < > =): TYPE.");
        for (String command : new String[] {"+", "-", "*", "/", "%", "^", "<a", ">a", "=a"}) {
            Twins.undoneAmong("1[1]", command, MacroReckoner.TYPE);
            Twins.undoneAmong("[1]1 ", command, MacroReckoner.TYPE);
            Twins.undoneAmong("[1][1]", command, MacroReckoner.TYPE);
            Twins.undoneAmong("1[]", command, MacroReckoner.TYPE);
            // A text that lies deeper is not taken.
            new Desk().does("[1]1 1 ").does(command);
        }
        for (String command : new String[] {"v", "k"}) {
            Twins.undoneAmong("[4]", command, MacroReckoner.TYPE);
            Twins.undoneAmong("[]", command, MacroReckoner.TYPE);
            new Desk().does("[1]4 ").does(command);
        }
        for (String command : new String[] {"r", "d", "p", "n", "Z", "X", "sa", "x", "f", "c", "z", "la"}) {
            new Desk().does("[1][2]").does(command);
            new Desk().does("1 [2]").does(command);
            new Desk().does("[1]2 ").does(command);
        }
    }

    private static void size() {
        Desk.says("A result (a numeral, too) whose size is above 60 or whose scale is above 40: SIZE.");
        Twins.undoneAmong("", "9" + NINES_60, MacroReckoner.SIZE);
        Twins.undoneAmong("", "." + ZEROS_40 + "1", MacroReckoner.SIZE);
        String half = "6" + Desk.times("0", 59);
        Twins.undoneAmong(half + "d", "+", MacroReckoner.SIZE);
        Twins.undoneAmong(half + " _" + half + " ", "-", MacroReckoner.SIZE);
        Twins.undoneAmong(half + " 2 ", "*", MacroReckoner.SIZE);
        Twins.undoneAmong(half + " .5 ", "/", MacroReckoner.SIZE);
        Twins.undoneAmong("40k1 .1 ", "%", MacroReckoner.SIZE);
        Twins.undoneAmong(half + " 2 ", "^", MacroReckoner.SIZE);
        Twins.undoneAmong("40k" + half + " ", "v", MacroReckoner.SIZE);
        // One digit less, and each of them has a result.
        String less = "4" + Desk.times("0", 59);
        new Desk().does(less + "d+Zn").does(less + " _" + less + " -Zn").does(less + " 2*Zn").does(less + " .5/Zn")
            .paper("60606060");
        new Desk().does("40k1 1%Xn").does("30k" + less + "vZn").does("0k" + less + " 1^Zn").paper("406060");
    }

    private static void order() {
        Desk.says("The errors are tried in this order: BAD, EMPTY, TYPE, then what is said of the command itself"
            + " (RANGE, ZERO, ROOT), SIZE, FULL, DEEP, OVER.");
        for (String bad : new String[] {"s1", "l1", "<1", ">1", "=1", "?"}) {
            Twins.undone("", bad, MacroReckoner.BAD);
            Twins.undone("[t]", bad, MacroReckoner.BAD);
            Twins.undone("[t][u]", bad, MacroReckoner.BAD);
            Twins.undone(TWENTY, bad, MacroReckoner.BAD);
        }
        for (String command : new String[] {"+", "-", "*", "/", "%", "^", "<a", ">a", "=a"}) {
            Twins.undone("[t]", command, MacroReckoner.EMPTY);
        }
        for (String one : new String[] {"0 ", "2.5 ", "100 "}) {
            Twins.undone(one, "/", MacroReckoner.EMPTY);
            Twins.undone(one, "%", MacroReckoner.EMPTY);
            Twins.undone(one, "^", MacroReckoner.EMPTY);
        }
        Twins.undone("[t]0 ", "/", MacroReckoner.TYPE);
        Twins.undone("[t]0 ", "%", MacroReckoner.TYPE);
        Twins.undone("[t]2.5 ", "^", MacroReckoner.TYPE);
        Twins.undone("0[t]", "^", MacroReckoner.TYPE);
        Twins.undone("0 _100 ", "^", MacroReckoner.RANGE);
        Twins.undone("0 _1.0 ", "^", MacroReckoner.RANGE);
        Twins.undone(NINES_60 + " 100 ", "^", MacroReckoner.RANGE);
        Twins.undone(NINES_60 + " 2.0 ", "^", MacroReckoner.RANGE);
        Twins.undone("0." + ZEROS_40 + " _99 ", "^", MacroReckoner.ZERO);
        Twins.undone("40k1 .0 ", "%", MacroReckoner.ZERO);
        Twins.undone("40k" + NINES_60 + " 0 ", "/", MacroReckoner.ZERO);
        Twins.undone("40k_" + NINES_60 + " ", "v", MacroReckoner.ROOT);
        Twins.undone(TWENTY, "9" + NINES_60, MacroReckoner.SIZE);
        Twins.undone(TWENTY, "." + ZEROS_40 + "0", MacroReckoner.SIZE);
        Twins.undone(TWENTY, "[" + SIXTY + "a]", MacroReckoner.SIZE);
    }

    private static String inEight(String inmost) {
        return Desk.times("[", 8) + inmost + Desk.times("]xc", 8);
    }

    private static void orderInEightTexts() {
        new Desk().gives("[z]sb" + inEight("1 1=?c"), MacroReckoner.BAD).depth(2).drop(1);
        new Desk().gives("[z]sb" + inEight("xc"), MacroReckoner.EMPTY).depth(0).drop(1);
        new Desk().gives("[z]sb" + inEight("1=bc"), MacroReckoner.EMPTY).depth(1).drop(1);
        new Desk().gives("[z]sb" + inEight("1[1]=bc"), MacroReckoner.TYPE).depth(2).drop(1);
        new Desk().gives("[z]sb" + inEight("1 1=bc"), MacroReckoner.DEEP).depth(2).drop(1);
        new Desk().gives("[z]sb" + inEight("lbxc"), MacroReckoner.DEEP).depth(1).drop(1);
    }

    private static void orderOnFullPaper() {
        for (String command : new String[] {"p", "n"}) {
            Twins.undone(PAPER_FULL, command, MacroReckoner.EMPTY);
            Twins.undone(PAPER_FULL + "1 ", command, MacroReckoner.OVER);
        }
        Twins.undone(PAPER_FULL + "1 ", "f", MacroReckoner.OVER);
        new Desk().does(PAPER_FULL + "f").printed(200);
    }

    private static void nothingIsDone() {
        Desk.says("A command with an error does nothing; it is taken, and all texts that are being run end.");
        Twins.undoneAmong("3k1 2 ", "?", MacroReckoner.BAD);
        Twins.undone("3k7sa[t]sb[out]n1 ", "+", MacroReckoner.EMPTY);
        Twins.undoneAmong("3k1[t]", "+", MacroReckoner.TYPE);
        Twins.undoneAmong("3k1 1.0 ", "^", MacroReckoner.RANGE);
        Twins.undoneAmong("3k41 ", "k", MacroReckoner.RANGE);
        Twins.undoneAmong("3k1.5 0.0 ", "/", MacroReckoner.ZERO);
        Twins.undoneAmong("3k_1.5 ", "v", MacroReckoner.ROOT);
        Twins.undoneAmong("3k" + NINES_60 + " 1 ", "+", MacroReckoner.SIZE);
        Twins.undoneAmong("3k" + Desk.times("2 ", 18), "d", MacroReckoner.FULL);
        Twins.undoneAmong("3k[" + SIXTY + "]pppc1.5 " + Desk.times("[bb]", 7), "f", MacroReckoner.OVER);
        // A ninth text: x and y stay, and the register keeps its text.
        new Desk().gives("3k[z]sb" + inEight("2 1<bc"), MacroReckoner.DEEP).drop(1).scale(3).stack("1 2 ")
            .does("clbn").paper("z");
    }

    private static void textsEnd() {
        // Each of the errors, in the eighth text of eight.
        String[] ways = {"?", "+", "[t]v", "1.0k", "1 0/", "_1v", "9 99^"};
        int[] errors = {MacroReckoner.BAD, MacroReckoner.EMPTY, MacroReckoner.TYPE, MacroReckoner.RANGE,
            MacroReckoner.ZERO, MacroReckoner.ROOT, MacroReckoner.SIZE};
        for (int i = 0; i < errors.length; i++) {
            new Desk().gives(inEight(ways[i] + " c") + " 7", errors[i]).running(0).drop(3);
            new Desk().gives(inEight(ways[i] + " c") + " 7", errors[i]).run(100, MacroReckoner.WAITS).depth(0).drop(1);
            new Desk().gives(inEight(ways[i]) + " 7 ", errors[i]).run(100, MacroReckoner.IDLE).stack("7 ");
        }
        new Desk().does(Desk.times("1 ", 19)).gives(inEight("1 1 c").replace("]xc", "]xq") + " 7", MacroReckoner.FULL)
            .running(0).depth(20).drop(3);
        new Desk().does(PAPER_FULL).gives(inEight("1nc") + " 7", MacroReckoner.OVER).running(0).depth(1).drop(3);
    }

    private static void nothingIsPrinted() {
        Desk.says("(Of what it would print nothing is; the input behind it stays.)");
        Desk full = new Desk().does("[" + SIXTY + "]ppp").depth(1);
        full.gives("pp", MacroReckoner.OVER).drop(1).gives("n", MacroReckoner.OVER).depth(1)
            .gives("f", MacroReckoner.OVER).paper(Desk.times(SIXTY + "\n", 3));
        full.does("n").depth(0).paper(SIXTY);
        // All of f is printed or nothing, also if its first lines would fit.
        full.does("[" + SIXTY + "]ddd").gives("f", MacroReckoner.OVER).paper("");
        new Desk().does("[" + SIXTY + "]dd[" + Desk.times("b", 17) + "]").gives("f", MacroReckoner.OVER).depth(4).paper("");
        new Desk().does("[" + SIXTY + "]dd[" + Desk.times("b", 16) + "]f").depth(4)
            .paper(Desk.times("b", 16) + "\n" + Desk.times(SIXTY + "\n", 3));
        new Desk().type("+ 1 2 ").run(9, MacroReckoner.EMPTY).drop(4);
    }
}

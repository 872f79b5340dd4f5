/** The stack and the registers, and the commands that only move or measure what they hold. */
public final class StackTest {
    private static final String NINETEEN = Desk.times("1 ", 19);
    private static final String TWENTY = Desk.times("1 ", 20);
    /** What comes on the stack without anything being taken from it. */
    private static final String[] PUSHES = {"5 ", "_.5 ", "[t]", "[]", "d", "z", "K", "la"};

    public static void main(String[] args) {
        twenty();
        order();
        taken();
        doubling();
        exchange();
        clearing();
        counting();
        sizes();
        scales();
        registers();
        storing();
        loading();
        Desk.close("StackTest");
    }

    private static void twenty() {
        Desk.says("The STACK holds at most 20 numbers and texts");
        for (String push : PUSHES) {
            new Desk().does(Desk.times("1 ", 18) + push).depth(19);
            new Desk().does(NINETEEN + push).depth(20);
        }
        Desk.says("More than 20 on the stack: FULL.");
        for (String push : PUSHES) {
            Twins.undone(TWENTY, push, MacroReckoner.FULL);
            Twins.undone("[[t]sa]x" + TWENTY, push, MacroReckoner.FULL);
            // In a text too: it ends, and what stands behind it in the input stays.
            new Desk().does(NINETEEN).type("[1 " + push + " c]x2 ").run(100, MacroReckoner.FULL).depth(20).running(0)
                .drop(2);
        }
        // What takes as many as it gives, or more, works on a full stack.
        for (String command : new String[] {"v", "Z", "X", "r", "x", "p"}) {
            new Desk().does(TWENTY).does(command).depth(20);
        }
        for (String command : new String[] {"+", "-", "*", "/", "%", "^", "n", "k", "sa"}) {
            new Desk().does(TWENTY).does(command).depth(19).does("1 ").depth(20).gives("1 ", MacroReckoner.FULL);
        }
        for (String command : new String[] {"<a", ">a", "=a"}) {
            new Desk().does(TWENTY).does(command).depth(18);
        }
        new Desk().does(TWENTY).does("f").depth(20).paper(Desk.times("1\n", 20));
    }

    private static void order() {
        Desk.says("the TOP one is the latest.");
        new Desk().does("1 2[t]").stack("t 2 1 ").does("nn").paper("t2").depth(1);
        new Desk().does("7 2-n").paper("5");
        new Desk().does("7 2/n").paper("3");
    }

    private static void taken() {
        Desk.says("(in brackets: what they take from the stack, the top one last)");
        // Made ready, the command, what it leaves above the two that lie below, what it prints.
        String[][] rows = {
            {"", "5 ", "5 ", ""}, {"", "[t]", "t ", ""}, {"7 2 ", "+", "9 ", ""}, {"7 2 ", "-", "5 ", ""},
            {"7 2 ", "*", "14 ", ""}, {"7 2 ", "/", "3 ", ""}, {"7 2 ", "%", "1 ", ""}, {"7 2 ", "^", "49 ", ""},
            {"9 ", "v", "3 ", ""}, {"5 ", "d", "5 5 ", ""}, {"5 6 ", "r", "5 6 ", ""}, {"", "z", "2 ", ""},
            {"", "K", "0 ", ""}, {"3 ", "k", "", ""}, {"5 ", "p", "5 ", "5\n"}, {"5 ", "n", "", "5"},
            {"5 ", "f", "5 ", "5\n8.0\nlow\n"}, {"55 ", "Z", "2 ", ""}, {"5.5 ", "X", "1 ", ""},
            {"5 ", "sa", "", ""}, {"", "la", "0 ", ""}, {"[1 2]", "x", "2 1 ", ""}, {"5 ", "x", "5 ", ""},
            {"1 2 ", "<t", "", ""}, {"2 1 ", "<t", "yes ", ""}, {"2 1 ", ">t", "", ""}, {"1 2 ", ">t", "yes ", ""},
            {"1 2 ", "=t", "", ""}, {"2 2 ", "=t", "yes ", ""}, {"", "q", "", ""},
        };
        for (String[] row : rows) {
            new Desk().does("[[yes]]st[low]8.0 " + row[0]).does(row[1]).paper(row[3]).stack(row[2] + "8.0 low ");
        }
        new Desk().does("[low]8.0 c").depth(0);
    }

    private static void doubling() {
        Desk.says("d (x): x twice.");
        new Desk().does("1.50d").stack("1.50 1.50 ").does("[t]d").stack("t t 1.50 1.50 ");
        new Desk().does("0.00dXrX").stack("2 2 ");
        new Desk().does("[]d").depth(2).does("ZrZ").stack("0 0 ");
        // A copy is a thing of its own.
        new Desk().does("[ab]dZ").stack("2 ab ").does("c5d1+").stack("6 5 ");
        Twins.undone("", "d", MacroReckoner.EMPTY);
    }

    private static void exchange() {
        Desk.says("r (x y): y, then x.");
        new Desk().does("1[t]2r").stack("t 2 1 ").does("r").stack("2 t 1 ").does("rr").stack("2 t 1 ");
        new Desk().does("1 2r").stack("1 2 ");
        Twins.undone("", "r", MacroReckoner.EMPTY);
        Twins.undone("1 ", "r", MacroReckoner.EMPTY);
        Twins.undone("[t]", "r", MacroReckoner.EMPTY);
    }

    private static void clearing() {
        Desk.says("c: everything goes from the stack.");
        new Desk().does("c").depth(0).does("1 [t] 3c").depth(0).does("f").paper("").gives("n", MacroReckoner.EMPTY);
        new Desk().does(TWENTY).does("c").depth(0).does(TWENTY).depth(20);
        new Desk().does("3k[t]sa1pc").scale(3).isText('a', true).paper("1\n");
    }

    private static void counting() {
        Desk.says("z: how many there were, scale 0.");
        new Desk().does("zzz").stack("2 1 0 ").does("zX").stack("0 2 1 0 ");
        new Desk().does("5kzX").stack("0 ");
        new Desk().does(NINETEEN).does("zn").paper("19");
        new Desk().does(TWENTY).gives("z", MacroReckoner.FULL).depth(20);
    }

    private static void sizes() {
        Desk.says("Z (x): the size of a number (for a text how many characters)");
        new Desk().does("0Z 0.00Z 100Z 0.05Z _12.50Z []Z[ a ]Z[5]Z").stack("1 3 0 4 1 3 0 0 ");
        new Desk().does("3k1.234ZX").stack("0 ");
        new Desk().does("[" + Desk.times("a", 60) + "]Z").stack("60 ");
        new Desk().does(Desk.times("7", 60) + "Z").stack("60 ");
        Twins.undone("", "Z", MacroReckoner.EMPTY);
    }

    private static void scales() {
        Desk.says("X (x): the scale of a number (for a text 0).");
        new Desk().does("0X 0.00X 100X 0.05X _12.50X []X[ a ]X[5.5]X").stack("0 0 0 2 2 0 2 0 ");
        new Desk().does("3k1.234XX").stack("0 ");
        new Desk().does("." + Desk.times("0", 40) + "X").stack("40 ");
        Twins.undone("", "X", MacroReckoner.EMPTY);
    }

    private static void registers() {
        Desk.says("REGISTERS a .. z hold a number or a text each, at first 0 (scale 0).");
        for (char r = 'a'; r <= 'z'; r++) {
            new Desk().does("5k").isText(r, false).does("l" + r + "dXn n").paper("00");
        }
        Desk all = new Desk();
        for (char r = 'a'; r <= 'z'; r++) {
            all.does(r - 'a' + "s" + r);
        }
        for (char r = 'a'; r <= 'z'; r++) {
            all.does("l" + r);
            all.does("n").tear(r - 'a' > 9 ? 2 : 1);
        }
        for (char r = 'a'; r <= 'z'; r++) {
            String others = r == 'a' ? "z" : "a";
            new Desk().does("[mine]s" + r + "[other]s" + others + "l" + r + "n").paper("mine");
        }
        // Neither neighbour of the letters is one.
        for (String wrong : new String[] {"`", "{", "A", "Z", "@", "["}) {
            Twins.undoneAmong("", "s" + wrong, MacroReckoner.BAD);
            Twins.undoneAmong("", "l" + wrong, MacroReckoner.BAD);
        }
    }

    private static void storing() {
        Desk.says("s and a register (x): it holds x then.");
        new Desk().does("1.50sa").depth(0).does("la").stack("1.50 ");
        new Desk().does("[]sa").depth(0).isText('a', true).does("laZ").stack("0 ");
        // What it held before does not come back.
        new Desk().does("[long text]sa[t]salaZ").stack("1 ").does("c12345678901sa1salaZ").stack("1 ");
        new Desk().does("1.234sa5salaX").stack("0 ").does("c_5sa5sala").stack("5 ");
        Twins.undone("", "sa", MacroReckoner.EMPTY);
        Twins.undone("5sa[t]sb", "sa", MacroReckoner.EMPTY);
        Twins.undone("5sa[t]sb", "sb", MacroReckoner.EMPTY);
    }

    private static void loading() {
        Desk.says("l and a register: what it holds comes on the stack.");
        new Desk().does("1.50sa[t]szlalzlb").stack("0 t 1.50 ").does("clala").stack("1.50 1.50 ");
        // It stays in the register, whatever becomes of it on the stack.
        new Desk().does("1.50sala1+clan").paper("1.50").isText('a', false);
        new Desk().does("[t]salaZclan").paper("t").isText('a', true);
    }
}

/** Promises 1 to 11, sentence by sentence: just within a limit, at it and just beyond it. */
public final class PromisesTest {
    private static final String SIXTY = Desk.times("a", 60);

    public static void main(String[] args) {
        calls();
        promise1NewObject();
        promise2Characters();
        promise2Room();
        promise3Count();
        promise3CountOfErrors();
        promise3Answers();
        promise3AnswersInTexts();
        promise3Spaces();
        promise3Refused();
        promise4Drop();
        promise4Stays();
        promise5Depth();
        promise6Scale();
        promise7Running();
        promise8IsText();
        promise9Printed();
        promise10CharAt();
        promise11Tear();
        Desk.close("PromisesTest");
    }

    private static void calls() {
        Desk.says("An object is used for at most 512 calls after it has been made");
        Desk desk = new Desk().does("[1+lax]sa0 ").type("lax");
        int turns = 0;
        while (desk.calls() < Desk.MOST_CALLS - 8) {
            desk.run(4, MacroReckoner.MORE);
            turns++;
        }
        desk.drop(0).does("n").paper("" + turns);
        Desk.same("the number of calls", desk.calls(), Desk.MOST_CALLS);
    }

    private static void promise1NewObject() {
        Desk.says("Nothing is typed, on the stack or printed; registers and K are 0.");
        new Desk().drop(0);
        new Desk().depth(0).scale(0).running(0).printed(0).charAt(0, 0).tear(0);
        for (int commands : new int[] {1, 2, 99, 100}) {
            new Desk().run(commands, MacroReckoner.IDLE).depth(0).drop(0);
        }
        for (char r = 'a'; r <= 'z'; r++) {
            new Desk().isText(r, false).does("l" + r + "Xn l" + r + "Zn l" + r + "n").paper("000");
        }
        new Desk().does("Kn").paper("0");
        // A second object has nothing of the first one's.
        new Desk().does("5sa3k[x]1p").type("1 2").depth(2);
        new Desk().depth(0).scale(0).printed(0).does("lan").paper("0").drop(0);
    }

    private static void promise2Characters() {
        Desk.says("Appends a character to the input: true; false when c is not 32 .. 126");
        for (int c : new int[] {0, 1, 10, 31, 127, 128, 255, 256, 288, 65535}) {
            new Desk().type("1").typeRefused((char) c).type(" ").drop(2);
            new Desk().type("1").typeRefused((char) c).type("2 ").run(9, MacroReckoner.IDLE).stack("12 ");
        }
        for (int c = 0; c <= 65535; c++) {
            boolean good = c >= 32 && c <= 126;
            MacroReckoner reckoner = new MacroReckoner();
            Desk.same("type(" + c + ")", reckoner.type((char) c), good);
            Desk.same("drop() after type(" + c + ")", reckoner.drop(), good ? 1 : 0);
        }
    }

    private static void promise2Room() {
        Desk.says("or 100 are left in it.");
        new Desk().type(Desk.times("c", 99)).drop(99);
        new Desk().type(Desk.times("c", 100)).typeRefused('c').typeRefused(' ').drop(100);
        new Desk().type(Desk.times("c", 99)).typeRefused((char) 127).type("c").typeRefused('c').drop(100);
        // A character that is refused leaves the others as they are.
        new Desk().type(Desk.times(" ", 97) + "12 ").typeRefused('3').typeRefused((char) 31)
            .run(9, MacroReckoner.IDLE).stack("12 ");
        // What waits has its place, what was taken has none.
        new Desk().type("[" + Desk.times(" ", 99)).run(5, MacroReckoner.WAITS).typeRefused(']').drop(100).type("1");
        new Desk().type(Desk.times("c", 100)).run(1, MacroReckoner.MORE).type("c").typeRefused('c').drop(100);
        new Desk().type(Desk.times("c", 99) + "?").run(100, MacroReckoner.BAD).type(Desk.times("c", 100)).typeRefused('c');
        // Spaces in front count until a run ends.
        new Desk().type(Desk.times(" ", 99) + "1").typeRefused('2').run(1, MacroReckoner.WAITS)
            .type(Desk.times("2", 99)).typeRefused('2').drop(100);
        new Desk().type(Desk.times(" ", 100)).typeRefused(' ').runRefused(0).typeRefused(' ').drop(100);
        // What is left of a text that is being run is not in the input.
        new Desk().type("[" + Desk.times("c", 60) + "]x").run(2, MacroReckoner.MORE).running(1)
            .type(Desk.times("c", 100)).typeRefused('c').run(60, MacroReckoner.MORE).running(0).drop(100);
        // However often it was filled and worked off, there is room for 100.
        Desk worn = new Desk();
        for (int i = 0; i < 3; i++) {
            worn.type(Desk.times("c", 100)).typeRefused('c').run(99, MacroReckoner.MORE)
                .type(Desk.times("c", 9)).run(1, MacroReckoner.MORE).drop(9);
        }
    }

    private static void promise3Count() {
        Desk.says("Does so many commands at most");
        new Desk().type("1 2 3 ").run(1, MacroReckoner.MORE).depth(1).run(1, MacroReckoner.MORE).depth(2)
            .run(1, MacroReckoner.IDLE).depth(3).run(1, MacroReckoner.IDLE).depth(3);
        new Desk().type("1 2 3 ").run(2, MacroReckoner.MORE).depth(2);
        new Desk().type("1 2 3 ").run(3, MacroReckoner.IDLE).depth(3);
        new Desk().type("1 2 3 ").run(4, MacroReckoner.IDLE).depth(3);
        new Desk().type(Desk.times("c", 100)).run(99, MacroReckoner.MORE).drop(1);
        new Desk().type(Desk.times("c", 100)).run(100, MacroReckoner.IDLE).drop(0);
        // Five commands begin the loop, four make a turn.
        String loop = "[1+lax]sa0lax";
        new Desk().type(loop).run(100, MacroReckoner.MORE).drop(0).does("r").does("n").paper("24");
        new Desk().type(loop).run(98, MacroReckoner.MORE).drop(0).does("nn").paper("123");
        new Desk().type(loop).run(99, MacroReckoner.MORE).drop(0).does("n").paper("24");
        // Commands of texts and of the input count alike.
        new Desk().type("[1 2]x3 4 ").run(4, MacroReckoner.MORE).depth(2).run(1, MacroReckoner.MORE).depth(3);
    }

    private static void promise3CountOfErrors() {
        Desk.says("(those with an error among them), and no more behind one with an error.");
        new Desk().type("+").run(1, MacroReckoner.EMPTY).run(1, MacroReckoner.IDLE);
        new Desk().type("1 +").run(1, MacroReckoner.MORE).run(1, MacroReckoner.EMPTY).drop(0);
        new Desk().type("1 +2 ").run(2, MacroReckoner.EMPTY).depth(1).drop(2);
        new Desk().type("1 +2 3 +").run(100, MacroReckoner.EMPTY).depth(1)
            .run(100, MacroReckoner.IDLE).stack("5 1 ");
        new Desk().type("??c").run(100, MacroReckoner.BAD).run(100, MacroReckoner.BAD)
            .run(100, MacroReckoner.IDLE);
        new Desk().type("[1+2]x3 ").run(100, MacroReckoner.EMPTY).depth(1).drop(2);
        new Desk().type(Desk.times("c", 99) + "?").run(99, MacroReckoner.MORE).run(1, MacroReckoner.BAD);
        new Desk().type(Desk.times("c", 99) + "?").run(100, MacroReckoner.BAD).drop(0);
    }

    private static void promise3Answers() {
        Desk.says("Answers its error; or MORE, when all were done and there is a further command; or WAITS, when"
            + " there is none, but something other than spaces is left in the input; or IDLE.");
        new Desk().type("1 2 ").run(1, MacroReckoner.MORE);
        new Desk().type("1 2").run(1, MacroReckoner.WAITS).run(1, MacroReckoner.WAITS).drop(1);
        new Desk().type("1   ").run(1, MacroReckoner.IDLE).drop(0);
        new Desk().type("1 ").run(1, MacroReckoner.IDLE);
        new Desk().type("1").run(1, MacroReckoner.WAITS).run(100, MacroReckoner.WAITS).depth(0).drop(1);
        new Desk().run(1, MacroReckoner.IDLE).type(" ").run(1, MacroReckoner.IDLE);
        // What goes wrong is a further command too.
        new Desk().type("c?").run(1, MacroReckoner.MORE).run(1, MacroReckoner.BAD);
        new Desk().type("c+").run(1, MacroReckoner.MORE).run(1, MacroReckoner.EMPTY);
        // The error is answered whatever stands behind it.
        new Desk().type("+c").run(1, MacroReckoner.EMPTY).run(1, MacroReckoner.IDLE);
        new Desk().type("+5").run(1, MacroReckoner.EMPTY).run(1, MacroReckoner.WAITS);
        new Desk().type("+ ").run(1, MacroReckoner.EMPTY).run(1, MacroReckoner.IDLE);
    }

    private static void promise3AnswersInTexts() {
        // A command of a text is a further one; the rest of a text is no part of the input.
        new Desk().type("[1]x").run(2, MacroReckoner.MORE).run(1, MacroReckoner.IDLE).depth(1);
        new Desk().type("[1 ]x").run(2, MacroReckoner.MORE).run(1, MacroReckoner.IDLE).depth(1);
        new Desk().type("[s]x").run(2, MacroReckoner.MORE).run(1, MacroReckoner.BAD);
        new Desk().type("[_]x").run(2, MacroReckoner.MORE).run(1, MacroReckoner.BAD);
        new Desk().type("[ ]x").run(2, MacroReckoner.IDLE).depth(0);
        new Desk().type("[ ]x5").run(2, MacroReckoner.WAITS).depth(0);
        new Desk().type("[ ]xc").run(2, MacroReckoner.MORE).depth(0);
        new Desk().type("[c]x5").run(2, MacroReckoner.MORE).run(1, MacroReckoner.WAITS);
        new Desk().type("[c]xc").run(3, MacroReckoner.MORE).run(1, MacroReckoner.IDLE);
        new Desk().type("[c q c]x5").run(4, MacroReckoner.WAITS).running(0);
        new Desk().type("[c q c]x ").run(4, MacroReckoner.IDLE).running(0);
        // A text that runs itself for ever is stopped by the number of commands.
        new Desk().type("[lax]salax").run(100, MacroReckoner.MORE).run(100, MacroReckoner.MORE).running(1);
    }

    private static void promise3Spaces() {
        Desk.says("Whenever a run ends, spaces at the front of the input are left out.");
        new Desk().type("   ").run(1, MacroReckoner.IDLE).drop(0);
        new Desk().type("c   ").run(1, MacroReckoner.IDLE).drop(0);
        new Desk().type("  c  d  ").run(1, MacroReckoner.MORE).drop(3);
        new Desk().type("d   1 ").run(1, MacroReckoner.EMPTY).drop(2);
        new Desk().type("c   5").run(1, MacroReckoner.WAITS).drop(1);
        new Desk().type("   5").run(1, MacroReckoner.WAITS).drop(1);
        new Desk().type("  [  ").run(1, MacroReckoner.WAITS).drop(3);
        // Also while a text goes on, and when one is ended by an error or by q.
        new Desk().type("[1 2 3]x    4").run(3, MacroReckoner.MORE).running(1).drop(1);
        new Desk().type("[1 2 3]x    4").run(2, MacroReckoner.MORE).running(1).drop(1);
        new Desk().type("[?]x    4").run(9, MacroReckoner.BAD).drop(1);
        new Desk().type("[q?]x    4").run(3, MacroReckoner.WAITS).drop(1);
        new Desk().type("[c c]x").run(2, MacroReckoner.MORE).type("   4").run(1, MacroReckoner.MORE).drop(1);
    }

    private static void promise3Refused() {
        Desk.says("IllegalArgument: commands is not 1 .. 100.");
        int[] wrong = {Integer.MIN_VALUE, -100, -1, 0, 101, 102, 256, Integer.MAX_VALUE};
        for (int commands : wrong) {
            // Nothing is done, and no run ends: the spaces stay.
            new Desk().type("   5 ").runRefused(commands).depth(0).drop(5);
            new Desk().type("[1 2]x3 ").run(3, MacroReckoner.MORE).runRefused(commands).running(1).depth(1)
                .run(2, MacroReckoner.IDLE).stack("3 2 1 ");
            new Desk().does("7k[t]sa1p").runRefused(commands).scale(7).isText('a', true).depth(1).paper("1\n");
        }
        new Desk().type("1 2 ").run(1, MacroReckoner.MORE);
        new Desk().type("1 2 ").run(2, MacroReckoner.IDLE);
        new Desk().type("1 2 ").run(99, MacroReckoner.IDLE);
        new Desk().type("1 2 ").run(100, MacroReckoner.IDLE);
    }

    private static void promise4Drop() {
        Desk.says("The input is empty, and no text is being run; how many characters the input had.");
        new Desk().drop(0).drop(0);
        new Desk().type(" ").drop(1).drop(0);
        new Desk().type(" 1 2 ").drop(5).drop(0).run(9, MacroReckoner.IDLE).depth(0);
        new Desk().type(Desk.times("c", 99)).drop(99);
        new Desk().type(Desk.times("c", 100)).drop(100).type(Desk.times("c", 100)).typeRefused('c').drop(100);
        new Desk().type("1 2 3 ").run(1, MacroReckoner.MORE).drop(4).run(9, MacroReckoner.IDLE).depth(1);
        // What waited does not join what comes later.
        new Desk().type("[5").run(9, MacroReckoner.WAITS).drop(2).does("1 ").stack("1 ");
        new Desk().type("12").run(9, MacroReckoner.WAITS).drop(2).does("3 ").stack("3 ");
        new Desk().type("s").run(9, MacroReckoner.WAITS).drop(1).gives("a", MacroReckoner.BAD);
        // The characters of texts are none of the input's.
        new Desk().type("[1 2 3]x").run(3, MacroReckoner.MORE).running(1).drop(0).running(0)
            .run(9, MacroReckoner.IDLE).depth(1);
        new Desk().type("[[1 2]x3]x4 ").run(5, MacroReckoner.MORE).running(2).drop(2).running(0)
            .run(9, MacroReckoner.IDLE).depth(1);
        // All eight that may be run at a time are free again.
        String eight = Desk.times("[", 8) + "1 2" + Desk.times("]xc", 8);
        new Desk().type(eight).run(17, MacroReckoner.MORE).running(8).drop(1).running(0)
            .type(eight).run(17, MacroReckoner.MORE).running(8).drop(1);
    }

    private static void promise4Stays() {
        Desk.says("(Stack, registers, K and what is printed stay.)");
        Desk desk = new Desk().type("3k7sa[t]sb5p[1 2 3]x4 p").run(11, MacroReckoner.MORE).running(1);
        desk.drop(3).depth(2).scale(3).isText('a', false).isText('b', true).paper("5\n")
            .does("lalb").stack("t 7 1 5 ");
    }

    private static void promise5Depth() {
        Desk.says("How many are on the stack.");
        Desk desk = new Desk().depth(0);
        for (int i = 1; i <= 20; i++) {
            desk.does(i % 2 == 0 ? "1 " : "[t]").depth(i);
        }
        desk.gives("1 ", MacroReckoner.FULL).depth(20).does("n").depth(19).does("[]").depth(20)
            .does("c").depth(0).gives("n", MacroReckoner.EMPTY).depth(0);
    }

    private static void promise6Scale() {
        Desk.says("`int scale()`: K.");
        Desk desk = new Desk().scale(0);
        for (int k = 0; k <= 40; k++) {
            desk.does(k + "k").scale(k);
        }
        desk.gives("41k", MacroReckoner.RANGE).scale(40).gives("_1k", MacroReckoner.RANGE).scale(40)
            .does("0k").scale(0).gives("_1k", MacroReckoner.RANGE).scale(0);
        // The scale of a number is not K.
        new Desk().does("1.234 ").scale(0);
    }

    private static void promise7Running() {
        Desk.says("How many texts are being run, of which something other than spaces is left.");
        new Desk().type("[1  ]x").run(1, MacroReckoner.MORE).running(0).run(1, MacroReckoner.MORE).running(1)
            .run(1, MacroReckoner.IDLE).running(0);
        new Desk().type("[[[c1]xc]xc]x").run(2, MacroReckoner.MORE).running(1)
            .run(2, MacroReckoner.MORE).running(2).run(2, MacroReckoner.MORE).running(3)
            .run(2, MacroReckoner.MORE).running(2).run(1, MacroReckoner.MORE).running(1)
            .run(1, MacroReckoner.IDLE).running(0);
        // Texts whose last command runs the next one are not counted.
        new Desk().type("[[[c1]x ]x ]x").run(6, MacroReckoner.MORE).running(1);
        new Desk().type("[[[c1]x]x]x").run(6, MacroReckoner.MORE).running(1);
        new Desk().type("[[[c1]x ]x+]x").run(6, MacroReckoner.MORE).running(2);
        new Desk().type("[[[c1]xc]x ]x").run(6, MacroReckoner.MORE).running(2);
        new Desk().type("[]x[  ]x").run(4, MacroReckoner.IDLE).running(0);
        new Desk().type("[c?c]x").run(100, MacroReckoner.BAD).running(0);
        new Desk().type("[cqc]xc").run(4, MacroReckoner.MORE).running(0);
        // A text on the stack or in a register is not being run, nor is the input.
        new Desk().type("[c]dsa1 2 ").run(4, MacroReckoner.MORE).running(0);
    }

    private static void promise8IsText() {
        Desk.says("Whether a register holds a text. IllegalArgument: register is not a .. z.");
        for (int c = 0; c <= 65535; c++) {
            if (c < 'a' || c > 'z') {
                new Desk().isTextRefused((char) c);
            }
        }
        for (char r = 'a'; r <= 'z'; r++) {
            Desk desk = new Desk().isText(r, false).does("[]s" + r).isText(r, true);
            for (char other = 'a'; other <= 'z'; other++) {
                desk.isText(other, other == r);
            }
            desk.does("1s" + r).isText(r, false).does("[5]s" + r).isText(r, true);
        }
        new Desk().does("[t]sb[u]sylysblbsa5sy").isText('a', true).isText('b', true).isText('y', false);
        // A refused call changes nothing.
        new Desk().type("[t]sa1p2 3").run(5, MacroReckoner.WAITS).isTextRefused('`').isTextRefused('{')
            .isText('a', true).depth(2).printed(2).drop(1);
    }

    private static void promise9Printed() {
        Desk.says("How many characters are printed.");
        new Desk().printed(0).does("12 p").printed(3).does("n").printed(5).does("[]n f").printed(5)
            .does("[]p").printed(6);
        String first = "[" + SIXTY + "]ddnnn";
        Desk desk = new Desk().does(first + "[" + Desk.times("b", 18) + "]n").printed(198);
        desk.does("1n").printed(199).does("1n").printed(200).gives("1n", MacroReckoner.OVER).printed(200)
            .does("c[]nf").printed(200).tear(200).printed(0);
    }

    private static void promise10CharAt() {
        Desk.says("Character p of what is printed; the character 0 when there is none.");
        for (int p : new int[] {Integer.MIN_VALUE, -200, -1, 0, 1, 199, 200, 201, 255, Integer.MAX_VALUE}) {
            new Desk().charAt(p, 0);
        }
        new Desk().does("[~ }]p").charAt(0, '~').charAt(1, ' ').charAt(2, '}').charAt(3, 10).charAt(4, 0)
            .charAt(5, 0).charAt(-1, 0).charAt(Integer.MAX_VALUE, 0).charAt(Integer.MIN_VALUE, 0);
        String first = "[" + SIXTY + "]ddnnn";
        Desk desk = new Desk().does(first + "[" + Desk.times("b", 19) + "]n").charAt(198, 'b').charAt(199, 0);
        desk.does("[c]n").charAt(198, 'b').charAt(199, 'c').charAt(200, 0).charAt(201, 0).charAt(-1, 0);
        // What was torn off is not there any more.
        desk.tear(200).charAt(0, 0).charAt(199, 0).does("[d]n").charAt(0, 'd').charAt(1, 0);
    }

    private static void promise11Tear() {
        Desk.says("What was printed goes; how many characters it had.");
        new Desk().tear(0).tear(0).printed(0);
        new Desk().does("4k1 3/p").tear(6).printed(0).charAt(0, 0).tear(0).depth(1).scale(4)
            .does("p").paper(".3333\n");
        new Desk().does("[]n").tear(0).does("[]p").tear(1).does("[a]n").tear(1);
        String first = "[" + SIXTY + "]ddnnn";
        new Desk().does(first + "[" + Desk.times("b", 19) + "]n").tear(199);
        // What is torn off makes room for 200 more.
        new Desk().does(first + "[" + Desk.times("b", 20) + "]n").gives("1n", MacroReckoner.OVER).tear(200)
            .does("cc" + first + "[" + Desk.times("b", 20) + "]n").gives("1n", MacroReckoner.OVER).tear(200);
        // Input, texts, stack, registers and K stay.
        new Desk().type("2k[t]sa5p[6p7]x8").run(10, MacroReckoner.MORE).tear(4).running(1).depth(2)
            .scale(2).isText('a', true).run(9, MacroReckoner.WAITS).drop(1).stack("7 6 5 ");
    }
}

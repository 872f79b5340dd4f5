/** Each promise of the document by its number: ordinary inputs, edges and wrong inputs. */
public final class PromisesTest {
    private static final int[] ODD = {Integer.MIN_VALUE, -1, 0, 101, 102, Integer.MAX_VALUE};

    public static void main(String[] args) {
        promise1NewObject();
        promise2Type();
        promise3Run();
        promise3Waiting();
        promise3Spaces();
        promise4Drop();
        promise5Depth();
        promise6Scale();
        promise7Running();
        promise8IsText();
        promise9Printed();
        promise10CharAt();
        promise11Tear();
        Desk.close("PromisesTest");
    }

    private static void promise1NewObject() {
        Desk desk = new Desk();
        desk.depth(0).scale(0).running(0).paper("").drop(0).run(100, MacroReckoner.IDLE);
        for (char r = 'a'; r <= 'z'; r++) {
            desk.isText(r, false);
            desk.does("l" + r + "dXpcl" + r + "pc").paper("0\n0\n");
        }
        // A second object has nothing of the first one's.
        new Desk().does("5sa3k[x]").depth(1);
        new Desk().depth(0).scale(0).does("lap").paper("0\n");
    }

    private static void promise2Type() {
        MacroReckoner reckoner = new MacroReckoner();
        int taken = 0;
        for (int c = 0; c <= 65535; c++) {
            boolean good = c >= 32 && c <= 126;
            Desk.same("type(" + c + ")", reckoner.type((char) c), good);
            taken += good ? 1 : 0;
        }
        Desk.same("drop() after all characters", reckoner.drop(), taken);

        Desk full = new Desk().type("[" + Desk.times(" ", 99));
        Desk.same("type when 100 are left", full.reckoner().type(']'), false);
        Desk.same("type when 100 are left", full.reckoner().type((char) 7), false);
        full.run(5, MacroReckoner.WAITS);
        Desk.same("type when 100 are left still", full.reckoner().type(']'), false);
        full.drop(100).type("1");

        // What was taken makes room again, however often.
        Desk worn = new Desk();
        for (int i = 0; i < 4; i++) {
            worn.type(Desk.times("c", 100));
            Desk.same("type when 100 are left", worn.reckoner().type('c'), false);
            worn.run(99, MacroReckoner.MORE).type(Desk.times("c", 9)).run(1, MacroReckoner.MORE).drop(9);
        }
    }

    private static void promise3Run() {
        Desk desk = new Desk();
        for (int odd : ODD) {
            desk.type(" 1");
            Desk.same("run(" + odd + ") refuses", Desk.refusesRun(desk.reckoner(), odd), true);
            desk.depth(0).drop(2);
        }
        Desk.same("run(1) is taken", Desk.refusesRun(desk.reckoner(), 1), false);
        Desk.same("run(100) is taken", Desk.refusesRun(desk.reckoner(), 100), false);

        desk.type("1 2+p").run(1, MacroReckoner.MORE).depth(1).run(1, MacroReckoner.MORE).depth(2)
            .run(1, MacroReckoner.MORE).depth(1).run(1, MacroReckoner.IDLE).paper("3\n")
            .run(1, MacroReckoner.IDLE);
        new Desk().type(Desk.times("c", 100)).run(99, MacroReckoner.MORE).run(1, MacroReckoner.IDLE);
        new Desk().type(Desk.times("c", 100)).run(100, MacroReckoner.IDLE);

        // An error ends the run and is counted; what stands behind it stays.
        new Desk().type("1 +2 3 +").run(100, MacroReckoner.EMPTY).depth(1)
            .run(100, MacroReckoner.IDLE).stack("5 1 ");
        new Desk().type("+").run(1, MacroReckoner.EMPTY).run(1, MacroReckoner.IDLE);
        new Desk().type("+1 ").run(1, MacroReckoner.EMPTY).run(1, MacroReckoner.IDLE).depth(1);
        new Desk().type("c+").run(1, MacroReckoner.MORE).run(1, MacroReckoner.EMPTY);
        new Desk().type("?!").run(9, MacroReckoner.BAD).run(9, MacroReckoner.BAD).run(9, MacroReckoner.IDLE);
        // A further command in a text counts as one in the input does, also if it is bad.
        new Desk().type("[1]x").run(2, MacroReckoner.MORE).run(1, MacroReckoner.IDLE).depth(1);
        new Desk().type("[s]x").run(2, MacroReckoner.MORE).run(1, MacroReckoner.BAD);
        new Desk().type("[ ]x").run(2, MacroReckoner.IDLE).depth(0);
        new Desk().type("[c]x5").run(2, MacroReckoner.MORE).run(1, MacroReckoner.WAITS);
        // A text that runs itself for ever is stopped by the number of commands.
        new Desk().type("[lax]salax").run(100, MacroReckoner.MORE).run(100, MacroReckoner.MORE).running(1);
    }

    private static void promise3Waiting() {
        String[] unfinished = {"5", "_", ".", "_.", "5.", "_5.5", "[", "[[]", "[1 2 ", "s", "l", "<", ">", "="};
        for (String piece : unfinished) {
            new Desk().type("1 " + piece).run(100, MacroReckoner.WAITS).depth(1)
                .run(1, MacroReckoner.WAITS).drop(piece.length());
            new Desk().type("1 " + piece).run(1, MacroReckoner.WAITS).depth(1);
        }
        new Desk().type("5").run(9, MacroReckoner.WAITS).type("6").run(9, MacroReckoner.WAITS)
            .type(".").run(9, MacroReckoner.WAITS).type("7").run(9, MacroReckoner.WAITS)
            .type(".").run(1, MacroReckoner.WAITS).depth(1).type("8 ").run(9, MacroReckoner.IDLE)
            .stack(".8 56.7 ");
        new Desk().type("_").run(9, MacroReckoner.WAITS).type(".").run(9, MacroReckoner.WAITS)
            .type("5").run(9, MacroReckoner.WAITS).type("p").run(9, MacroReckoner.IDLE).paper("-.5\n");
        new Desk().type("4s").run(9, MacroReckoner.WAITS).type("a").run(9, MacroReckoner.IDLE)
            .does("lap").paper("4\n");
        new Desk().type("[[a]").run(9, MacroReckoner.WAITS).type("]").run(9, MacroReckoner.IDLE).stack("[a] ");
    }

    private static void promise3Spaces() {
        new Desk().type("   ").run(1, MacroReckoner.IDLE).drop(0);
        new Desk().type("  c  d  ").run(1, MacroReckoner.MORE).drop(3);
        new Desk().type("d   1 ").run(1, MacroReckoner.EMPTY).drop(2);
        new Desk().type("c   5").run(1, MacroReckoner.WAITS).drop(1);
        new Desk().type("   5 ").run(1, MacroReckoner.IDLE).drop(0);
        // The input's front is cleared also while a text goes on.
        new Desk().type("[1 2 3]x    4").run(3, MacroReckoner.MORE).running(1).drop(1);
        // A call that is refused is no run that ends.
        Desk refused = new Desk().type("   5");
        Desk.same("run(0) refuses", Desk.refusesRun(refused.reckoner(), 0), true);
        refused.drop(4);
        // A space is no register, and ends what cannot go on.
        new Desk().type("1s 2 ").run(9, MacroReckoner.BAD).run(9, MacroReckoner.IDLE).stack("2 1 ");
    }

    private static void promise4Drop() {
        new Desk().drop(0).type(" 1 2 ").drop(5).drop(0).run(9, MacroReckoner.IDLE).depth(0);
        new Desk().type("1 2 3 ").run(1, MacroReckoner.MORE).drop(4).depth(1);
        Desk desk = new Desk().type("3k7sa[t]sb5p[1 2 3]x4 p").run(11, MacroReckoner.MORE).running(1);
        desk.drop(3).running(0).depth(2).scale(3).isText('a', false).isText('b', true)
            .run(9, MacroReckoner.IDLE).paper("5\n").does("la").stack("7 1 5 ");
        new Desk().type("[5").run(9, MacroReckoner.WAITS).drop(2).does("1 ").depth(1);
    }

    private static void promise5Depth() {
        Desk desk = new Desk();
        for (int i = 1; i <= 20; i++) {
            desk.does("1 ").depth(i);
        }
        desk.gives("1 ", MacroReckoner.FULL).depth(20).does("+").depth(19).does("[a]").depth(20)
            .does("n").depth(19).does("c").depth(0);
    }

    private static void promise6Scale() {
        Desk desk = new Desk();
        for (int k = 0; k <= 40; k++) {
            desk.does(k + "k").scale(k).does("Kn").paper("" + k);
        }
        desk.gives("41k", MacroReckoner.RANGE).scale(40).depth(1);
    }

    private static void promise7Running() {
        // The text is left with 1 spaces, then with spaces alone.
        new Desk().type("[1  ]x").run(2, MacroReckoner.MORE).running(1).run(1, MacroReckoner.IDLE).running(0);
        new Desk().type("[[[c1]xc]xc]x").run(2, MacroReckoner.MORE).running(1)
            .run(2, MacroReckoner.MORE).running(2).run(2, MacroReckoner.MORE).running(3)
            .run(2, MacroReckoner.MORE).running(2).run(1, MacroReckoner.MORE).running(1)
            .run(1, MacroReckoner.IDLE).running(0);
        // Texts whose last command runs the next one are not counted.
        new Desk().type("[[[c1]x ]x ]x").run(6, MacroReckoner.MORE).running(1);
        new Desk().type("[[[c1]x ]x+]x").run(6, MacroReckoner.MORE).running(2);
        new Desk().type("[c?c]x").run(100, MacroReckoner.BAD).running(0);
    }

    private static void promise8IsText() {
        Desk desk = new Desk();
        for (int c = 0; c <= 65535; c++) {
            boolean letter = c >= 'a' && c <= 'z';
            boolean refused = Desk.refusesIsText(desk.reckoner(), (char) c);
            Desk.same("isText(" + c + ") refuses", refused, !letter);
        }
        desk.does("[]sa[x]sz5sb").isText('a', true).isText('z', true).isText('b', false).isText('y', false);
        desk.does("1sa").isText('a', false).isText('z', true);
        desk.does("lzsb").isText('b', true).isText('z', true);
    }

    private static void promise9Printed() {
        Desk desk = new Desk().does("12 p");
        Desk.same("printed()", desk.reckoner().printed(), 3);
        desk.does("n");
        Desk.same("printed()", desk.reckoner().printed(), 5);
        desk.does("[]n f");
        Desk.same("printed()", desk.reckoner().printed(), 5);
        desk.does("[" + Desk.times("a", 60) + "]ddnnn[" + Desk.times("b", 13) + "]p");
        Desk.same("printed()", desk.reckoner().printed(), 199);
        desk.gives("p", MacroReckoner.OVER).gives("12 n", MacroReckoner.OVER).gives("f", MacroReckoner.OVER);
        Desk.same("printed()", desk.reckoner().printed(), 199);
        desk.depth(2).does("c1n");
        Desk.same("printed()", desk.reckoner().printed(), 200);
        desk.gives("1n", MacroReckoner.OVER).does("[]n").gives("[]p", MacroReckoner.OVER).does("cf");
        Desk.same("printed()", desk.reckoner().printed(), 200);
    }

    private static void promise10CharAt() {
        Desk desk = new Desk();
        int[] none = {Integer.MIN_VALUE, -1, 0, 1, 199, 200, 201, Integer.MAX_VALUE};
        for (int p : none) {
            Desk.same("charAt(" + p + ") of nothing", (int) desk.reckoner().charAt(p), 0);
        }
        desk.does("[~ }]p");
        char[] due = {'~', ' ', '}', 10, 0, 0};
        for (int p = 0; p < due.length; p++) {
            Desk.same("charAt(" + p + ")", (int) desk.reckoner().charAt(p), (int) due[p]);
        }
        Desk.same("charAt(-1)", (int) desk.reckoner().charAt(-1), 0);
        desk.does("c[" + Desk.times("a", 60) + "]dd nnn [" + Desk.times("b", 16) + "]n");
        Desk.same("charAt(199)", desk.reckoner().charAt(199), 'b');
        Desk.same("charAt(200)", (int) desk.reckoner().charAt(200), 0);
    }

    private static void promise11Tear() {
        Desk desk = new Desk();
        Desk.same("tear() of nothing", desk.reckoner().tear(), 0);
        desk.does("4k1 3/p");
        Desk.same("tear()", desk.reckoner().tear(), 6);
        Desk.same("printed() then", desk.reckoner().printed(), 0);
        Desk.same("charAt(0) then", (int) desk.reckoner().charAt(0), 0);
        Desk.same("tear() then", desk.reckoner().tear(), 0);
        desk.depth(1).scale(4).does("p").paper(".3333\n");
        // What is torn off makes room for 200 more.
        desk.does("c[" + Desk.times("a", 60) + "]dd nnn [" + Desk.times("b", 20) + "]n");
        Desk.same("tear() of all", desk.reckoner().tear(), 200);
        desk.does("1p").paper("1\n");
    }
}

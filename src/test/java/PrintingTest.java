/** What p, n and f print, and within which room, sentence by sentence. */
public final class PrintingTest {
    private static final String SIXTY = Desk.times("a", 60);

    public static void main(String[] args) {
        signs();
        digits();
        everyScale();
        zero();
        texts();
        p();
        n();
        f();
        room();
        Desk.close("PrintingTest");
    }

    private static void prints(String program, String due) {
        new Desk().does(program + "n").depth(0).paper(due);
    }

    private static void signs() {
        Desk.says("PRINTING a number: - if it is below 0");
        prints("_7", "-7");
        prints("7", "7");
        prints("_.5", "-.5");
        prints("_12.50", "-12.50");
        prints("_1 1+", "0");
        prints("_" + Desk.times("9", 60), "-" + Desk.times("9", 60));
    }

    private static void digits() {
        Desk.says("the digits of W before the last s, none if there are none but zeros; if s is above 0 the point and"
            + " the last s digits.");
        prints("100", "100");
        prints("007", "7");
        prints("1.", "1");
        prints("1.0", "1.0");
        prints("12.50", "12.50");
        prints("0.5", ".5");
        prints("00.05", ".05");
        prints("_0.005", "-.005");
        prints("10.00", "10.00");
        prints("9.99", "9.99");
        prints("1000000000", "1000000000");
        prints("1000000000000000000.000000001", "1000000000000000000.000000001");
        prints("1.000000000", "1.000000000");
        prints(".100000000", ".100000000");
        prints(".0000000001", ".0000000001");
        prints("123456789012345678901234567890", "123456789012345678901234567890");
    }

    private static void everyScale() {
        String row = Desk.times("1234567890", 5) + "1234567891";
        for (int scale = 1; scale <= 40; scale++) {
            String behind = row.substring(60 - scale);
            prints(row.substring(0, 60 - scale) + "." + behind, row.substring(0, 60 - scale) + "." + behind);
            prints("_0." + behind, "-." + behind);
            prints("0." + Desk.times("0", scale - 1) + "1", "." + Desk.times("0", scale - 1) + "1");
            prints("1." + Desk.times("0", scale), "1." + Desk.times("0", scale));
        }
    }

    private static void zero() {
        Desk.says("The number 0 is printed as 0 whatever its scale.");
        prints("_0", "0");
        for (int scale = 0; scale <= 40; scale++) {
            prints("0." + Desk.times("0", scale), "0");
            prints("_0." + Desk.times("0", scale), "0");
            prints(scale + "k0 5/", "0");
        }
    }

    private static void texts() {
        Desk.says("A text: its characters.");
        prints("[]", "");
        prints("[ ]", " ");
        prints("[ a[b] ]", " a[b] ");
        prints("[_0.50]", "_0.50");
        prints("[" + SIXTY + "]", SIXTY);
        Desk.says("A line's end has the code 10.");
        new Desk().does("[]p").printed(1).charAt(0, 10);
        new Desk().does("[]f").printed(1).charAt(0, 10);
    }

    private static void p() {
        Desk.says("p: the top one is printed and stays, then a line's end.");
        new Desk().does("1 _.50p").paper("-.50\n").stack("-.50 1 ");
        new Desk().does("1[t]p").paper("t\n").stack("t 1 ");
        new Desk().does("1pp").paper("1\n1\n").depth(1);
    }

    private static void n() {
        Desk.says("n (x): it is printed.");
        new Desk().does("1 _.50n").paper("-.50").stack("1 ");
        new Desk().does("1[t]nn").paper("t1").depth(0);
    }

    private static void f() {
        Desk.says("f: all are printed from the top one down, a line's end behind each.");
        new Desk().does("f").paper("").depth(0);
        new Desk().does("1f").paper("1\n").depth(1);
        new Desk().does("1[b]3.0[]f").paper("\n3.0\nb\n1\n").depth(4);
        new Desk().does(Desk.times("12 ", 20)).does("f").depth(20).paper(Desk.times("12\n", 20));
    }

    private static void room() {
        Desk.says("More than 200 characters printed: OVER.");
        String[][] rows = {
            {"0.00", "0"}, {"_7", "-7"}, {".5", ".5"}, {"_.5", "-.5"}, {"_.05", "-.05"}, {"1.5", "1.5"},
            {"_12.50", "-12.50"}, {"[]", ""}, {"[ab]", "ab"}, {"10.", "10"}, {"_0.0", "0"},
        };
        for (String[] row : rows) {
            for (int room = 0; room <= 8; room++) {
                inRoom(room, row[0], row[1]);
            }
        }
    }

    private static void inRoom(int room, String value, String printed) {
        String others = Desk.times("b", 20 - room);
        String ready = "[" + SIXTY + "]ddnnn[" + others + "]n" + value + " ";
        String before = Desk.times(SIXTY, 3) + others;
        boolean fits = printed.length() <= room;
        boolean lineFits = printed.length() + 1 <= room;
        new Desk().does(ready).gives("n", fits ? MacroReckoner.IDLE : MacroReckoner.OVER)
            .depth(fits ? 0 : 1).paper(fits ? before + printed : before);
        for (String command : new String[] {"p", "f"}) {
            new Desk().does(ready).gives(command, lineFits ? MacroReckoner.IDLE : MacroReckoner.OVER)
                .depth(1).paper(lineFits ? before + printed + "\n" : before);
        }
        if (!fits) {
            Twins.undone(ready, "n", MacroReckoner.OVER);
        }
        if (!lineFits) {
            Twins.undone(ready, "p", MacroReckoner.OVER);
            Twins.undone(ready, "f", MacroReckoner.OVER);
        }
    }
}

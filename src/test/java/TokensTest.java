/** The input and its tokens, whole, unfinished and wrong, sentence by sentence. */
public final class TokensTest {
    private static final String[] PAIRS = {"s", "l", "<", ">", "="};

    public static void main(String[] args) {
        input();
        numerals();
        numeralsWithOnePoint();
        numeralsWithoutDigit();
        texts();
        textsOfSixty();
        pairs();
        singleCharacters();
        unfinished();
        unfinishedBecomesWhole();
        unfinishedInTexts();
        unfinishedNumeralsInTexts();
        spaces();
        Desk.close("TokensTest");
    }

    private static void input() {
        Desk.says("What is typed becomes the INPUT, from which commands are taken from the front.");
        new Desk().type("1 2 3 ").run(2, MacroReckoner.MORE).drop(2).stack("2 1 ");
        new Desk().type("1 2 ").run(1, MacroReckoner.MORE).type("3 ").run(9, MacroReckoner.IDLE).stack("3 2 1 ");
    }

    private static void numerals() {
        Desk.says("a numeral: _ (for a minus sign) or nothing, then digits and at most one point among, before or"
            + " behind them, at least one digit in all, as long as it can be");
        new Desk().does("0123456789 _0123456789 1.5 .5 5. _1.5 _.5 _5. ").stack("-5 -.5 -1.5 5 .5 1.5 -123456789 123456789 ");
        // It ends at whatever cannot belong to it.
        new Desk().does("5_6_7.8_.9_1 ").stack("-1 -.9 -7.8 -6 5 ");
        new Desk().does("12[t]34d5K.7z").stack("7 .7 0 5 34 34 t 12 ");
    }

    private static void numeralsWithOnePoint() {
        Desk.says("at most one point among, before or behind them");
        new Desk().does("1.2.3.4 ").stack(".4 .3 1.2 ");
        new Desk().does("1..2 ").stack(".2 1 ");
        new Desk().does(".1.2 ").stack(".2 .1 ");
        new Desk().does("_1._2.5 ").stack("-2.5 -1 ");
        new Desk().type("1..").run(9, MacroReckoner.WAITS).depth(1).drop(1);
        new Desk().type("1.. ").run(9, MacroReckoner.BAD).depth(1).drop(0);
    }

    private static void numeralsWithoutDigit() {
        Desk.says("at least one digit in all");
        // What cannot become a numeral any more is taken one character at a time.
        new Desk().type("_x").run(9, MacroReckoner.BAD).drop(1);
        new Desk().type(".x").run(9, MacroReckoner.BAD).drop(1);
        new Desk().type("_.x").run(9, MacroReckoner.BAD).drop(2);
        new Desk().type("_.x").run(9, MacroReckoner.BAD).run(9, MacroReckoner.BAD)
            .run(9, MacroReckoner.EMPTY).run(9, MacroReckoner.IDLE);
        new Desk().type("_. ").run(9, MacroReckoner.BAD).run(9, MacroReckoner.BAD).run(9, MacroReckoner.IDLE);
        new Desk().type("_ 5 ").run(9, MacroReckoner.BAD).run(9, MacroReckoner.IDLE).stack("5 ");
        new Desk().type(". 5 ").run(9, MacroReckoner.BAD).run(9, MacroReckoner.IDLE).stack("5 ");
        new Desk().type("__5 ").run(9, MacroReckoner.BAD).run(9, MacroReckoner.IDLE).stack("-5 ");
        new Desk().type("..5 ").run(9, MacroReckoner.BAD).run(9, MacroReckoner.IDLE).stack(".5 ");
        new Desk().type("_..5 ").run(9, MacroReckoner.BAD).run(9, MacroReckoner.BAD)
            .run(9, MacroReckoner.IDLE).stack(".5 ");
        new Desk().type("._5 ").run(9, MacroReckoner.BAD).run(9, MacroReckoner.IDLE).stack("-5 ");
        Twins.undoneAmong("", "_", MacroReckoner.BAD);
        Twins.undoneAmong("", ".", MacroReckoner.BAD);
    }

    private static void texts() {
        Desk.says("a text: [ , any characters in which [ and ] come in pairs, ]");
        new Desk().does("[][a][[b]c][ d ][[[]][]]f").paper("[[]][]\n d \n[b]c\na\n\n");
        new Desk().type("[[]").run(9, MacroReckoner.WAITS).type("]").run(9, MacroReckoner.IDLE).stack("[] ");
        new Desk().type("[]]").run(9, MacroReckoner.BAD).depth(1).drop(0);
        new Desk().type("][]").run(9, MacroReckoner.BAD).run(9, MacroReckoner.IDLE).depth(1);
        StringBuilder all = new StringBuilder();
        for (char c = 32; c <= 126; c++) {
            if (c != '[' && c != ']') {
                all.append(c);
            }
        }
        String low = all.substring(0, 50);
        String high = all.substring(50);
        new Desk().does("[" + low + "]n[" + high + "]n").depth(0).paper(low + high);
        Desk.says("A text comes on the stack without its outer [ and ].");
        new Desk().does("[[a]]Zn[[a]]n[]Zn").paper("3[a]0");
    }

    private static void textsOfSixty() {
        Desk.says("A TEXT is a row of at most 60 characters.");
        for (int length : new int[] {0, 1, 2, 58, 59, 60}) {
            new Desk().does("[" + Desk.times("a", length) + "]Zn").paper("" + length);
            Desk.reckons("[" + Desk.times("a", length) + "]", Desk.times("a", length));
            Desk.reckons("[" + Desk.times(" ", length) + "]", Desk.times(" ", length));
        }
        Desk.says("A text of more than 60 characters: SIZE.");
        for (int length : new int[] {61, 62, 80, 87}) {
            Twins.undone("", "[" + Desk.times("a", length) + "]", MacroReckoner.SIZE);
            Twins.undoneAmong("", "[" + Desk.times(" ", length) + "]", MacroReckoner.SIZE);
        }
        new Desk().gives("[" + Desk.times("a", 98) + "]", MacroReckoner.SIZE).depth(0).drop(0);
        // Inner brackets are characters like others.
        Desk.reckons("[" + Desk.times("[]", 30) + "]", Desk.times("[]", 30));
        Twins.undoneAmong("", "[" + Desk.times("[]", 30) + "a]", MacroReckoner.SIZE);
        Twins.undoneAmong("", "[" + Desk.times("[", 31) + Desk.times("]", 31) + "]", MacroReckoner.SIZE);
    }

    private static void pairs() {
        Desk.says("two characters, of which the first is s l < > or =");
        for (char r = 'a'; r <= 'z'; r++) {
            new Desk().does("5s" + r + "l" + r).stack("5 ");
            new Desk().does("[[yes]n]s" + r + "2 1<" + r + "1 2>" + r + "1 1=" + r).paper("yesyesyes");
        }
        Desk.says("What is not a letter a .. z behind s l < > =, and all other characters: BAD.");
        // Both characters are taken.
        for (String first : PAIRS) {
            for (char c = 32; c <= 126; c++) {
                if (c < 'a' || c > 'z') {
                    new Desk().does("1 2 ").type(first + c + "3 ").run(9, MacroReckoner.BAD)
                        .run(9, MacroReckoner.IDLE).stack("3 2 1 ");
                }
            }
            for (String second : new String[] {"`", "{", "A", "Z", "0", " ", "[", "]", "="}) {
                Twins.undoneAmong("1 1 ", first + second, MacroReckoner.BAD);
            }
        }
        // Behind its first character there is no other token: [ opens no text and s is a register.
        new Desk().type("1s[2 ").run(9, MacroReckoner.BAD).run(9, MacroReckoner.IDLE).stack("2 1 ");
        new Desk().does("1ssls").stack("1 ");
        new Desk().does("1slll").stack("1 ");
    }

    private static void singleCharacters() {
        Desk.says("otherwise one character");
        String right = "+-*/%^vdrczKkpnfZXxqsl<>=[0123456789._ ";
        int wrong = 0;
        for (char c = 32; c <= 126; c++) {
            if (right.indexOf(c) < 0) {
                wrong++;
                new Desk().does("1 2 ").type(c + "3 ").run(9, MacroReckoner.BAD).drop(2);
                Twins.undoneAmong("1 2 ", "" + c, MacroReckoner.BAD);
            }
        }
        Desk.same("how many characters are no command", wrong, 95 - right.length());
        new Desk().type("abc").run(9, MacroReckoner.BAD).run(9, MacroReckoner.BAD).run(9, MacroReckoner.IDLE);
    }

    private static void unfinished() {
        Desk.says("A token that could become longer by more input (a numeral at its end, also _ or . or _. alone, a"
            + " text without its last ], one of s l < > = alone) is UNFINISHED and waits");
        String[] pieces = {"5", "12", "_", ".", "_.", "5.", ".5", "_5", "_5.5", "_.5", "0", "[", "[[]", "[[", "[1 2 ", "[]["};
        for (String piece : pieces) {
            String whole = piece.startsWith("[]") ? "[]" : "";
            waits(piece, piece.length() - whole.length(), whole.isEmpty() ? 1 : 2);
        }
        for (String piece : PAIRS) {
            waits(piece, 1, 1);
        }
        // It waits too when it is too long already.
        new Desk().type(Desk.times("9", 100)).run(9, MacroReckoner.WAITS).drop(100);
        new Desk().type("[" + Desk.times("a", 99)).run(9, MacroReckoner.WAITS).drop(100);
        new Desk().type("." + Desk.times("9", 99)).run(9, MacroReckoner.WAITS).drop(100);
    }

    /** Behind a 1 the piece waits, however often it is tried, and nothing is done. */
    private static void waits(String piece, int left, int depth) {
        new Desk().type("1 " + piece).run(100, MacroReckoner.WAITS).depth(depth).run(1, MacroReckoner.WAITS)
            .run(100, MacroReckoner.WAITS).depth(depth).printed(0).drop(left);
    }

    private static void unfinishedBecomesWhole() {
        new Desk().type("5").run(9, MacroReckoner.WAITS).type("6").run(9, MacroReckoner.WAITS)
            .type(".").run(9, MacroReckoner.WAITS).type("7").run(9, MacroReckoner.WAITS)
            .type(".").run(1, MacroReckoner.WAITS).depth(1).type("8 ").run(9, MacroReckoner.IDLE)
            .stack(".8 56.7 ");
        new Desk().type("_").run(9, MacroReckoner.WAITS).type(".").run(9, MacroReckoner.WAITS)
            .type("5").run(9, MacroReckoner.WAITS).type("p").run(9, MacroReckoner.IDLE).paper("-.5\n");
        new Desk().type("[[a]").run(9, MacroReckoner.WAITS).type("]").run(9, MacroReckoner.IDLE).stack("[a] ");
        for (String piece : PAIRS) {
            new Desk().does("1 2 ").gives(piece, MacroReckoner.WAITS).depth(2).gives("a", MacroReckoner.IDLE)
                .depth(piece.equals("s") ? 1 : piece.equals("l") ? 3 : 0);
            new Desk().does("1 2 ").gives(piece, MacroReckoner.WAITS).depth(2).gives("?", MacroReckoner.BAD)
                .depth(2).drop(0);
        }
        // A single space ends a numeral; behind a pair's first character it is the second.
        new Desk().type("5").run(9, MacroReckoner.WAITS).type(" ").run(9, MacroReckoner.IDLE).depth(1).drop(0);
        new Desk().type("s").run(9, MacroReckoner.WAITS).type(" ").run(9, MacroReckoner.BAD).drop(0);
    }

    private static void unfinishedInTexts() {
        Desk.says("in a text that is run the text's end ends it: a numeral is whole then, others that are unfinished"
            + " are BAD there.");
        for (String broken : new String[] {"_", ".", "_.", "s", "l", "<", ">", "="}) {
            // What follows in the text that ran it, or in the input, does not make it whole.
            new Desk().does("1 2 ").type("[3 " + broken + "]xa 4 ").run(100, MacroReckoner.BAD).running(0)
                .run(100, MacroReckoner.BAD).run(100, MacroReckoner.IDLE).stack("4 3 2 1 ");
            new Desk().does("1 2 ").type("[[3 " + broken + "]x5 6]x7 ").run(100, MacroReckoner.BAD).running(0)
                .drop(2).stack("3 2 1 ");
            new Desk().does("1 2 ").type("[" + broken + "]x5 ").run(2, MacroReckoner.MORE).running(1)
                .run(1, MacroReckoner.BAD).running(0).drop(2).stack("2 1 ");
        }
        // A space behind it in the text ends _ and . and is the second character of a pair.
        for (String broken : new String[] {"_ ", ". ", "s ", "l ", "< ", "> ", "= "}) {
            new Desk().does("1 2 ").type("[" + broken + "]x5 ").run(100, MacroReckoner.BAD).running(0).drop(2)
                .stack("2 1 ");
        }
        new Desk().type("[s[a]]x").run(100, MacroReckoner.BAD).running(0).drop(0).depth(0);
    }

    private static void unfinishedNumeralsInTexts() {
        new Desk().does("[12]x3 ").stack("3 12 ");
        new Desk().does("[12]x.5 ").stack(".5 12 ");
        new Desk().does("[1.]x5 [_7]x[.5]x[_.5]x6 ").stack("6 -.5 .5 -7 5 1 ");
        new Desk().does("[[1]x2]x3 ").stack("3 2 1 ");
        new Desk().type("[12]x").run(2, MacroReckoner.MORE).type("3").run(1, MacroReckoner.WAITS).depth(1).drop(1);
        // A numeral at a text's end is a command, whatever the input could add to it.
        new Desk().type("[12]x").run(3, MacroReckoner.IDLE).stack("12 ");
        new Desk().does("[" + Desk.times("9", 60) + "]x").does("Zn").paper("60");
    }

    private static void spaces() {
        Desk.says("Spaces between tokens are left out.");
        new Desk().does("   1   2   +   n   ").paper("3");
        new Desk().does(" [  1   2  ]  x  ").stack("2 1 ");
        new Desk().does("1 2+n").paper("3");
        // Within a token they are none between tokens.
        new Desk().does("1 2 3 ").depth(3);
        new Desk().does("1. 5 ").stack("5 1 ");
        new Desk().does("[ a  b ]n").paper(" a  b ");
        new Desk().does("1 ").gives("s a", MacroReckoner.BAD).drop(1).depth(1);
        new Desk().does("1 ").gives("l a", MacroReckoner.BAD).drop(1).depth(1);
    }
}

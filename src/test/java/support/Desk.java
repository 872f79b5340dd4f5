/** A MacroReckoner with checks around it: every answer that is not the one due is printed. */
final class Desk {
    /** What an object answers behind so many calls is free, so no test may lean on it. */
    static final int MOST_CALLS = 512;

    private static int checks = 0;
    private static int wrong = 0;
    private static String sentence = "";
    private static int sentenceChecks = 0;

    private final MacroReckoner reckoner = new MacroReckoner();
    private final StringBuilder story = new StringBuilder();
    private int calls = 0;

    /** The words of the document to which the checks from here on belong. */
    static void says(String words) {
        endSentence();
        sentence = words;
    }

    /** A sentence that is quoted but not looked at would only seem to be tested. */
    private static void endSentence() {
        if (!sentence.isEmpty() && sentenceChecks == 0) {
            wrong++;
            System.out.println("\"" + sentence + "\": nothing is checked");
        }
        sentenceChecks = 0;
    }

    static void same(String what, Object got, Object due) {
        checks++;
        sentenceChecks++;
        if (!got.equals(due)) {
            wrong++;
            System.out.println("\"" + sentence + "\": " + what + " answered " + got + ", due is " + due);
        }
    }

    /** Ends the test's program, with exit code 1 if an answer was not as due. */
    static void close(String test) {
        endSentence();
        System.out.println(test + ": " + checks + " checks, " + wrong + " wrong");
        System.exit(wrong == 0 && checks > 0 ? 0 : 1);
    }

    static String times(String piece, int count) {
        return piece.repeat(count);
    }

    /** What can be typed at once, with the end of a token at its end; the rest follows. */
    static int firstPart(String characters) {
        int space = characters.length() <= 100 ? -1 : characters.lastIndexOf(' ', 99);
        return space < 0 ? characters.length() : space + 1;
    }

    /** What a new object prints last for the program, which leaves it on top of the stack. */
    static void reckons(String program, String due) {
        new Desk().does(program + "p").paper(due + "\n");
    }

    private MacroReckoner use() {
        calls++;
        if (calls == MOST_CALLS + 1) {
            same("the number of calls after" + story, calls, MOST_CALLS);
        }
        return reckoner;
    }

    int calls() {
        return calls;
    }

    /** Every one of them is taken. */
    Desk type(String characters) {
        story.append(' ').append(characters);
        for (int i = 0; i < characters.length(); i++) {
            char c = characters.charAt(i);
            same("type(" + c + ") in" + story, use().type(c), true);
        }
        return this;
    }

    Desk typeRefused(char c) {
        same("type(" + (int) c + ") after" + story, use().type(c), false);
        return this;
    }

    Desk run(int commands, int due) {
        same("run(" + commands + ") after" + story, use().run(commands), due);
        story.append(" run(").append(commands).append(')');
        return this;
    }

    Desk runRefused(int commands) {
        boolean refused = false;
        try {
            use().run(commands);
        } catch (IllegalArgumentException refusal) {
            refused = true;
        }
        same("run(" + commands + ") throws after" + story, refused, true);
        story.append(" run(").append(commands).append(')');
        return this;
    }

    /** Types and runs all of it, in parts if it is long; at the end nothing may be left. */
    Desk does(String characters) {
        int part = firstPart(characters);
        if (part < characters.length()) {
            return gives(characters.substring(0, part), MacroReckoner.IDLE).does(characters.substring(part));
        }
        return gives(characters, MacroReckoner.IDLE);
    }

    Desk gives(String characters, int due) {
        return type(characters).run(100, due);
    }

    Desk drop(int due) {
        same("drop() after" + story, use().drop(), due);
        story.append(" drop()");
        return this;
    }

    Desk depth(int due) {
        same("depth() after" + story, use().depth(), due);
        return this;
    }

    Desk scale(int due) {
        same("scale() after" + story, use().scale(), due);
        return this;
    }

    Desk running(int due) {
        same("running() after" + story, use().running(), due);
        return this;
    }

    Desk isText(char register, boolean due) {
        same("isText(" + register + ") after" + story, use().isText(register), due);
        return this;
    }

    Desk isTextRefused(char register) {
        boolean refused = false;
        try {
            use().isText(register);
        } catch (IllegalArgumentException refusal) {
            refused = true;
        }
        same("isText(" + (int) register + ") throws after" + story, refused, true);
        return this;
    }

    Desk printed(int due) {
        same("printed() after" + story, use().printed(), due);
        return this;
    }

    Desk charAt(int p, int due) {
        same("charAt(" + p + ") after" + story, (int) use().charAt(p), due);
        return this;
    }

    Desk tear(int due) {
        same("tear() after" + story, use().tear(), due);
        story.append(" tear()");
        return this;
    }

    /** What stands on the paper, whole; it is torn off then. */
    Desk paper(String due) {
        printed(due.length());
        StringBuilder got = new StringBuilder();
        for (int p = 0; p < due.length(); p++) {
            got.append(use().charAt(p));
        }
        same("what is printed after" + story, got.toString(), due);
        return tear(due.length());
    }

    /** The stack from the top one down, a blank behind each. */
    Desk stack(String due) {
        return does("f").paper(due.replace(' ', '\n'));
    }
}

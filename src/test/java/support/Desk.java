/** A MacroReckoner with checks around it: every answer that is not the one due is printed. */
final class Desk {
    private static int checks = 0;
    private static int wrong = 0;

    private final MacroReckoner reckoner = new MacroReckoner();
    private final StringBuilder story = new StringBuilder();

    MacroReckoner reckoner() {
        return reckoner;
    }

    static void same(String what, Object got, Object due) {
        checks++;
        if (!got.equals(due)) {
            wrong++;
            System.out.println(what + " answered " + got + ", due is " + due);
        }
    }

    /** Ends the test's program, with exit code 1 if an answer was not as due. */
    static void close(String test) {
        System.out.println(test + ": " + checks + " checks, " + wrong + " wrong");
        System.exit(wrong == 0 && checks > 0 ? 0 : 1);
    }

    static String times(String piece, int count) {
        return piece.repeat(count);
    }

    Desk type(String characters) {
        story.append(' ').append(characters);
        for (int i = 0; i < characters.length(); i++) {
            same("type " + characters.charAt(i) + " in" + story,
                reckoner.type(characters.charAt(i)), true);
        }
        return this;
    }

    Desk run(int commands, int due) {
        same("run(" + commands + ") after" + story, reckoner.run(commands), due);
        story.append(" run(").append(commands).append(')');
        return this;
    }

    /** Types and runs all of it, in two parts if it is long; at the end nothing may be left. */
    Desk does(String characters) {
        int part = characters.length() <= 100 ? 0 : characters.lastIndexOf(' ', 99) + 1;
        if (part > 0) {
            gives(characters.substring(0, part), MacroReckoner.IDLE);
        }
        return gives(characters.substring(part), MacroReckoner.IDLE);
    }

    Desk gives(String characters, int due) {
        return type(characters).run(100, due);
    }

    Desk depth(int due) {
        same("depth() after" + story, reckoner.depth(), due);
        return this;
    }

    Desk scale(int due) {
        same("scale() after" + story, reckoner.scale(), due);
        return this;
    }

    Desk running(int due) {
        same("running() after" + story, reckoner.running(), due);
        return this;
    }

    Desk isText(char register, boolean due) {
        same("isText(" + register + ") after" + story, reckoner.isText(register), due);
        return this;
    }

    Desk drop(int due) {
        same("drop() after" + story, reckoner.drop(), due);
        story.append(" drop()");
        return this;
    }

    /** What stands on the paper; it is torn off then. */
    Desk paper(String due) {
        same("printed() after" + story, reckoner.printed(), due.length());
        StringBuilder got = new StringBuilder();
        for (int p = 0; p < reckoner.printed(); p++) {
            got.append(reckoner.charAt(p));
        }
        same("what is printed after" + story, got.toString(), due);
        same("tear() after" + story, reckoner.tear(), due.length());
        return this;
    }

    /** The stack from the top one down, a blank behind each. */
    Desk stack(String due) {
        return does("f").paper(due.replace(' ', '\n'));
    }

    static boolean refusesRun(MacroReckoner reckoner, int commands) {
        try {
            reckoner.run(commands);
            return false;
        } catch (IllegalArgumentException refused) {
            return true;
        }
    }

    static boolean refusesIsText(MacroReckoner reckoner, char register) {
        try {
            reckoner.isText(register);
            return false;
        } catch (IllegalArgumentException refused) {
            return true;
        }
    }
}

/**
 * Two objects with the same story, of which one is given a command with an error too: whatever can
 * be asked of them, they answer alike afterwards, for such a command does nothing but that it is
 * taken and ends all texts.
 */
final class Twins {
    /** What stands behind the command in the input; the spaces at its front go when the run ends. */
    private static final String BEHIND = "  [behind] ";
    private static final int BEHIND_LEFT = 9;
    /** Fills registers, stack and paper, so that a change of any of them would show. */
    private static final String FURNISHED = "1.50sa[t b]sb[out]n[low]8.0 ";

    private Twins() {
    }

    /** Tried in the input and, if there is room for it, in a text that another text runs. */
    static void undone(String ready, String command, int error) {
        undoneIn(ready, command + BEHIND, command, error);
        String inText = "[[" + command + " c]xc]x";
        boolean room = command.length() + 8 <= 60 && inText.length() + BEHIND.length() <= 100;
        if (room && depth(ready) < 20 && balanced(command)) {
            undoneIn(ready, inText + BEHIND, "in a text: " + command, error);
        }
    }

    /** The same, over things on the stack, in registers and on the paper that must stay as well. */
    static void undoneAmong(String ready, String command, int error) {
        undone(FURNISHED + ready, command, error);
    }

    private static void undoneIn(String ready, String typed, String command, int error) {
        MacroReckoner tried = replay(ready, "");
        feed(tried, typed);
        Desk.same(command + " behind " + ready, tried.run(100), error);
        Desk.same("running() after " + command + " behind " + ready, tried.running(), 0);
        Desk.same("drop() after " + command + " behind " + ready, tried.drop(), BEHIND_LEFT);
        Desk.same("the state after " + command + " behind " + ready, state(ready, typed), state(ready, ""));
    }

    private static boolean balanced(String command) {
        return command.replace("]", "").length() == command.replace("[", "").length();
    }

    private static int depth(String ready) {
        return replay(ready, "").depth();
    }

    private static MacroReckoner replay(String ready, String typed) {
        MacroReckoner reckoner = new MacroReckoner();
        does(reckoner, ready);
        feed(reckoner, typed);
        if (!typed.isEmpty()) {
            reckoner.run(100);
        }
        reckoner.drop();
        return reckoner;
    }

    private static void feed(MacroReckoner reckoner, String characters) {
        for (int i = 0; i < characters.length(); i++) {
            Desk.same("type " + characters.charAt(i) + " in " + characters,
                reckoner.type(characters.charAt(i)), true);
        }
    }

    private static void does(MacroReckoner reckoner, String characters) {
        int part = Desk.firstPart(characters);
        feed(reckoner, characters.substring(0, part));
        Desk.same("to make ready " + characters, reckoner.run(100), MacroReckoner.IDLE);
        if (part < characters.length()) {
            does(reckoner, characters.substring(part));
        }
    }

    private static String state(String ready, String typed) {
        MacroReckoner reckoner = replay(ready, typed);
        int depth = reckoner.depth();
        StringBuilder all = new StringBuilder("depth ").append(depth);
        all.append(", scale ").append(reckoner.scale()).append(", paper ").append(paper(reckoner));
        for (int i = 0; i < depth; i++) {
            MacroReckoner other = replay(ready, typed);
            other.tear();
            does(other, Desk.times("sz", i + 1));
            all.append(", stack ").append(held(other, 'z'));
        }
        for (char register = 'a'; register <= 'z'; register++) {
            MacroReckoner other = replay(ready, typed);
            other.tear();
            all.append(", ").append(register).append(' ').append(held(other, register));
        }
        return all.toString();
    }

    /** Kind, scale, size and value of what a register holds. */
    private static String held(MacroReckoner reckoner, char register) {
        String kind = reckoner.isText(register) ? "text " : "number ";
        does(reckoner, "c" + ("l" + register + "Xn[ ]nl" + register + "Zn[ ]nl" + register + "n"));
        return kind + paper(reckoner);
    }

    private static String paper(MacroReckoner reckoner) {
        StringBuilder all = new StringBuilder();
        int length = reckoner.printed();
        for (int p = 0; p < length; p++) {
            all.append(reckoner.charAt(p));
        }
        return all.toString();
    }
}

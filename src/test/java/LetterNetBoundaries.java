import java.lang.reflect.InvocationTargetException;
import java.lang.reflect.Method;
import java.util.ArrayList;
import java.util.Arrays;
import java.util.HashMap;
import java.util.List;
import java.util.Map;
import java.util.regex.Matcher;
import java.util.regex.Pattern;

/**
 * Each sentence of the document that names a boundary case (too small, too large, empty, full, a
 * wrap-around, a refused call), with runs of calls that fail if it does not hold.
 *
 * <p>A run is written as calls with the answers that are due: {@code add(0,1,5)=0}. A call without
 * an answer must only return; {@code 3*undo()} is three calls; {@code 'cut a b'} wipes the text and
 * writes these bytes; LEAST and GREATEST are the bounds of int. Every run begins with a new object
 * and has at most 512 calls.
 */
public final class LetterNetBoundaries {
    private static final int MOST_CALLS = 512;
    /** One fault can make very many answers wrong. */
    private static final int MOST_TOLD = 40;
    private static final int[] EDGES = {Integer.MIN_VALUE, -3, -2, -1, 0, 1, 2, 8, 9, 10, 17, 18,
        19, 31, 32, 40, 41, 80, 126, 127, Integer.MAX_VALUE};
    private static final Pattern ITEM = Pattern.compile(
            "\\s*(?:'([^']*)'|(?:(\\d+)\\*)?(\\w+)\\(([^)]*)\\)(?:=(\\S+))?)\\s*");
    private static final Map<String, Method> METHODS = new HashMap<>();
    private static int wrong = 0;
    private static String sentence = "";

    // ---- runs

    /** A new object, the calls made on it, and what they answered. */
    private static final class Run {
        final LetterNet net = new LetterNet();
        final List<Float> answers = new ArrayList<>();
        int calls = 0;

        Run make(String script) {
            Matcher item = ITEM.matcher(script);
            int at = 0;
            while (at < script.length()) {
                if (!item.find(at) || item.start() != at) {
                    throw new IllegalArgumentException("no call: " + script.substring(at));
                }
                makeItem(item);
                at = item.end();
            }
            return this;
        }

        private void makeItem(Matcher item) {
            if (item.group(1) != null) {
                call("wipe", "", null);
                for (char sign : item.group(1).toCharArray()) {
                    call("write", String.valueOf((int) sign), null);
                }
                return;
            }
            int times = item.group(2) == null ? 1 : Integer.parseInt(item.group(2));
            for (int i = 0; i < times; i++) {
                call(item.group(3), item.group(4), item.group(5));
            }
        }

        private void call(String name, String arguments, String due) {
            float answer = answerOf(name, arguments);
            answers.add(answer);
            calls++;
            if (calls > MOST_CALLS) {
                complain("a run of more than 512 calls");
            }
            if (due != null && answer != number(due)) {
                complain("call " + calls + ", " + name + "(" + arguments + "), answered " + answer
                        + ", due is " + due);
            }
        }

        private float answerOf(String name, String arguments) {
            Object[] values = values(arguments);
            Method method = METHODS.get(name + "/" + values.length);
            if (method == null) {
                throw new IllegalArgumentException("no method: " + name + "(" + arguments + ")");
            }
            return answerOf(method, values);
        }

        float answerOf(Method method, Object... values) {
            try {
                return ((Number) method.invoke(net, values)).floatValue();
            } catch (InvocationTargetException | IllegalAccessException e) {
                complain(method.getName() + Arrays.toString(values) + " threw " + e.getCause());
                return Float.NaN;
            }
        }
    }

    private static Object[] values(String arguments) {
        if (arguments.isBlank()) {
            return new Object[0];
        }
        String[] words = arguments.split(",");
        Object[] values = new Object[words.length];
        for (int i = 0; i < words.length; i++) {
            values[i] = switch (words[i].trim()) {
                case "LEAST" -> Integer.MIN_VALUE;
                case "GREATEST" -> Integer.MAX_VALUE;
                default -> Integer.parseInt(words[i].trim());
            };
        }
        return values;
    }

    /** A number, an error code's name, or a fraction of two floats. */
    private static float number(String word) {
        int stroke = word.indexOf('/');
        if (stroke >= 0) {
            return Float.parseFloat(word.substring(0, stroke))
                    / Float.parseFloat(word.substring(stroke + 1));
        }
        return switch (word) {
            case "BAD" -> -1f;
            case "STATE" -> -2f;
            case "FULL" -> -3f;
            case "NONE" -> -9f;
            default -> Float.parseFloat(word);
        };
    }

    private static void complain(String what) {
        wrong++;
        if (wrong <= MOST_TOLD) {
            System.out.println("\"" + sentence + "\": " + what);
        }
    }

    /** The document's own words, which the next runs test. */
    private static void says(String words) {
        sentence = words;
    }

    /** A case that follows from the document's words, told in other ones. */
    private static void also(String words) {
        sentence = words;
    }

    private static void run(String... scripts) {
        new Run().make(String.join(" ", scripts));
    }

    // ---- comparisons

    /** All that calls can tell about the network, but for the number of changes to be undone. */
    private static String networkView(int links) {
        StringBuilder view = new StringBuilder("told(0) told(1) told(2) told(3) told(4) told(5) ");
        for (int link = 0; link <= links; link++) {
            for (int what = 0; what < 5; what++) {
                view.append("link(").append(link).append(',').append(what).append(") ");
            }
        }
        return view.toString();
    }

    private static String letterView() {
        StringBuilder view = new StringBuilder();
        for (int what = 0; what < 6; what++) {
            view.append("letter(").append(what).append(") ");
        }
        for (int k = 0; k < 43; k++) {
            view.append("passed(").append(k).append(") ");
        }
        for (int k = 0; k < 19; k++) {
            view.append("carried(").append(k).append(",0) carried(").append(k).append(",1) ");
        }
        return view.toString();
    }

    /** Together, these views tell the network, the history, the images, the text, the letter. */
    private static List<String> allViews() {
        String network = networkView(18);
        List<String> views = new ArrayList<>();
        views.add("told(6) told(7) told(8) " + network);
        views.add(letterView());
        views.add("mendByLetter() told(7) " + network);
        views.add("fault() execute() told(7) " + network);
        views.add("back(0) " + network);
        views.add("back(1) " + network);
        for (int depth = 1; depth <= 9; depth++) {
            views.add(depth + "*undo() " + network);
        }
        return views;
    }

    private static void same(String one, String other, String view) {
        if (!seen(one, view).equals(seen(other, view))) {
            complain("different to the view '" + view.trim() + "' after\n    " + one + "\n    "
                    + other);
        }
    }

    private static List<Float> seen(String script, String view) {
        Run run = new Run().make(script);
        int before = run.answers.size();
        run.make(view);
        return run.answers.subList(before, run.answers.size());
    }

    /** The call leaves everything as it is. */
    private static void changesNothing(String setup, String... calls) {
        for (String call : calls) {
            for (String view : allViews()) {
                same(setup, setup + " " + call, view);
            }
        }
    }

    /** A change is recorded once, undo() restores what was, and at 8 states the oldest one goes. */
    private static void isOneChange(String setup, String change) {
        int before = (int) (float) seen(setup, "told(7)").get(0);
        run(setup, change, "told(7)=" + Math.min(8, before + 1));
        if (before < 8) {
            run(setup, change, "undo()=" + before);
            same(setup, setup + " " + change + " undo()", networkView(18));
            for (int depth = 1; depth <= before; depth++) {
                same(setup, setup + " " + change + " undo()", depth + "*undo() "
                        + networkView(18));
            }
            return;
        }
        for (int depth = 0; depth < 8; depth++) {
            run(setup, change, (depth + 1) + "*undo()", "told(7)=" + (7 - depth));
            same(setup + " " + undone(depth), setup + " " + change + " " + undone(depth + 1),
                    networkView(18));
        }
        run(setup, change, "8*undo() undo()=STATE");
    }

    private static String undone(int times) {
        return times == 0 ? "" : times + "*undo()";
    }

    // ---- networks that several parts use

    /** Links between 0 and all others, 1 and all others, 2 and three more. */
    private static final String EIGHTEEN = "begin(9)=4 "
            + "add(0,1,1)=0 add(0,2,1)=1 add(0,3,1)=2 add(0,4,1)=3 add(0,5,1)=4 add(0,6,1)=5 "
            + "add(0,7,1)=6 add(0,8,1)=7 add(1,2,1)=8 add(1,3,1)=9 add(1,4,1)=10 add(1,5,1)=11 "
            + "add(1,6,1)=12 add(1,7,1)=13 add(1,8,1)=14 add(2,3,1)=15 add(2,4,1)=16 add(2,5,1)=17";

    /** A letter from 0 to 3 goes 0, 1, 2, meets the dead link 2-3, and goes back to 1 and 3. */
    private static final String SQUARE = "begin(4)=4 add(0,1,1)=0 add(1,2,1)=1 add(2,3,1)=2 "
            + "add(0,3,9)=3 add(1,3,5)=4 turn(2,0)=1";

    private static final String CHAIN = "begin(9)=4 add(7,8,9)=0 add(6,7,9)=1 add(5,6,9)=2 "
            + "add(4,5,9)=3 add(3,4,9)=4 add(2,3,9)=5 add(1,2,9)=6 add(0,1,9)=7";

    /** Something of everything: a full history, an image, a letter with a list, a text. */
    private static final String RICH = "begin(5)=4 add(0,1,1)=0 add(1,2,1)=1 add(2,3,1)=2 "
            + "add(0,3,9)=3 add(1,3,5)=4 turn(2,0)=1 keep(0)=5 know(3,0)=1 setRoom(7)=18 "
            + "turn(1,0)=1 add(0,2,4)=5 send(0,3,0)=2 setRoom(6)=7 'cut a b'";

    /** The same, but a history with room left. */
    private static final String POOR = "begin(5)=4 add(0,1,1)=0 add(1,3,2)=1 turn(1,0)=1 "
            + "keep(1)=2 send(0,3,0)=-11 'fix b d'";

    // ---- networks in which letters with lists wind very much: ends, length, 1 if alive

    /** A letter from 0 to 8 arrives along its 40th link. */
    private static final int[][] FORTY = {
        {7, 4, 6, 0}, {1, 4, 3, 0}, {8, 6, 2, 0}, {5, 8, 1, 0}, {1, 0, 1, 1}, {0, 2, 1, 1},
        {3, 8, 9, 1}, {8, 0, 4, 0}, {2, 7, 1, 1}, {5, 1, 1, 1}, {3, 2, 7, 0}, {3, 5, 3, 0},
        {7, 8, 1, 0}, {4, 6, 9, 1}, {3, 4, 9, 1}, {5, 4, 9, 0}, {7, 6, 5, 1}, {6, 5, 5, 0}};

    /** A letter from 0 to 8 would arrive along a 41st link. */
    private static final int[][] FORTY_ONE = {
        {4, 1, 1, 1}, {4, 0, 1, 1}, {3, 6, 6, 0}, {6, 1, 1, 1}, {4, 3, 3, 0}, {3, 2, 6, 0},
        {2, 5, 4, 0}, {2, 7, 2, 1}, {2, 0, 1, 1}, {8, 7, 1, 0}, {8, 4, 9, 0}, {7, 3, 9, 1},
        {7, 5, 7, 0}, {3, 5, 9, 1}, {5, 8, 8, 1}, {6, 8, 1, 0}, {8, 2, 6, 0}, {5, 6, 4, 0}};

    /** A letter from 0 to 8 would arrive along a 42nd link. */
    private static final int[][] FORTY_TWO = {
        {8, 4, 3, 0}, {2, 1, 3, 0}, {2, 6, 7, 0}, {6, 0, 3, 0}, {7, 5, 1, 1}, {2, 8, 1, 0},
        {5, 8, 1, 0}, {1, 4, 6, 0}, {5, 6, 7, 0}, {2, 4, 3, 1}, {2, 3, 1, 1}, {6, 1, 9, 1},
        {6, 4, 9, 1}, {1, 8, 9, 1}, {3, 0, 1, 1}, {8, 0, 9, 0}, {1, 5, 3, 0}, {0, 7, 1, 1}};

    /** A letter from 0 to 8 meets one more dead link after 40 links, and then has no way. */
    private static final int[][] FORTY_AND_DEAD = {
        {5, 4, 9, 0}, {8, 7, 1, 0}, {5, 6, 9, 1}, {7, 6, 7, 0}, {3, 2, 1, 1}, {8, 1, 2, 0},
        {0, 2, 1, 1}, {5, 1, 7, 1}, {0, 4, 1, 1}, {1, 7, 8, 1}, {7, 3, 1, 1}, {5, 7, 4, 0},
        {6, 8, 9, 0}, {8, 4, 4, 0}, {2, 1, 5, 0}, {2, 6, 4, 0}, {1, 4, 8, 0}, {6, 4, 8, 0}};

    private static String winding(int[]... rows) {
        StringBuilder calls = new StringBuilder("begin(9)=4 ");
        for (int i = 0; i < rows.length; i++) {
            calls.append(String.format("add(%d,%d,%d)=%d turn(%d,%d)=1 ", rows[i][0], rows[i][1],
                    rows[i][2], i, i, rows[i][3]));
        }
        return calls.toString();
    }

    // ---- the part "What it is" and the conventions

    private static void whatItIs() {
        says("An object is used for at most 512 calls after it has been made");
        StringBuilder most = new StringBuilder(EIGHTEEN + " setRoom(5)=18 setRoom(4)=5 ");
        for (int i = 0; i < 245; i++) {
            most.append("setRoom(").append(i % 4).append(")=").append(i == 0 ? 4 : (i + 3) % 4);
            most.append(" send(0,8,0)=1 ");
        }
        run(most.toString(), "told(7)=8");
        if (new Run().make(most + "told(7)").calls != MOST_CALLS) {
            complain("the run of most calls has not 512");
        }
    }

    /** LANGUAGE.md, rule 7: for any arguments in any state, past the 512th call too. */
    private static void noCallThrows() {
        also("no call throws");
        for (String setup : new String[] {"", EIGHTEEN, RICH, POOR, winding(FORTY_TWO)}) {
            for (Method method : METHODS.values()) {
                Run run = new Run().make(setup);
                int count = method.getParameterCount();
                for (int i = 0; i < Math.pow(EDGES.length, count); i++) {
                    Object[] values = new Object[count];
                    for (int k = 0, rest = i; k < count; k++, rest /= EDGES.length) {
                        values[k] = EDGES[rest % EDGES.length];
                    }
                    run.answerOf(method, values);
                }
            }
        }
    }

    private static void conventions() {
        says("The error codes are BAD (-1)");
        if (LetterNet.BAD != -1 || LetterNet.STATE != -2 || LetterNet.FULL != -3
                || LetterNet.NONE != -9) {
            complain("a constant is another number");
        }
        says("If several of them apply to one call, the first one in this list is returned.");
        run(EIGHTEEN, "add(0,1,0)=BAD add(0,1,10)=BAD add(1,0,1)=STATE add(7,8,1)=FULL "
                + "add(7,8,0)=BAD add(7,9,1)=BAD add(8,8,1)=BAD add(-1,8,1)=BAD");
        run("letter(-1)=BAD letter(6)=BAD passed(-1)=BAD carried(-1,0)=BAD carried(0,-1)=BAD "
                + "carried(0,2)=BAD back(-1)=BAD back(2)=BAD");
        run("80*write(32) write(31)=BAD write(127)=BAD write(126)=FULL");
        says("NONE (-9) means that there is no such value; it is returned only if no error code");
        run("passed(0)=STATE passed(GREATEST)=STATE carried(0,0)=STATE carried(GREATEST,1)=STATE");
        run("send(0,1,0)=-11 passed(1)=NONE passed(-1)=BAD carried(0,0)=NONE carried(0,2)=BAD "
                + "carried(18,-1)=BAD carried(-1,0)=BAD");
        run("between(0,1)=NONE between(0,4)=BAD between(0,0)=BAD way(0,1,0)=NONE "
                + "way(0,1,-3)=BAD way(0,4,0)=BAD way(4,0,99)=BAD");
    }

    private static void refusedCalls() {
        says("A call that returns one of them changes nothing.");
        for (String setup : new String[] {RICH, POOR}) {
            changesNothing(setup, "begin(1)=BAD", "begin(10)=BAD", "add(0,0,1)=BAD",
                    "add(0,5,1)=BAD", "add(-1,0,1)=BAD", "add(2,3,0)=BAD", "add(2,3,10)=BAD",
                    "add(1,0,1)=STATE", "remove(-1)=BAD", "remove(6)=BAD", "turn(6,0)=BAD",
                    "turn(0,2)=BAD", "turn(-1,1)=BAD", "turn(0,-1)=BAD", "know(6,0)=BAD",
                    "know(0,2)=BAD", "know(-1,1)=BAD", "know(0,-1)=BAD", "setRoom(-1)=BAD",
                    "setRoom(19)=BAD");
            changesNothing(setup, "told(9)=BAD", "link(6,0)=BAD", "link(0,6)=BAD",
                    "between(1,1)=BAD", "way(0,3,-3)=BAD", "send(0,5,0)=BAD", "send(-1,0,0)=BAD",
                    "send(0,3,2)=BAD", "send(0,3,-1)=BAD", "letter(6)=BAD", "passed(-1)=BAD",
                    "carried(0,2)=BAD", "all(8,0)=BAD", "all(0,2)=BAD", "stretch(2)=BAD",
                    "write(31)=BAD", "write(127)=BAD", "keep(-1)=BAD", "keep(2)=BAD",
                    "back(-1)=BAD", "back(2)=BAD");
        }
        changesNothing(RICH, "back(1)=STATE");
        changesNothing(POOR, "back(0)=STATE");
        changesNothing("", "undo()=STATE", "mendByLetter()=STATE", "letter(0)=STATE",
                "passed(0)=STATE", "carried(0,0)=STATE", "back(0)=STATE", "back(1)=STATE");
        changesNothing(EIGHTEEN + " send(0,8,0)", "add(7,8,1)=FULL");
        changesNothing(RICH + " 80*write(32)", "write(32)=FULL");
        changesNothing(RICH + " 'cut a b cut'", "execute()=STATE");
        changesNothing(RICH + " 'cut a b size 2 cut a c'", "execute()=-102");
        changesNothing(RICH + " undo()", "mendByLetter()=STATE");
    }

    private static void questions() {
        also("a call that only tells something leaves everything as it is");
        changesNothing(RICH, "told(8)=2", "link(0,5)=0", "between(0,1)=0", "way(0,3,-1)=6",
                "way(0,3,9)=NONE", "letter(0)=2", "passed(0)=0", "passed(9)=NONE",
                "carried(0,0)=1", "carried(9,0)=NONE", "fault()=NONE", "enoughRoom()=2",
                "all(0,0)=12", "all(5,0)=2", "all(6,1)=40", "stretch(0)", "stretch(1)");
    }

    // ---- the terms

    private static void networks() {
        says("There are N nodes, 0 to N - 1, with N from 2 to 9 (4 at first)");
        run("told(0)=4 begin(2)=4 begin(9)=2 begin(1)=BAD begin(10)=BAD told(0)=9");
        run("between(0,3)=NONE between(0,4)=BAD begin(2)=4 between(0,1)=NONE between(0,2)=BAD");
        run("begin(9)=4 add(0,8,1)=0 add(8,9,1)=BAD add(-1,8,1)=BAD");
        says("at most 18 links, numbered from 0 in the order in which they were added");
        run(EIGHTEEN, "told(1)=18 link(17,0)=2 link(17,1)=5 link(18,0)=BAD add(7,8,1)=FULL "
                + "told(1)=18 between(0,1)=0 between(2,5)=17");
        says("if one is removed, the numbers of later ones decrease by 1");
        run(EIGHTEEN, "remove(0)=17 between(0,2)=0 between(2,5)=16 link(17,0)=BAD "
                + "between(0,1)=NONE add(0,1,7)=17 link(17,2)=7");
        run(EIGHTEEN, "remove(17)=17 between(2,4)=16 between(2,5)=NONE between(0,1)=0");
        run(EIGHTEEN, "turn(9,0)=1 know(9,0)=1 turn(7,0)=1 know(10,0)=1 remove(8)=17 link(7,3)=0 "
                + "link(7,4)=1 link(8,3)=0 link(8,4)=0 link(9,3)=1 link(9,4)=0 link(16,3)=1 "
                + "told(2)=15 told(3)=15");
        run("add(0,1,1) add(0,2,2) add(0,3,3) add(1,2,4) turn(0,0) know(0,0) remove(2)=3 "
                + "link(0,3)=0 link(0,4)=0 link(0,2)=1 link(1,2)=2 link(1,3)=1 link(2,2)=4 "
                + "remove(0)=2 link(0,2)=2 link(0,3)=1 link(1,2)=4 link(1,4)=1");
        says("A link has two ends, which are different nodes, and a length from 1 to 9");
        run("add(1,1,1)=BAD add(3,3,1)=BAD add(0,1,0)=BAD add(0,1,10)=BAD add(0,1,1)=0 "
                + "add(3,2,9)=1 link(0,2)=1 link(1,2)=9 link(1,0)=2 link(1,1)=3");
        says("between two nodes there is at most one link");
        run("add(0,1,1)=0 add(0,1,1)=STATE add(1,0,2)=STATE told(1)=1 turn(0,0)=1 know(0,0)=1 "
                + "add(0,1,1)=STATE remove(0)=0 add(1,0,2)=0");
        says("A link that is added is alive and stands in the map.");
        run("add(0,1,1)=0 turn(0,0)=1 know(0,0)=1 remove(0)=0 add(2,3,1)=0 link(0,3)=1 "
                + "link(0,4)=1 told(2)=1 told(3)=1");
        run(EIGHTEEN, "turn(17,0)=1 know(17,0)=1 remove(17)=17 add(7,8,1)=17 link(17,3)=1 "
                + "link(17,4)=1 begin(9)=9 told(2)=0 told(3)=0 add(0,1,1)=0 told(2)=1 told(3)=1");
    }

    private static void ways() {
        says("a list of nodes that begins with s and ends with t");
        run("way(2,2,0)=2 way(2,2,1)=NONE way(2,2,-1)=0 way(2,2,-2)=0");
        run(CHAIN, "way(0,8,-1)=72 way(0,8,-2)=8 way(0,8,0)=0 way(0,8,8)=8 way(0,8,9)=NONE "
                + "way(8,0,0)=8 way(8,0,8)=0 way(8,0,1)=7 way(0,8,7)=7");
        says("the best one is the one with the least length");
        run("add(0,3,9)=0 add(0,1,3)=1 add(1,2,3)=2 add(2,3,2)=3 way(0,3,-1)=8 way(0,3,-2)=3");
        says("of several, the one with the fewest nodes");
        run("add(0,3,9)=0 add(0,1,3)=1 add(1,2,3)=2 add(2,3,3)=3 way(0,3,-1)=9 way(0,3,-2)=1");
        run("begin(9)=4 add(0,1,1)=0 add(1,2,1)=1 add(2,3,1)=2 add(3,4,1)=3 add(4,5,1)=4 "
                + "add(5,6,1)=5 add(6,7,1)=6 add(7,8,1)=7 add(0,8,8)=8 way(0,8,-1)=8 "
                + "way(0,8,-2)=1 add(0,7,7)=9 way(0,7,-2)=1 way(1,8,-2)=7 way(1,8,1)=2");
        says("of several, the lexicographically smallest list");
        run("add(0,2,1)=0 add(2,3,1)=1 add(0,1,1)=2 add(1,3,1)=3 way(0,3,1)=1 way(3,0,1)=1");
        run("begin(6)=4 add(0,1,1)=0 add(0,2,1)=1 add(1,4,1)=2 add(2,3,1)=3 add(3,5,1)=4 "
                + "add(4,5,1)=5 way(0,5,1)=1 way(0,5,2)=4 way(5,0,1)=3 way(5,0,2)=2");
        run("begin(5)=4 add(0,2,3)=0 add(2,4,1)=1 add(0,1,1)=2 add(1,4,3)=3 way(0,4,1)=1 "
                + "way(4,0,1)=1 turn(2,0)=1 way(0,4,1)=2");
        says("The true way from s to t is the best way along links that are alive.");
        run("add(0,1,1)=0 know(0,0)=1 way(0,1,-1)=1 turn(0,0)=1 way(0,1,-1)=NONE know(0,1)=0 "
                + "way(0,1,-1)=NONE way(0,0,-1)=0");
    }

    private static void letters() {
        says("a room, the greatest number of links that a list can contain, from 0 to 18");
        run("told(5)=18 setRoom(0)=18 setRoom(18)=0 setRoom(-1)=BAD setRoom(19)=BAD told(5)=18");
        says("its list is empty at first");
        run(SQUARE, "send(0,3,0)=4 letter(2)=1 send(0,1,0)=1 letter(2)=0 carried(0,0)=NONE "
                + "send(0,3,0)=4 letter(2)=1 send(0,3,1)=-13 letter(2)=0 send(0,3,0)=4");
        says("As long as it is not at t");
        run("setRoom(0)=18 send(3,3,0)=0 letter(5)=0 letter(3)=0 letter(4)=3 passed(0)=3 "
                + "passed(1)=NONE send(0,0,1)=0 letter(5)=0");
        says("If there is none, the letter is lost, cause 1.");
        run("send(0,3,0)=-11 letter(0)=0 letter(4)=0 letter(5)=1 letter(1)=0");
        run("add(0,1,4)=0 add(1,3,1)=1 turn(1,0)=1 send(0,3,0)=-11 letter(0)=1 letter(1)=4 "
                + "letter(2)=1 letter(4)=1 letter(5)=3");
        run("add(0,1,4)=0 know(0,0)=1 send(0,1,0)=-11 letter(2)=0");
        says("if the list contains as many links as the room says, the letter is lost, cause 2");
        run(SQUARE, "setRoom(0)=18 send(0,3,0)=-12 letter(0)=2 letter(1)=2 letter(2)=0 "
                + "letter(4)=2 letter(5)=3 setRoom(1)=0 send(0,3,0)=4 letter(2)=1");
        run("add(0,1,1)=0 add(1,3,1)=1 add(1,2,1)=2 add(2,3,1)=3 turn(1,0)=1 turn(3,0)=1 "
                + "setRoom(1)=18 send(0,3,0)=-12 letter(2)=1 letter(4)=2 letter(5)=4 "
                + "setRoom(2)=1 send(0,3,0)=-11 letter(2)=2 letter(5)=5 carried(1,0)=2");
        says("otherwise the link comes to the end of the list, and the letter stays at u");
        run("add(0,1,1)=0 turn(0,0)=1 send(0,1,0)=-11 letter(0)=0 letter(2)=1 passed(1)=NONE "
                + "carried(0,0)=0 carried(0,1)=1 letter(5)=2");
        eighteenDeadLinks();
    }

    /** No letter of the document's networks meets more dead links at one node than eight. */
    private static void eighteenDeadLinks() {
        StringBuilder dead = new StringBuilder();
        for (int link = 0; link < 18; link++) {
            dead.append("turn(").append(link).append(",0)=1 ");
        }
        run(EIGHTEEN, dead.toString(), "send(0,8,0)=-11 letter(2)=8 letter(5)=9 carried(7,0)=0 "
                + "carried(7,1)=7 carried(8,0)=NONE mendByLetter()=8 told(3)=10 "
                + "send(1,8,0)=-11 letter(2)=1");
        run(EIGHTEEN, dead.toString(), "setRoom(8)=18 send(0,8,0)=-11 setRoom(7)=8 "
                + "send(0,8,0)=-12 letter(2)=7 letter(5)=8 carried(7,0)=NONE");
    }

    private static void lettersOfFortyLinks() {
        says("unless it has gone along 40 links already, the same ones counted again: then it is "
                + "lost there, cause 3");
        run(winding(FORTY), "send(0,8,0)=40 letter(0)=40 letter(1)=76 letter(2)=10 letter(3)=0 "
                + "letter(4)=8 letter(5)=50 passed(39)=3 passed(40)=8 passed(41)=NONE "
                + "all(6,0)=40 setRoom(10) send(0,8,0)=40 setRoom(9) send(0,8,0)=-12 letter(0)=32 "
                + "letter(4)=5 letter(5)=42");
        run(winding(FORTY_ONE), "send(0,8,0)=-13 letter(0)=40 letter(1)=61 letter(2)=10 "
                + "letter(3)=3 letter(4)=5 letter(5)=51 passed(39)=3 passed(40)=5 passed(41)=NONE "
                + "carried(9,0)=3 carried(9,1)=6 carried(10,0)=NONE all(6,0)=40 mendByLetter()=10");
        run(winding(FORTY_TWO), "send(0,8,0)=-13 letter(0)=40 letter(1)=58 letter(2)=10 "
                + "letter(3)=3 letter(4)=6 letter(5)=51 passed(40)=6 passed(41)=NONE "
                + "setRoom(10) send(0,8,0)=-13 setRoom(9) send(0,8,0)=-12 letter(0)=34");
        also("after 40 links, a letter can still meet a dead link, and be lost by causes 1 and 2");
        run(winding(FORTY_AND_DEAD), "send(0,8,0)=-11 letter(0)=40 letter(1)=75 letter(2)=11 "
                + "letter(3)=1 letter(4)=6 letter(5)=52 carried(10,0)=6 carried(10,1)=8 "
                + "setRoom(11) send(0,8,0)=-11 setRoom(10) send(0,8,0)=-12 letter(0)=40 "
                + "letter(2)=10 letter(3)=2 letter(4)=6 letter(5)=51");
    }

    private static void blindLetters() {
        says("unless it has gone along 40 links already: then it is lost, cause 3");
        run(SQUARE, "send(0,3,1)=-13 letter(0)=40 letter(1)=40 letter(3)=3 letter(4)=2 "
                + "letter(5)=41 passed(40)=2 passed(41)=NONE passed(39)=1 letter(2)=0");
        run(SQUARE, "send(1,3,1)=-13 letter(0)=40 letter(4)=1 passed(40)=1 passed(41)=NONE");
        run(EIGHTEEN, "turn(7,0) send(0,8,1)=2 passed(1)=1 send(7,8,1)=3 passed(1)=0 "
                + "passed(2)=1 letter(1)=3");
        says("A blind letter carries no list.");
        run(SQUARE, "setRoom(0)=18 send(2,1,1)=1 letter(2)=0 carried(0,0)=NONE mendByLetter()=0");
        says("without those links with the end u that are dead");
        run("add(0,1,1)=0 add(1,3,1)=1 add(1,2,1)=2 add(2,3,2)=3 turn(1,0)=1 send(0,3,1)=3 "
                + "passed(2)=2 letter(1)=4");
        run("add(0,1,1)=0 turn(0,0)=1 send(0,1,1)=-11 letter(5)=1 letter(2)=0");
        says("Its cost is the sum of the lengths of the links along which it went.");
        run("add(0,1,9) add(1,2,9) add(2,3,1) add(0,3,9) turn(2,0) send(1,3,1)=-13 letter(1)=360 "
                + "send(0,0,0)=0 letter(1)=0 send(0,1,1)=1 letter(1)=9");
        says("A letter has arrived if it is at t.");
        run(CHAIN, "send(0,8,0)=8 letter(1)=72 letter(4)=8 letter(3)=0 letter(5)=8 send(8,0,1)=8 "
                + "letter(1)=72 passed(8)=0 passed(9)=NONE");
    }

    private static void text() {
        says("The text has at most 80 bytes with codes from 32 to 126 and is empty at first.");
        run("told(6)=0 wipe()=0 fault()=NONE execute()=0 write(31)=BAD write(32)=1 write(126)=2 "
                + "write(127)=BAD 77*write(48) write(48)=80 write(48)=FULL told(6)=80");
        says("words are separated by one blank or more, and blanks may also stand");
        faults("NONE", "", " ", "   ", "cut a b", " cut a b", "cut a b ", "   cut   a   b   ",
                "cut a b fix a b", "cut a b    fix a b");
        faults("0", "cuta b", "cutab", "c ut a b");
        faults("4", "cut ab", "cut ab c");
        faults("6", "cut a bfix a b", "cut a bb", "cut a b,");
        says("A name is one letter from a to i, for the nodes 0 to 8; a digit is one of 1 to 9.");
        faults("NONE", "cut a i", "link a i 1", "link i a 9");
        faults("4", "cut `", "cut j a", "cut A b", "cut aa b", "cut 1 b", "cut cut a b");
        faults("6", "cut a j", "cut a `", "cut a I", "cut a bb", "cut a 1", "cut a cut");
        faults("9", "link a b 0", "link a b :", "link a b 10", "link a b 01", "link a b a",
                "link a b -1", "link a b link");
        says("size, a digit from 2");
        faults("NONE", "size 2", "size 9", "size 2 size 9");
        faults("5", "size 1", "size 0", "size :", "size 10", "size 22", "size a", "size size 2");
        run("'size 2' execute()=1 told(0)=2 'size 9' execute()=1 told(0)=9 'size 1' "
                + "execute()=STATE told(0)=9");
        textFaults();
    }

    private static void textFaults() {
        says("its fault is the position, from 0, of the first byte of the first word that cannot");
        faults("0", "x", "x cut", "1", "a", "~", "link! a b 1", "Cut a b");
        faults("3", "   x", "   cute a b");
        faults("8", "cut a b x", "cut a b c", "cut a b 1", "cut a b cute");
        faults("11", "link a b 1 2", "link a b 1 c", "cut a b    ~", "link a b 1 x x");
        says("also if it is no word of a command at all, or only the beginning of one");
        faults("0", "l", "lin", "li", "c", "cu", "f", "fi", "lear", "lea", "le", "siz", "s", "cu ",
                "linka", "cuts", "fixx", "learnt", "sizes");
        faults("7", "size 3 siz", "size 3 l", "size 3 c ");
        says("or the length of the text, with blanks at its end, if it ends within a command");
        faults("3", "cut", "fix");
        faults("4", "link", "size", "cut ", " fix");
        faults("5", "learn", "size ", "cut a", "  cut");
        faults("8", "link a b", "cut a   ", "cut     ", "size    ", "learn a ");
        faults("9", "link a b ", "   link a");
        faults("80", "cut a" + " ".repeat(75), " ".repeat(77) + "cut", "link a b" + " ".repeat(72),
                " ".repeat(76) + "size", " ".repeat(72) + "link a b");
        also("the length of the text at its greatest, with a whole command at its end");
        faults("NONE", " ".repeat(74) + "size 2", "size 2" + " ".repeat(74), " ".repeat(80));
        faults("79", " ".repeat(79) + "x", " ".repeat(74) + "cut  1");
        faults("0", "x".repeat(80));
        says("Whether a command can be carried out is not looked at by this.");
        faults("NONE", "cut a a", "link a a 1", "cut h i", "link h i 9", "size 2 link a c 1",
                "link a b 1 link a b 1", "fix c c", "learn i i");
    }

    private static void faults(String due, String... texts) {
        for (String text : texts) {
            run("'" + text + "' fault()=" + due);
        }
    }

    private static void changes() {
        says("Some methods are called changes below (also if they change nothing).");
        isOneChange("", "begin(4)=4");
        isOneChange("", "mend()=0");
        isOneChange("send(0,1,0)", "mendByLetter()=0");
        isOneChange("", "setRoom(18)=18");
        isOneChange("", "execute()=0");
        isOneChange("'    '", "execute()=0");
        isOneChange("keep(0)=0", "back(0)=0");
        isOneChange("add(0,1,1)", "turn(0,1)=1");
        isOneChange("add(0,1,1) turn(0,0)", "turn(0,0)=0");
        isOneChange("add(0,1,1)", "know(0,1)=1");
        isOneChange("add(0,1,1) know(0,0)", "know(0,0)=0");
        isOneChange("add(0,1,1) 'fix a b'", "execute()=1");
        says("a change that returns no error code records the network, with the map and the room");
        for (String setup : new String[] {POOR, RICH}) {
            for (String change : new String[] {"begin(2)=5", "begin(9)=5", "add(4,2,9)",
                "remove(0)", "remove(1)", "turn(0,0)=1", "turn(1,1)=0", "know(1,0)=1", "mend()",
                "mendByLetter()", "setRoom(0)", "setRoom(18)", "keep(1) back(1)"}) {
                isOneChange(setup, change);
            }
            isOneChange(setup + " 'cut a b learn b d'", "execute()=2");
            isOneChange(setup + " 'size 9 link a i 9'", "execute()=2");
        }
        isOneChange(RICH, "back(0)=5");
        historyOfEight();
        whatIsNoState();
    }

    private static void historyOfEight() {
        says("A history of at most 8 states is kept");
        run("setRoom(1)=18 setRoom(2)=1 setRoom(3)=2 setRoom(4)=3 setRoom(5)=4 setRoom(6)=5 "
                + "setRoom(7)=6 told(7)=7 setRoom(8)=7 told(7)=8 setRoom(9)=8 told(7)=8");
        says("if there are more than 8, the oldest one is dropped");
        run("setRoom(1)=18 setRoom(2)=1 setRoom(3)=2 setRoom(4)=3 setRoom(5)=4 setRoom(6)=5 "
                + "setRoom(7)=6 setRoom(8)=7 7*undo() told(5)=1 undo()=0 told(5)=18 undo()=STATE");
        run("setRoom(1)=18 setRoom(2)=1 setRoom(3)=2 setRoom(4)=3 setRoom(5)=4 setRoom(6)=5 "
                + "setRoom(7)=6 setRoom(8)=7 setRoom(9)=8 undo()=7 told(5)=8 6*undo() told(5)=2 "
                + "undo()=0 told(5)=1 undo()=STATE told(5)=1");
        also("a history that was full several times over");
        StringBuilder many = new StringBuilder();
        for (int i = 0; i < 100; i++) {
            many.append("setRoom(").append(i % 19).append(") ");
        }
        StringBuilder back = new StringBuilder();
        for (int i = 98; i >= 91; i--) {
            back.append("undo()=").append(i - 91).append(" told(5)=").append(i % 19).append(' ');
        }
        run(many.toString(), back.toString(), "undo()=STATE setRoom(0) told(7)=1 undo()=0");
        says("undo() removes the latest state and restores it");
        run("setRoom(1) setRoom(2) undo()=1 told(5)=1 setRoom(3)=1 told(7)=2 undo()=1 told(5)=1 "
                + "undo()=0 told(5)=18");
        run("8*setRoom(1) setRoom(2) 3*undo() told(7)=5 3*setRoom(3) told(7)=8 setRoom(4)=3 "
                + "told(7)=8 undo()=7 told(5)=3");
    }

    private static void whatIsNoState() {
        says("The text, the latest letter and the images do not belong to a state");
        run(SQUARE, "told(7)=7 send(0,3,0)=4 keep(1)=5 'cut' turn(0,0) undo()=7 told(6)=3 "
                + "letter(0)=4 back(1)=5 undo()=7 undo()=6 told(6)=3 fault()=3 letter(1)=8 "
                + "begin(2)=4 back(1)=5 told(2)=4");
        says("the latest letter stays whatever is changed");
        for (String change : new String[] {"begin(2)", "add(0,2,1)", "remove(2)", "turn(2,1)",
            "know(2,0)", "mend()", "mendByLetter()", "setRoom(0)", "undo()", "execute()",
            "keep(0) back(0)", "keep(0) begin(2) back(0)", "wipe()", "write(32)", "all(5,0)",
            "all(5,1)", "stretch(0)", "stretch(1)", "enoughRoom()", "way(0,3,0)", "send(9,0,0)",
            "send(0,9,0)", "send(0,0,2)"}) {
            same(SQUARE + " send(0,3,0)=4", SQUARE + " send(0,3,0)=4 " + change, letterView());
        }
    }

    // ---- the promises

    private static void newObject() {
        says("Creates a network of 4 nodes without links, with an empty text");
        run("told(0)=4 told(1)=0 told(2)=0 told(3)=0 told(4)=0 told(5)=18 told(6)=0 told(8)=4 "
                + "link(0,0)=BAD remove(0)=BAD turn(0,0)=BAD know(0,1)=BAD wipe()=0 fault()=NONE");
        says("there was no letter");
        run("letter(0)=STATE letter(5)=STATE passed(0)=STATE carried(0,0)=STATE carried(0,1)=STATE "
                + "mendByLetter()=STATE");
        says("the images keep nothing");
        run("back(0)=STATE back(1)=STATE");
        says("nothing can be undone");
        run("told(7)=0 undo()=STATE");
        also("letters and their sums in a network without links");
        run("all(0,0)=0 all(1,0)=0 all(2,0)=0 all(3,0)=0 all(4,0)=0 all(5,0)=0 all(6,0)=0 "
                + "all(7,0)=0 all(1,1)=0 all(6,1)=0 stretch(0)=0 stretch(1)=0 enoughRoom()=0");
    }

    private static void beginToTurn() {
        says("Begins a new network without links; the room stays.");
        run(EIGHTEEN, "setRoom(3)=18 begin(9)=9 told(1)=0 told(2)=0 told(3)=0 told(4)=0 told(5)=3 "
                + "told(8)=9 link(0,0)=BAD between(0,1)=NONE");
        says("Returns the previous N; BAD if n is out of range.");
        run("begin(LEAST)=BAD begin(-2)=BAD begin(0)=BAD begin(1)=BAD begin(2)=4 begin(9)=2 "
                + "begin(10)=BAD begin(GREATEST)=BAD begin(3)=9 told(7)=3");
        says("BAD if there is no such node, both are the same, or length is out of range");
        run("add(-1,0,1)=BAD add(0,-1,1)=BAD add(4,0,1)=BAD add(0,4,1)=BAD add(LEAST,0,1)=BAD "
                + "add(0,GREATEST,1)=BAD add(0,0,1)=BAD add(3,3,9)=BAD add(4,4,1)=BAD "
                + "add(0,1,0)=BAD add(0,1,-1)=BAD add(0,1,10)=BAD add(0,1,LEAST)=BAD "
                + "add(0,1,GREATEST)=BAD told(1)=0 told(7)=0 add(0,3,9)=0 add(3,1,1)=1");
        says("STATE if there is a link between both");
        run("add(0,3,9)=0 add(0,3,9)=STATE add(3,0,1)=STATE told(1)=1 told(7)=1");
        says("FULL if there are 18 links");
        run(EIGHTEEN, "add(7,8,1)=FULL add(3,4,9)=FULL remove(5)=17 add(7,8,1)=17 "
                + "add(3,4,9)=FULL undo() add(3,4,9)=17");
        says("Returns the number of links then; BAD if there is no such link.");
        run("remove(0)=BAD add(0,1,1)=0 remove(1)=BAD remove(-1)=BAD remove(LEAST)=BAD "
                + "remove(GREATEST)=BAD remove(0)=0 remove(0)=BAD told(7)=2");
        run(EIGHTEEN, "remove(18)=BAD remove(17)=17 remove(17)=BAD 16*remove(0) told(1)=1 "
                + "between(2,4)=0 remove(0)=0 told(1)=0");
        says("Returns 1 if it was alive, otherwise 0; BAD if there is no such link or on is out");
        run("turn(0,0)=BAD add(0,1,1)=0 turn(1,0)=BAD turn(-1,0)=BAD turn(0,-1)=BAD turn(0,2)=BAD "
                + "turn(GREATEST,1)=BAD turn(LEAST,1)=BAD turn(0,GREATEST)=BAD turn(0,LEAST)=BAD "
                + "turn(32,0)=BAD link(0,3)=1 turn(0,0)=1 turn(0,1)=0 turn(0,1)=1 told(7)=4");
        run(EIGHTEEN, "turn(18,0)=BAD turn(17,0)=1 link(17,3)=0 link(16,3)=1 told(2)=17 "
                + "told(3)=18 turn(17,1)=0 told(2)=18");
        says("Makes a link alive or dead; the map stays.");
        run("add(0,1,1)=0 turn(0,0)=1 link(0,4)=1 know(0,0)=1 turn(0,1)=0 link(0,4)=0");
    }

    private static void knowToUndo() {
        says("Returns 1 if it stood in the map, otherwise 0; BAD if there is no such link or on");
        run("know(0,0)=BAD add(0,1,1)=0 know(1,0)=BAD know(-1,0)=BAD know(0,-1)=BAD know(0,2)=BAD "
                + "know(GREATEST,1)=BAD know(LEAST,1)=BAD know(0,GREATEST)=BAD know(0,LEAST)=BAD "
                + "know(32,0)=BAD link(0,4)=1 know(0,0)=1 know(0,1)=0 know(0,1)=1 told(7)=4");
        run(EIGHTEEN, "know(18,0)=BAD know(17,0)=1 link(17,4)=0 link(16,4)=1 told(3)=17 "
                + "told(2)=18 know(17,1)=0 told(3)=18");
        says("all links that are alive stand in it then, and no others");
        run("mend()=0 told(7)=1 add(0,1,1)=0 mend()=0 turn(0,0)=1 mend()=1 link(0,4)=0 mend()=0 "
                + "turn(0,1)=0 mend()=1 link(0,4)=1");
        says("how many links stood in it and do not any more, or the other way round");
        run("add(0,1,1) add(1,2,1) add(2,3,1) turn(0,0) know(1,0) turn(2,0) know(2,0) told(4)=2 "
                + "mend()=2 told(4)=0 told(3)=1");
        StringBuilder dead = new StringBuilder();
        for (int link = 0; link < 18; link++) {
            dead.append("turn(").append(link).append(",0)=1 ");
        }
        run(EIGHTEEN, dead.toString(), "told(4)=18 mend()=18 told(3)=0 mend()=0");
        says("Returns the previous one; BAD if room is out of range.");
        run("setRoom(LEAST)=BAD setRoom(-1)=BAD setRoom(0)=18 setRoom(18)=0 setRoom(19)=BAD "
                + "setRoom(GREATEST)=BAD setRoom(18)=18 told(5)=18 told(7)=3");
        says("Returns how many changes can still be undone; STATE if there is none.");
        run("undo()=STATE setRoom(1) undo()=0 undo()=STATE told(5)=18 undo()=STATE");
        run("send(0,1,0) keep(0)=0 write(32) wipe() undo()=STATE");
        run("keep(0) 8*back(0) back(0) undo()=7 7*undo() undo()=STATE");
        run("begin(1)=BAD add(0,0,1)=BAD undo()=STATE");
    }

    private static void mendByLetter() {
        says("the links of its list do not stand in it any more");
        run(SQUARE, "send(0,3,0)=4 mendByLetter()=1 link(2,4)=0 told(3)=4 letter(2)=1 "
                + "mendByLetter()=0 know(2,1)=0 turn(2,1)=0 mendByLetter()=1 link(2,4)=0");
        run(SQUARE, "turn(0,0)=1 send(0,3,0) know(0,1) know(1,1) mendByLetter()=1");
        also("an empty list");
        run("send(2,2,0)=0 mendByLetter()=0 told(7)=1");
        run(SQUARE, "send(0,1,0)=1 mendByLetter()=0 told(3)=5 send(0,3,1)=-13 mendByLetter()=0 "
                + "told(3)=5");
        says("STATE if there was no letter");
        run("mendByLetter()=STATE send(4,0,0)=BAD mendByLetter()=STATE all(1,0)=0 "
                + "mendByLetter()=STATE enoughRoom()=0 mendByLetter()=STATE told(7)=0");
        says("or if, since it was sent, one of the calls add(), remove(), begin(), undo(), "
                + "execute() and back() has returned a number that is not negative");
        run("send(0,1,0)=-11 add(0,1,1)=0 mendByLetter()=STATE");
        run("add(0,1,1) turn(0,0) send(0,1,0)=-11 remove(0)=0 mendByLetter()=STATE");
        run("send(0,1,0)=-11 begin(2)=4 mendByLetter()=STATE");
        run("setRoom(2) send(0,1,0)=-11 undo()=0 mendByLetter()=STATE");
        run("send(0,1,0)=-11 execute()=0 mendByLetter()=STATE");
        run("'   ' send(0,1,0)=-11 execute()=0 mendByLetter()=STATE");
        run("'link a b 1' send(0,1,0)=-11 execute()=1 mendByLetter()=STATE");
        run("keep(1)=0 send(0,1,0)=-11 back(1)=0 mendByLetter()=STATE");
        run("send(0,1,0)=-11 mendByLetter()=0 undo()=0 mendByLetter()=STATE");
        run("send(0,1,0)=-11 begin(2)=4 undo()=0 mendByLetter()=STATE");
        says("since it was sent");
        run("add(0,1,1)=0 begin(2)=4 keep(0)=0 back(0)=0 undo() execute()=0 send(0,1,0)=-11 "
                + "mendByLetter()=0 begin(2)=2 mendByLetter()=STATE send(0,1,0)=-11 "
                + "mendByLetter()=0 begin(2)=2 send(0,9,0)=BAD mendByLetter()=STATE");
        also("other calls, and refused ones");
        for (String call : new String[] {"add(0,0,1)=BAD", "add(0,1,1)=STATE", "remove(5)=BAD",
            "begin(1)=BAD", "begin(10)=BAD", "'x' execute()=STATE", "'cut a' execute()=STATE",
            "'cut a c' execute()=-100", "'cut a b cut a c' execute()=-101", "back(2)=BAD",
            "back(0)=STATE", "keep(0)=5", "turn(2,1)=0", "know(3,0)=1", "setRoom(0)=18",
            "mendByLetter()=1 know(2,1)=0", "send(0,4,0)=BAD", "all(1,0)=12", "stretch(1)",
            "enoughRoom()=1", "wipe()=0", "write(32)=1"}) {
            run(SQUARE, "send(0,3,0)=4", call, "mendByLetter()=1 link(2,4)=0");
        }
        run("send(0,1,0)=-11 undo()=STATE mendByLetter()=0");
        run(EIGHTEEN, "turn(7,0) send(0,8,0)=2 add(7,8,1)=FULL mendByLetter()=1");
    }

    private static void toldToBetween() {
        says("the least number of sets into which the nodes can be divided");
        run("told(8)=4 begin(9)=4 told(8)=9 begin(2)=9 told(8)=2 add(0,1,1) told(8)=1 know(0,0) "
                + "told(8)=1 turn(0,0) told(8)=2");
        run(CHAIN, "told(8)=1 turn(0,0) told(8)=2 turn(7,0) told(8)=3 turn(3,0) told(8)=4");
        run(EIGHTEEN, "told(8)=1");
        run("add(0,2,1) told(8)=3 add(1,3,1) told(8)=2 begin(9) add(0,8,1) add(1,7,1) told(8)=7");
        says("Returns the number; BAD if what is out of range.");
        run("told(LEAST)=BAD told(-1)=BAD told(9)=BAD told(GREATEST)=BAD");
        says("0 its lower end; 1 its higher end");
        run("add(3,0,9)=0 link(0,0)=0 link(0,1)=3 add(1,2,1)=1 link(1,0)=1 link(1,1)=2");
        says("how many ordered pairs of different nodes have a true way, but would have none");
        run("begin(2) add(0,1,9) link(0,5)=2 know(0,0) link(0,5)=2");
        run(CHAIN, "link(0,5)=16 link(1,5)=28 link(2,5)=36 link(3,5)=40 link(4,5)=40 link(7,5)=16 "
                + "add(0,8,1)=8 link(3,5)=0 link(8,5)=0 turn(8,0) link(3,5)=40 link(8,5)=0");
        says("(0 if it is dead)");
        run("add(0,1,1) turn(0,0) link(0,5)=0 turn(0,1) link(0,5)=2");
        says("Returns the property; BAD if there is no such link or what is out of range.");
        run("link(0,0)=BAD link(0,5)=BAD add(0,1,1)=0 link(0,-1)=BAD link(0,6)=BAD link(1,0)=BAD "
                + "link(-1,0)=BAD link(1,5)=BAD link(LEAST,0)=BAD link(GREATEST,5)=BAD "
                + "link(0,LEAST)=BAD link(0,GREATEST)=BAD link(18,0)=BAD link(32,3)=BAD");
        run(EIGHTEEN, "link(17,0)=2 link(18,0)=BAD link(17,6)=BAD link(18,5)=BAD");
        says("NONE if there is none; BAD if there is no such node or both are the same");
        run("between(0,1)=NONE between(1,0)=NONE between(0,0)=BAD between(3,3)=BAD "
                + "between(0,4)=BAD "
                + "between(4,0)=BAD between(-1,0)=BAD between(0,-1)=BAD between(4,4)=BAD "
                + "between(LEAST,0)=BAD between(0,GREATEST)=BAD add(3,0,1)=0 between(0,3)=0 "
                + "between(3,0)=0 turn(0,0) know(0,0) between(0,3)=0 remove(0) between(0,3)=NONE");
        run(EIGHTEEN, "between(5,2)=17 between(8,7)=NONE between(8,9)=BAD begin(2) "
                + "between(0,1)=NONE "
                + "between(0,2)=BAD");
    }

    private static void way() {
        says("a node, possibly the same");
        run("way(0,0,0)=0 way(3,3,0)=3 way(3,3,-1)=0 way(3,3,-2)=0 way(3,3,1)=NONE");
        says("NONE if there is no true way, or it has not so many nodes");
        run("way(0,3,0)=NONE way(0,3,-1)=NONE way(0,3,-2)=NONE way(0,3,GREATEST)=NONE add(0,3,4)=0 "
                + "way(0,3,0)=0 way(0,3,1)=3 way(0,3,2)=NONE way(0,3,GREATEST)=NONE way(0,3,-1)=4 "
                + "way(0,3,-2)=1 way(0,0,GREATEST)=NONE");
        says("BAD if there is no such node, or k is less than -2");
        run("way(0,4,0)=BAD way(4,0,0)=BAD way(-1,0,0)=BAD way(0,-1,0)=BAD way(4,4,0)=BAD "
                + "way(0,0,-3)=BAD way(0,0,LEAST)=BAD way(LEAST,0,0)=BAD way(0,GREATEST,-1)=BAD "
                + "way(0,3,-3)=BAD way(GREATEST,GREATEST,0)=BAD");
        run("begin(9) way(8,8,0)=8 way(8,9,0)=BAD begin(2) way(1,1,0)=1 way(1,2,0)=BAD");
    }

    private static void sendToCarried() {
        says("minus 10, minus the cause, if it is lost; BAD if there is no such node or blind");
        run("send(0,4,0)=BAD send(4,0,0)=BAD send(-1,0,0)=BAD send(0,-1,1)=BAD send(0,1,2)=BAD "
                + "send(0,1,-1)=BAD send(LEAST,0,0)=BAD send(0,GREATEST,0)=BAD send(0,0,LEAST)=BAD "
                + "send(0,0,GREATEST)=BAD send(4,4,0)=BAD letter(0)=STATE send(3,3,1)=0 "
                + "send(0,3,0)=-11 send(0,3,1)=-11 told(7)=0");
        run(SQUARE, "send(0,3,0)=4 send(0,3,1)=-13 setRoom(0) send(0,3,0)=-12 send(0,3,1)=-13");
        says("Returns the number; BAD if what is out of range; STATE if there was no letter.");
        run("letter(0)=STATE letter(5)=STATE letter(6)=BAD letter(-1)=BAD letter(LEAST)=BAD "
                + "letter(GREATEST)=BAD send(1,1,0)=0 letter(0)=0 letter(1)=0 letter(2)=0 "
                + "letter(3)=0 letter(4)=1 letter(5)=0 letter(6)=BAD letter(-1)=BAD");
        says("2 how many links its list contains (0 for a blind letter)");
        run(SQUARE, "send(0,3,0)=4 letter(2)=1 send(2,3,1)=-13 letter(2)=0 send(2,0,0)=2 "
                + "letter(2)=0");
        says("3 the cause with which it was lost (0 if it has arrived)");
        run(SQUARE, "send(0,3,1)=-13 letter(3)=3 send(0,3,0)=4 letter(3)=0 setRoom(0) "
                + "send(0,3,0)=-12 letter(3)=2 begin(2) send(0,1,0)=-11 letter(3)=1 send(1,1,0)=0 "
                + "letter(3)=0");
        says("how often a way was computed, also if there was none");
        run("send(0,1,0)=-11 letter(5)=1 send(0,1,1)=-11 letter(5)=1");
        says("NONE if there are not so many; BAD if k is negative; STATE if there was no letter");
        run("passed(0)=STATE passed(41)=STATE passed(-1)=BAD passed(LEAST)=BAD send(2,2,0)=0 "
                + "passed(0)=2 passed(1)=NONE passed(GREATEST)=NONE passed(-1)=BAD");
        run(SQUARE, "send(0,3,1)=-13 passed(40)=2 passed(41)=NONE send(0,3,0)=4 passed(4)=3 "
                + "passed(5)=NONE passed(40)=NONE");
        says("NONE if there are not so many; BAD if k is negative or what is out of range");
        run("carried(0,0)=STATE carried(17,1)=STATE carried(-1,0)=BAD carried(0,2)=BAD "
                + "carried(0,-1)=BAD carried(LEAST,0)=BAD carried(0,GREATEST)=BAD "
                + "carried(0,LEAST)=BAD send(0,0,0)=0 carried(0,0)=NONE carried(18,0)=NONE "
                + "carried(GREATEST,1)=NONE carried(GREATEST,2)=BAD carried(-1,1)=BAD");
        run(SQUARE, "send(0,3,0)=4 carried(0,0)=2 carried(0,1)=3 carried(1,0)=NONE "
                + "carried(1,1)=NONE carried(17,0)=NONE");
        says("with the ends that it had when the letter met it");
        run(SQUARE, "send(0,3,0)=4 remove(2)=4 carried(0,0)=2 carried(0,1)=3 begin(2) "
                + "carried(0,0)=2 carried(0,1)=3 add(0,1,1)=0 carried(0,0)=2 undo() "
                + "carried(0,1)=3 'size 2' execute()=1 carried(0,1)=3");
    }

    private static void allToEnoughRoom() {
        says("Returns a number about letters for all ordered pairs of different nodes.");
        run("begin(2) add(0,1,9) all(0,0)=2 all(1,0)=2 all(2,0)=0 all(3,0)=18 all(4,0)=18 "
                + "all(5,0)=0 all(6,0)=1 all(7,0)=0");
        run(CHAIN, "all(0,0)=72 all(1,0)=72 all(2,0)=0 all(3,0)=2160 all(4,0)=2160 all(6,0)=8 "
                + "all(7,0)=0 all(1,1)=72 all(6,1)=8 stretch(0)=1 stretch(1)=1 enoughRoom()=0");
        says("letters that are lost although there is a true way");
        run("add(0,1,1) know(0,0) all(0,0)=2 all(1,0)=0 all(2,0)=2 all(2,1)=2 turn(0,0) "
                + "all(0,0)=0 all(2,0)=0 all(2,1)=0");
        says("in the end, arrived or lost (0 for blind ones)");
        run("add(0,1,1) turn(0,0) all(5,0)=1 all(5,1)=0 all(6,0)=0 setRoom(0) all(5,0)=0");
        run(SQUARE, "all(5,0)=1 all(5,1)=0 all(6,0)=4 all(6,1)=40 setRoom(0) all(5,0)=0");
        says("at a cost that is greater than the length of the true way");
        run(SQUARE, "all(7,0)=2 setRoom(0) all(7,0)=0 mend() all(7,0)=0 all(7,1)=0");
        says("Returns the number; BAD if an argument is out of range.");
        run("all(-1,0)=BAD all(8,0)=BAD all(0,-1)=BAD all(0,2)=BAD all(LEAST,0)=BAD "
                + "all(GREATEST,1)=BAD all(0,LEAST)=BAD all(0,GREATEST)=BAD all(8,2)=BAD "
                + "all(7,1)=0");
        says("Returns the stretch, 0.0 if none arrives; BAD, as a float, if blind is out of "
                + "range.");
        run("stretch(0)=0.0 stretch(1)=0.0 stretch(2)=-1.0 stretch(-1)=-1.0 stretch(LEAST)=-1.0 "
                + "stretch(GREATEST)=-1.0 add(0,1,9) stretch(0)=1.0 stretch(1)=1.0 turn(0,0) "
                + "stretch(0)=0.0 stretch(1)=0.0 turn(0,1) know(0,0) stretch(0)=0.0 "
                + "stretch(1)=0.0");
        run(SQUARE, "stretch(0)=46/42 stretch(1)=1 setRoom(0) stretch(0)=1 stretch(2)=-1");
        run("add(0,1,1) add(1,3,1) add(0,2,2) add(2,3,2) add(1,2,2) turn(1,0) all(3,1)=31 "
                + "all(4,1)=30 all(7,1)=1 stretch(1)=31/30");
        says("the least room with which as many letters that carry lists arrive");
        run("enoughRoom()=0 begin(2) enoughRoom()=0 add(0,1,1) enoughRoom()=0 turn(0,0) "
                + "enoughRoom()=0 begin(9) enoughRoom()=0");
        run(SQUARE, "enoughRoom()=1 setRoom(0) enoughRoom()=1 setRoom(1) all(1,0)=12 setRoom(0) "
                + "all(1,0)=6 told(5)=0 turn(2,1) enoughRoom()=0 turn(2,0) enoughRoom()=1 begin(2) "
                + "enoughRoom()=0");
        run("add(0,1,1) add(1,2,1) add(0,3,1) add(2,3,1) add(0,2,9) turn(0,0) turn(2,0) "
                + "enoughRoom()=2 all(1,0)=12 setRoom(2) all(1,0)=12 setRoom(1) all(1,0)=6 "
                + "enoughRoom()=2 setRoom(0) all(1,0)=4 enoughRoom()=2 told(5)=0");
    }

    private static void writeToFault() {
        says("Returns the new length of the text; BAD if code is out of range; FULL if the text");
        run("write(LEAST)=BAD write(-1)=BAD write(0)=BAD write(31)=BAD write(32)=1 write(126)=2 "
                + "write(127)=BAD write(256)=BAD write(GREATEST)=BAD told(6)=2 76*write(97) "
                + "write(97)=79 write(97)=80 write(97)=FULL write(97)=FULL write(31)=BAD "
                + "told(6)=80 "
                + "wipe()=80 write(97)=1");
        says("Returns the length that it had.");
        run("wipe()=0 write(97)=1 wipe()=1 wipe()=0 80*write(97) wipe()=80 told(6)=0 told(7)=0");
        says("NONE if it is a sequence of commands, perhaps an empty one");
        run("fault()=NONE write(32)=1 fault()=NONE 79*write(32) fault()=NONE wipe()=80 "
                + "fault()=NONE write(99)=1 fault()=0 wipe()=1 fault()=NONE");
        also("wiped bytes are not read again");
        run("'cut a b' wipe()=7 write(99) write(117) write(116) fault()=3 write(32) fault()=4 "
                + "write(97) fault()=5 write(32) write(98) fault()=NONE");
    }

    private static void execute() {
        says("Carries out the commands of the text, one after the other, in place; the text "
                + "stays.");
        run("'size 9 link a i 9 cut i a learn a i fix i a' execute()=5 told(6)=43 told(0)=9 "
                + "told(1)=1 link(0,0)=0 link(0,1)=8 link(0,2)=9 link(0,3)=1 link(0,4)=0 told(7)=1 "
                + "execute()=5 told(7)=2 told(1)=1");
        run("'link a b 1 link c d 2' execute()=2 told(1)=2 execute()=-100 told(1)=2 told(7)=1");
        says("nothing changes at all");
        run(SQUARE, "'cut a b link a c 1 size 2 link a c 1' execute()=-103 told(0)=4 told(1)=5 "
                + "told(2)=4 told(7)=7 link(0,3)=1");
        says("add() or begin() would return an error code, or there is no such link or node");
        run("'link a a 1' execute()=-100 'link a e 1' execute()=-100 'link e a 1' execute()=-100 "
                + "'link a d 1' execute()=1 'link d a 1' execute()=-100 'cut a b' execute()=-100 "
                + "'fix a b' execute()=-100 'learn a b' execute()=-100 'cut a a' execute()=-100 "
                + "'cut a e' execute()=-100 'fix i a' execute()=-100 'learn a d' execute()=1 "
                + "told(7)=2");
        run("'size 2 link a c 1' execute()=-101 'size 3 link a c 1' execute()=2 "
                + "'size 2 cut a c' execute()=-101 told(0)=3");
        run(EIGHTEEN, "'link h i 1' execute()=-100 remove(0)=17 'link h i 1' execute()=1 "
                + "told(1)=18 "
                + "undo() 'link h i 1 link g i 1' execute()=-101 told(1)=17 "
                + "'size 9 link h i 1' execute()=2 told(1)=1");
        says("Otherwise this is one change.");
        run("'size 2 size 3 size 5' execute()=3 told(7)=1 undo()=0 told(0)=4");
        run("execute()=0 told(7)=1 ' ' execute()=0 told(7)=2 8*execute() told(7)=8");
        says("Returns the number of commands; STATE if the text has a fault");
        run("execute()=0 'cut' execute()=STATE 'cut a b x' execute()=STATE 'x' execute()=STATE "
                + "'size 2 size' execute()=STATE told(0)=4 told(7)=1 'cut a b cut' "
                + "execute()=STATE");
        String eleven = "size 2 size 3 size 4 size 5 size 6 size 7 size 8 size 9 size 2 size 3 ";
        run("'" + eleven + "size 8' execute()=11 told(0)=8 told(7)=1");
        run("'" + eleven + "size 8    ' told(6)=80 execute()=11 told(0)=8");
        run("'" + " ".repeat(74) + "size 5' told(6)=80 execute()=1 told(0)=5 write(32)=FULL "
                + "execute()=1 told(0)=5");
        says("minus 100, minus the index of the first command, from 0, that cannot be carried out");
        run("'" + eleven + "cut a b' execute()=-110 told(0)=4 told(7)=0");
        run("'cut a b cut c d' execute()=-100 'size 4 cut a b cut c d' execute()=-101 told(7)=0");
    }

    private static void images() {
        says("Keeps the network, with the map and the room, in an image, replacing what it kept");
        run("keep(0)=0 add(0,1,1) turn(0,0) setRoom(3) keep(0)=1 know(0,0) setRoom(4) keep(1)=1 "
                + "begin(9) setRoom(5) back(0)=1 told(0)=4 told(2)=0 told(3)=1 told(5)=3 "
                + "back(1)=1 told(3)=0 told(5)=4");
        run("keep(0)=0", EIGHTEEN, "keep(1)=18 back(0)=0 told(0)=4 told(1)=0 back(1)=18 told(0)=9 "
                + "told(1)=18 link(17,1)=5 add(7,8,1)=FULL keep(0)=18 begin(2) back(0)=18");
        says("Returns the number of links; BAD if there is no such image.");
        run("keep(-1)=BAD keep(2)=BAD keep(LEAST)=BAD keep(GREATEST)=BAD back(0)=STATE "
                + "back(1)=STATE keep(0)=0 back(1)=STATE keep(1)=0 back(1)=0 told(7)=1");
        says("Makes what an image keeps the present network, map and room; the image stays.");
        run("add(0,1,7) keep(0)=1 begin(2) add(0,1,3) back(0)=1 link(0,2)=7 turn(0,0) remove(0) "
                + "back(0)=1 link(0,2)=7 link(0,3)=1 undo() told(1)=0 back(0)=1");
        says("Returns the number of links; BAD if there is no such image; STATE if it keeps "
                + "nothing.");
        run("back(-1)=BAD back(2)=BAD back(LEAST)=BAD back(GREATEST)=BAD back(0)=STATE "
                + "back(1)=STATE told(7)=0 keep(1)=0 back(0)=STATE back(1)=0 back(2)=BAD "
                + "told(7)=1");
    }

    public static void main(String[] args) {
        for (Method method : LetterNet.class.getMethods()) {
            if (method.getDeclaringClass() == LetterNet.class) {
                METHODS.put(method.getName() + "/" + method.getParameterCount(), method);
            }
        }
        whatItIs();
        noCallThrows();
        conventions();
        refusedCalls();
        questions();
        networks();
        ways();
        letters();
        lettersOfFortyLinks();
        blindLetters();
        text();
        changes();
        newObject();
        beginToTurn();
        knowToUndo();
        mendByLetter();
        toldToBetween();
        way();
        sendToCarried();
        allToEnoughRoom();
        writeToFault();
        execute();
        images();
        System.out.println(wrong == 0 ? "all sentences hold" : wrong + " answers are wrong");
        if (wrong != 0) {
            System.exit(1);
        }
    }
}

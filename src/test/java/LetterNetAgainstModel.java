import java.util.ArrayDeque;
import java.util.ArrayList;
import java.util.List;
import java.util.Random;
import java.util.regex.Pattern;

/**
 * Random runs of calls, the same ones each time, compared with a slow model that follows the
 * document's words: it lists all ways, tries every room, and copies whole states.
 */
public final class LetterNetAgainstModel {
    private static final int RUNS = 400;
    private static final int CALLS = 512;
    private static int wrong = 0;

    private record Link(int low, int high, int length, boolean alive, boolean known) {
        Link turned(boolean on) {
            return new Link(low, high, length, on, known);
        }

        Link known(boolean on) {
            return new Link(low, high, length, alive, on);
        }

        boolean joins(int a, int b) {
            return low == Math.min(a, b) && high == Math.max(a, b);
        }
    }

    private record State(int nodes, int room, List<Link> links) {
        State with(List<Link> newLinks) {
            return new State(nodes, room, List.copyOf(newLinks));
        }

        State withLink(int index, Link link) {
            List<Link> changed = new ArrayList<>(links);
            changed.set(index, link);
            return with(changed);
        }

        int find(int a, int b) {
            for (int i = 0; i < links.size(); i++) {
                if (links.get(i).joins(a, b)) {
                    return i;
                }
            }
            return -1;
        }

        boolean hasNode(int node) {
            return 0 <= node && node < nodes;
        }

        boolean hasLink(int link) {
            return 0 <= link && link < links.size();
        }
    }

    private interface Usable {
        boolean test(int link);
    }

    /** The best way, found among all of them. */
    private static final class BestWay {
        private final State state;
        private final Usable usable;
        private final int target;
        List<Integer> nodes = null;
        int length = 0;

        BestWay(State state, Usable usable, int from, int target) {
            this.state = state;
            this.usable = usable;
            this.target = target;
            List<Integer> start = new ArrayList<>();
            start.add(from);
            extend(start, 0);
        }

        private void extend(List<Integer> way, int sum) {
            int end = way.get(way.size() - 1);
            if (end == target) {
                if (nodes == null || isBetter(way, sum)) {
                    nodes = List.copyOf(way);
                    length = sum;
                }
                return;
            }
            if (nodes != null && sum > length) {
                return;
            }
            for (int next = 0; next < state.nodes; next++) {
                int link = state.find(end, next);
                if (end != next && link >= 0 && usable.test(link) && !way.contains(next)) {
                    way.add(next);
                    extend(way, sum + state.links.get(link).length);
                    way.remove(way.size() - 1);
                }
            }
        }

        private boolean isBetter(List<Integer> way, int sum) {
            if (sum != length) {
                return sum < length;
            }
            if (way.size() != nodes.size()) {
                return way.size() < nodes.size();
            }
            for (int i = 0; i < way.size(); i++) {
                if (!way.get(i).equals(nodes.get(i))) {
                    return way.get(i) < nodes.get(i);
                }
            }
            return false;
        }
    }

    private static final class ModelLetter {
        final List<Integer> passed = new ArrayList<>();
        final List<Integer> list = new ArrayList<>();
        final List<Link> met = new ArrayList<>();
        int cost = 0;
        int cause = 0;
        int computed = 0;

        ModelLetter(State state, int s, int t, boolean blind, int room) {
            passed.add(s);
            while (place() != t && cause == 0) {
                int u = place();
                computed++;
                BestWay way = new BestWay(state, link -> usable(state, link, u, blind), u, t);
                if (way.nodes == null) {
                    cause = 1;
                    break;
                }
                int link = state.find(u, way.nodes.get(1));
                if (!state.links.get(link).alive) {
                    if (list.size() == room) {
                        cause = 2;
                    } else {
                        list.add(link);
                        met.add(state.links.get(link));
                    }
                } else if (steps() == 40) {
                    cause = 3;
                } else {
                    passed.add(way.nodes.get(1));
                    cost += state.links.get(link).length;
                }
            }
        }

        private boolean usable(State state, int index, int u, boolean blind) {
            Link link = state.links.get(index);
            boolean deadHere = !link.alive && (link.low == u || link.high == u);
            return link.known && (blind ? !deadHere : !list.contains(index));
        }

        int place() {
            return passed.get(passed.size() - 1);
        }

        int steps() {
            return passed.size() - 1;
        }
    }

    private static final class Model {
        State state = new State(4, 18, List.of());
        ArrayDeque<State> history = new ArrayDeque<>();
        State[] images = new State[2];
        ModelLetter letter = null;
        boolean fits = false;
        String text = "";

        void change(State next) {
            history.addLast(state);
            if (history.size() > 8) {
                history.removeFirst();
            }
            state = next;
        }

        int begin(int n) {
            if (n < 2 || n > 9) {
                return -1;
            }
            int before = state.nodes;
            change(new State(n, state.room, List.of()));
            fits = false;
            return before;
        }

        static int refusal(State on, int a, int b, int length) {
            if (!on.hasNode(a) || !on.hasNode(b) || a == b || length < 1 || length > 9) {
                return -1;
            }
            return on.find(a, b) >= 0 ? -2 : on.links.size() == 18 ? -3 : 0;
        }

        static State added(State on, int a, int b, int length) {
            List<Link> links = new ArrayList<>(on.links);
            links.add(new Link(Math.min(a, b), Math.max(a, b), length, true, true));
            return on.with(links);
        }

        int add(int a, int b, int length) {
            int refusal = refusal(state, a, b, length);
            if (refusal != 0) {
                return refusal;
            }
            change(added(state, a, b, length));
            fits = false;
            return state.links.size() - 1;
        }

        int remove(int link) {
            if (!state.hasLink(link)) {
                return -1;
            }
            List<Link> links = new ArrayList<>(state.links);
            links.remove(link);
            change(state.with(links));
            fits = false;
            return links.size();
        }

        int turn(int link, int on) {
            if (!state.hasLink(link) || on < 0 || on > 1) {
                return -1;
            }
            Link before = state.links.get(link);
            change(state.withLink(link, before.turned(on == 1)));
            return before.alive ? 1 : 0;
        }

        int know(int link, int on) {
            if (!state.hasLink(link) || on < 0 || on > 1) {
                return -1;
            }
            Link before = state.links.get(link);
            change(state.withLink(link, before.known(on == 1)));
            return before.known ? 1 : 0;
        }

        int mend() {
            int differ = told(4);
            List<Link> links = new ArrayList<>();
            for (Link link : state.links) {
                links.add(link.known(link.alive));
            }
            change(state.with(links));
            return differ;
        }

        int mendByLetter() {
            if (letter == null || !fits) {
                return -2;
            }
            int stood = 0;
            State next = state;
            for (int index : letter.list) {
                stood += next.links.get(index).known ? 1 : 0;
                next = next.withLink(index, next.links.get(index).known(false));
            }
            change(next);
            return stood;
        }

        int setRoom(int room) {
            if (room < 0 || room > 18) {
                return -1;
            }
            int before = state.room;
            change(new State(state.nodes, room, state.links));
            return before;
        }

        int undo() {
            if (history.isEmpty()) {
                return -2;
            }
            state = history.removeLast();
            fits = false;
            return history.size();
        }

        boolean joined(State in, int a, int b) {
            return new BestWay(in, link -> in.links.get(link).alive, a, b).nodes != null;
        }

        int told(int what) {
            int alive = 0;
            int known = 0;
            int differ = 0;
            for (Link link : state.links) {
                alive += link.alive ? 1 : 0;
                known += link.known ? 1 : 0;
                differ += link.known != link.alive ? 1 : 0;
            }
            int[] answers = {state.nodes, state.links.size(), alive, known, differ, state.room,
                text.length(), history.size(), what == 8 ? parts() : 0};
            return what < 0 || what > 8 ? -1 : answers[what];
        }

        int parts() {
            int parts = 0;
            for (int node = 0; node < state.nodes; node++) {
                boolean first = true;
                for (int lower = 0; lower < node; lower++) {
                    first &= !joined(state, lower, node);
                }
                parts += first ? 1 : 0;
            }
            return parts;
        }

        int link(int index, int what) {
            if (!state.hasLink(index) || what < 0 || what > 5) {
                return -1;
            }
            Link link = state.links.get(index);
            int[] answers = {link.low, link.high, link.length, link.alive ? 1 : 0,
                link.known ? 1 : 0, what == 5 ? hanging(index) : 0};
            return answers[what];
        }

        int hanging(int index) {
            State without = state.withLink(index, state.links.get(index).turned(false));
            int pairs = 0;
            for (int a = 0; a < state.nodes; a++) {
                for (int b = 0; b < state.nodes; b++) {
                    pairs += a != b && joined(state, a, b) && !joined(without, a, b) ? 1 : 0;
                }
            }
            return pairs;
        }

        int between(int a, int b) {
            if (!state.hasNode(a) || !state.hasNode(b) || a == b) {
                return -1;
            }
            int found = state.find(a, b);
            return found < 0 ? -9 : found;
        }

        BestWay trueWay(int s, int t) {
            return new BestWay(state, link -> state.links.get(link).alive, s, t);
        }

        int way(int s, int t, int k) {
            if (!state.hasNode(s) || !state.hasNode(t) || k < -2) {
                return -1;
            }
            BestWay way = trueWay(s, t);
            if (way.nodes == null || k >= way.nodes.size()) {
                return -9;
            }
            return k == -1 ? way.length : k == -2 ? way.nodes.size() - 1 : way.nodes.get(k);
        }

        int send(int s, int t, int blind) {
            if (!state.hasNode(s) || !state.hasNode(t) || blind < 0 || blind > 1) {
                return -1;
            }
            letter = new ModelLetter(state, s, t, blind == 1, state.room);
            fits = true;
            return letter.cause == 0 ? letter.steps() : -10 - letter.cause;
        }

        int letter(int what) {
            if (what < 0 || what > 5) {
                return -1;
            }
            if (letter == null) {
                return -2;
            }
            int[] answers = {letter.steps(), letter.cost, letter.list.size(), letter.cause,
                letter.place(), letter.computed};
            return answers[what];
        }

        int passed(int k) {
            if (k < 0) {
                return -1;
            }
            return letter == null ? -2 : k < letter.passed.size() ? letter.passed.get(k) : -9;
        }

        int carried(int k, int what) {
            if (k < 0 || what < 0 || what > 1) {
                return -1;
            }
            if (letter == null) {
                return -2;
            }
            if (k >= letter.met.size()) {
                return -9;
            }
            return what == 0 ? letter.met.get(k).low : letter.met.get(k).high;
        }

        int[] survey(boolean blind, int room) {
            int[] sums = new int[8];
            for (int s = 0; s < state.nodes; s++) {
                for (int t = 0; t < state.nodes; t++) {
                    if (s != t) {
                        count(sums, trueWay(s, t), new ModelLetter(state, s, t, blind, room));
                    }
                }
            }
            return sums;
        }

        static void count(int[] sums, BestWay way, ModelLetter sent) {
            boolean arrived = sent.cause == 0;
            sums[0] += way.nodes != null ? 1 : 0;
            sums[1] += arrived ? 1 : 0;
            sums[2] += !arrived && way.nodes != null ? 1 : 0;
            sums[3] += arrived ? sent.cost : 0;
            sums[4] += arrived ? way.length : 0;
            sums[5] = Math.max(sums[5], sent.list.size());
            sums[6] = Math.max(sums[6], sent.steps());
            sums[7] += arrived && sent.cost > way.length ? 1 : 0;
        }

        int all(int what, int blind) {
            if (what < 0 || what > 7 || blind < 0 || blind > 1) {
                return -1;
            }
            return survey(blind == 1, state.room)[what];
        }

        float stretch(int blind) {
            if (blind < 0 || blind > 1) {
                return -1f;
            }
            int[] sums = survey(blind == 1, state.room);
            return sums[1] == 0 ? 0f : (float) sums[3] / (float) sums[4];
        }

        int enoughRoom() {
            int most = survey(false, 18)[1];
            int room = 0;
            while (survey(false, room)[1] != most) {
                room++;
            }
            return room;
        }

        int write(int code) {
            if (code < 32 || code > 126) {
                return -1;
            }
            if (text.length() == 80) {
                return -3;
            }
            text += (char) code;
            return text.length();
        }

        int wipe() {
            int before = text.length();
            text = "";
            return before;
        }

        /** The words with their places: each command's form is a row of patterns. */
        int fault() {
            String[] form = {};
            int at = 0;
            int place = 0;
            while (place < text.length()) {
                if (text.charAt(place) == ' ') {
                    place++;
                    continue;
                }
                int end = text.indexOf(' ', place);
                end = end < 0 ? text.length() : end;
                String word = text.substring(place, end);
                if (at == form.length) {
                    form = formOf(word);
                    at = 0;
                }
                if (form.length == 0 || !Pattern.matches(form[at], word)) {
                    return place;
                }
                at++;
                place = end;
            }
            return at == form.length ? -9 : text.length();
        }

        static String[] formOf(String word) {
            return switch (word) {
                case "link" -> new String[] {"link", "[a-i]", "[a-i]", "[1-9]"};
                case "cut", "fix", "learn" -> new String[] {word, "[a-i]", "[a-i]"};
                case "size" -> new String[] {"size", "[2-9]"};
                default -> new String[] {};
            };
        }

        int execute() {
            if (fault() != -9) {
                return -2;
            }
            String[] words = text.isBlank() ? new String[0] : text.trim().split(" +");
            State next = state;
            int done = 0;
            for (int i = 0; i < words.length; i += formOf(words[i]).length) {
                next = carriedOut(next, words, i);
                if (next == null) {
                    return -100 - done;
                }
                done++;
            }
            change(next);
            fits = false;
            return done;
        }

        static State carriedOut(State on, String[] words, int i) {
            if (words[i].equals("size")) {
                return new State(words[i + 1].charAt(0) - '0', on.room, List.of());
            }
            int a = words[i + 1].charAt(0) - 'a';
            int b = words[i + 2].charAt(0) - 'a';
            if (words[i].equals("link")) {
                int length = words[i + 3].charAt(0) - '0';
                return refusal(on, a, b, length) == 0 ? added(on, a, b, length) : null;
            }
            int index = on.find(a, b);
            if (index < 0) {
                return null;
            }
            Link link = on.links.get(index);
            return on.withLink(index, words[i].equals("learn") ? link.known(link.alive)
                    : link.turned(words[i].equals("fix")));
        }

        int keep(int i) {
            if (i < 0 || i > 1) {
                return -1;
            }
            images[i] = state;
            return state.links.size();
        }

        int back(int i) {
            if (i < 0 || i > 1) {
                return -1;
            }
            if (images[i] == null) {
                return -2;
            }
            change(images[i]);
            fits = false;
            return state.links.size();
        }
    }

    // ---- the runs

    private static final class Run {
        final int seed;
        final Random random;
        final LetterNet net = new LetterNet();
        final Model model = new Model();
        int calls = 0;

        Run(int seed) {
            this.seed = seed;
            this.random = new Random(seed);
        }

        void due(String call, double got, double want) {
            calls++;
            if (got != want) {
                wrong++;
                System.out.println("seed " + seed + ", call " + calls + ": " + call
                        + " answered " + got + ", due is " + want);
            }
        }

        int below(int bound) {
            return random.nextInt(bound);
        }

        /** Mostly within 0 to bound - 1, sometimes around it, rarely far away. */
        int some(int bound) {
            int kind = below(40);
            if (kind == 0) {
                return -1 - below(3);
            }
            if (kind == 1) {
                return bound + below(3);
            }
            if (kind == 2 && below(4) == 0) {
                return random.nextInt();
            }
            return below(Math.max(1, bound));
        }

        int node() {
            return some(model.state.nodes);
        }

        int link() {
            return some(model.state.links.size());
        }

        void go() {
            int nodes = 2 + below(8);
            due("begin", net.begin(nodes), model.begin(nodes));
            int links = below(22);
            for (int i = 0; i < links; i++) {
                add();
            }
            while (calls < CALLS - 1) {
                step();
            }
        }

        void add() {
            int a = node();
            int b = node();
            int length = below(3) == 0 ? some(11) : 1 + below(3);
            due("add(" + a + ", " + b + ", " + length + ")", net.add(a, b, length),
                    model.add(a, b, length));
        }

        void step() {
            int kind = below(100);
            if (kind < 45) {
                change(kind);
            } else if (kind < 75) {
                ask(kind);
            } else if (kind < 96) {
                letters(kind);
            } else {
                type();
            }
        }

        void change(int kind) {
            int link = link();
            int on = some(2);
            int small = some(19);
            if (kind < 8) {
                add();
            } else if (kind < 9) {
                due("begin(" + small + ")", net.begin(small), model.begin(small));
            } else if (kind < 12) {
                due("remove(" + link + ")", net.remove(link), model.remove(link));
            } else if (kind < 25) {
                due("turn(" + link + ", " + on + ")", net.turn(link, on), model.turn(link, on));
            } else if (kind < 30) {
                due("know(" + link + ", " + on + ")", net.know(link, on), model.know(link, on));
            } else if (kind < 31) {
                due("mend()", net.mend(), model.mend());
            } else if (kind < 34) {
                due("mendByLetter()", net.mendByLetter(), model.mendByLetter());
            } else if (kind < 37) {
                due("setRoom(" + small + ")", net.setRoom(small), model.setRoom(small));
            } else if (kind < 41) {
                due("undo()", net.undo(), model.undo());
            } else if (kind < 43) {
                due("keep(" + on + ")", net.keep(on), model.keep(on));
            } else {
                due("back(" + on + ")", net.back(on), model.back(on));
            }
        }

        void ask(int kind) {
            int a = node();
            int b = node();
            int link = link();
            int what = some(9);
            if (kind < 54) {
                due("told(" + what + ")", net.told(what), model.told(what));
            } else if (kind < 62) {
                int part = some(6);
                due("link(" + link + ", " + part + ")", net.link(link, part),
                        model.link(link, part));
            } else if (kind < 66) {
                due("between(" + a + ", " + b + ")", net.between(a, b), model.between(a, b));
            } else {
                int k = some(8) - 2;
                due("way(" + a + ", " + b + ", " + k + ")", net.way(a, b, k),
                        model.way(a, b, k));
            }
        }

        void letters(int kind) {
            int blind = some(2);
            int what = some(8);
            int k = below(4) == 0 ? some(42) : some(6);
            if (kind < 84) {
                int s = node();
                int t = node();
                due("send(" + s + ", " + t + ", " + blind + ")", net.send(s, t, blind),
                        model.send(s, t, blind));
            } else if (kind < 87) {
                due("letter(" + what + ")", net.letter(what), model.letter(what));
            } else if (kind < 90) {
                due("passed(" + k + ")", net.passed(k), model.passed(k));
            } else if (kind < 92) {
                due("carried(" + k + ", " + blind + ")", net.carried(k, blind),
                        model.carried(k, blind));
            } else if (kind < 95) {
                due("all(" + what + ", " + blind + ")", net.all(what, blind),
                        model.all(what, blind));
            } else if (below(2) == 0) {
                due("stretch(" + blind + ")", net.stretch(blind), model.stretch(blind));
            } else {
                due("enoughRoom()", net.enoughRoom(), model.enoughRoom());
            }
        }

        void type() {
            if (below(4) > 0) {
                due("wipe()", net.wipe(), model.wipe());
            }
            String words = words();
            for (int i = 0; i < words.length() && calls < CALLS - 3; i++) {
                int code = words.charAt(i);
                due("write(" + code + ")", net.write(code), model.write(code));
            }
            due("fault() of '" + model.text + "'", net.fault(), model.fault());
            due("execute() of '" + model.text + "'", net.execute(), model.execute());
        }

        String words() {
            StringBuilder words = new StringBuilder();
            int commands = below(5);
            for (int i = 0; i < commands; i++) {
                words.append(" ".repeat(below(8) == 0 ? 2 : 1));
                words.append(command());
            }
            if (below(8) == 0 && words.length() > 0) {
                words.setCharAt(below(words.length()), (char) (30 + below(98)));
            }
            if (below(8) == 0) {
                words.setLength(below(words.length() + 1));
            }
            return words.append(" ".repeat(below(2))).toString();
        }

        String command() {
            String names = " " + name() + " " + name();
            return switch (below(9)) {
                case 0, 1 -> "link" + names + " " + (below(12) == 0 ? 0 : 1 + below(9));
                case 2, 3 -> "cut" + names;
                case 4, 5 -> "fix" + names;
                case 6, 7 -> "learn" + names;
                default -> "size " + (below(6) == 0 ? below(12) : 3 + below(7));
            };
        }

        /** Rather an end of a link that stands, so that commands can be carried out. */
        char name() {
            List<Link> links = model.state.links;
            if (!links.isEmpty() && below(3) > 0) {
                Link link = links.get(links.size() - 1);
                return (char) ('a' + (below(2) == 0 ? link.low : link.high));
            }
            return (char) ('a' + some(model.state.nodes + 1) % 26);
        }
    }

    /** Networks, as rows of ends, length and life, in which letters turn round very often. */
    private static final int[][][] WINDING = {
        {{2, 4, 6, 0}, {1, 5, 9, 1}, {7, 5, 9, 0}, {3, 1, 8, 0}, {1, 0, 4, 0}, {0, 7, 3, 1},
            {7, 8, 2, 0}, {3, 5, 8, 0}, {0, 5, 4, 0}, {0, 4, 8, 0}, {8, 4, 1, 0}, {3, 8, 1, 0},
            {2, 6, 1, 1}, {8, 1, 9, 1}, {4, 5, 9, 1}, {2, 0, 1, 1}, {3, 6, 1, 1}, {4, 3, 8, 1}},
        {{7, 4, 6, 0}, {1, 4, 3, 0}, {8, 6, 2, 0}, {5, 8, 1, 0}, {1, 0, 1, 1}, {0, 2, 1, 1},
            {3, 8, 9, 1}, {8, 0, 4, 0}, {2, 7, 1, 1}, {5, 1, 1, 1}, {3, 2, 7, 0}, {3, 5, 3, 0},
            {7, 8, 1, 0}, {4, 6, 9, 1}, {3, 4, 9, 1}, {5, 4, 9, 0}, {7, 6, 5, 1}, {6, 5, 5, 0}},
        {{4, 1, 1, 1}, {4, 0, 1, 1}, {3, 6, 6, 0}, {6, 1, 1, 1}, {4, 3, 3, 0}, {3, 2, 6, 0},
            {2, 5, 4, 0}, {2, 7, 2, 1}, {2, 0, 1, 1}, {8, 7, 1, 0}, {8, 4, 9, 0}, {7, 3, 9, 1},
            {7, 5, 7, 0}, {3, 5, 9, 1}, {5, 8, 8, 1}, {6, 8, 1, 0}, {8, 2, 6, 0}, {5, 6, 4, 0}},
        {{8, 4, 3, 0}, {2, 1, 3, 0}, {2, 6, 7, 0}, {6, 0, 3, 0}, {7, 5, 1, 1}, {2, 8, 1, 0},
            {5, 8, 1, 0}, {1, 4, 6, 0}, {5, 6, 7, 0}, {2, 4, 3, 1}, {2, 3, 1, 1}, {6, 1, 9, 1},
            {6, 4, 9, 1}, {1, 8, 9, 1}, {3, 0, 1, 1}, {8, 0, 9, 0}, {1, 5, 3, 0}, {0, 7, 1, 1}},
        {{5, 4, 9, 0}, {8, 7, 1, 0}, {5, 6, 9, 1}, {7, 6, 7, 0}, {3, 2, 1, 1}, {8, 1, 2, 0},
            {0, 2, 1, 1}, {5, 1, 7, 1}, {0, 4, 1, 1}, {1, 7, 8, 1}, {7, 3, 1, 1}, {5, 7, 4, 0},
            {6, 8, 9, 0}, {8, 4, 4, 0}, {2, 1, 5, 0}, {2, 6, 4, 0}, {1, 4, 8, 0}, {6, 4, 8, 0}}};

    /** How many links the letter from 0 to 8 goes along in each of them. */
    private static final int[] WINDING_STEPS = {39, 40, 40, 40, 40};

    private static void windingLetters(int which) {
        Run run = new Run(-1 - which);
        run.due("begin(9)", run.net.begin(9), run.model.begin(9));
        for (int i = 0; i < WINDING[which].length; i++) {
            int[] row = WINDING[which][i];
            run.due("add", run.net.add(row[0], row[1], row[2]),
                    run.model.add(row[0], row[1], row[2]));
            run.due("turn", run.net.turn(i, row[3]), run.model.turn(i, row[3]));
        }
        run.due("send(0, 8, 0)", run.net.send(0, 8, 0), run.model.send(0, 8, 0));
        run.due("letter(0)", run.net.letter(0), WINDING_STEPS[which]);
        for (int what = 0; what < 8; what++) {
            run.due("letter", run.net.letter(what), run.model.letter(what));
            run.due("all", run.net.all(what, 0), run.model.all(what, 0));
            run.due("all", run.net.all(what, 1), run.model.all(what, 1));
        }
        for (int k = 0; k < 42; k++) {
            run.due("passed", run.net.passed(k), run.model.passed(k));
            run.due("carried", run.net.carried(k, 0), run.model.carried(k, 0));
            run.due("carried", run.net.carried(k, 1), run.model.carried(k, 1));
        }
        run.due("enoughRoom()", run.net.enoughRoom(), run.model.enoughRoom());
        run.due("mendByLetter()", run.net.mendByLetter(), run.model.mendByLetter());
        run.due("told(3)", run.net.told(3), run.model.told(3));
    }

    public static void main(String[] args) {
        for (int which = 0; which < WINDING.length; which++) {
            windingLetters(which);
        }
        int runs = args.length > 0 ? Integer.parseInt(args[0]) : RUNS;
        for (int seed = 1; seed <= runs && wrong < 20; seed++) {
            new Run(seed).go();
        }
        System.out.println(wrong == 0 ? "all answers are the model's" : wrong + " answers differ");
        if (wrong != 0) {
            System.exit(1);
        }
    }
}

/** For each promise of the document: ordinary inputs, the edges that it names, wrong inputs. */
public final class LetterNetPromises {
    private static final int BAD = -1, STATE = -2, FULL = -3, NONE = -9;
    private static final int[] NO_NUMBERS = {Integer.MIN_VALUE, -1, Integer.MAX_VALUE};
    private static int wrong = 0;
    private static int promise = 0;

    private static void due(String call, long got, long want) {
        if (got != want) {
            wrong++;
            System.out.println("promise " + promise + ": " + call + " answered " + got
                    + ", due is " + want);
        }
    }

    private static void dueFloat(String call, float got, float want) {
        if (got != want) {
            wrong++;
            System.out.println("promise " + promise + ": " + call + " answered " + got
                    + ", due is " + want);
        }
    }

    // ---- networks that several promises use

    /** Triples a, b, length. */
    private static LetterNet net(int nodes, int... triples) {
        LetterNet x = new LetterNet();
        x.begin(nodes);
        for (int i = 0; i + 2 < triples.length; i += 3) {
            x.add(triples[i], triples[i + 1], triples[i + 2]);
        }
        return x;
    }

    /** 0-1-2-3 with lengths 1, a long link 0-3 and a middle one 1-3; 2-3 is dead in truth. */
    private static LetterNet brokenSquare() {
        LetterNet x = net(4, 0, 1, 1, 1, 2, 1, 2, 3, 1, 0, 3, 9, 1, 3, 5);
        x.turn(2, 0);
        return x;
    }

    private static LetterNet fullNet() {
        LetterNet x = net(9);
        for (int b = 1; b < 9; b++) {
            x.add(0, b, 1);
        }
        for (int b = 2; b < 9; b++) {
            x.add(1, b, 1);
        }
        for (int b = 3; b < 6; b++) {
            x.add(2, b, 1);
        }
        return x;
    }

    private static void type(LetterNet x, String words) {
        x.wipe();
        for (int i = 0; i < words.length(); i++) {
            x.write(words.charAt(i));
        }
    }

    private static int faultOf(String words) {
        LetterNet x = new LetterNet();
        type(x, words);
        return x.fault();
    }

    private static int executed(LetterNet x, String words) {
        type(x, words);
        return x.execute();
    }

    private static void dueNet(LetterNet x, int nodes, int links, int alive, int inMap, int room) {
        due("told(0)", x.told(0), nodes);
        due("told(1)", x.told(1), links);
        due("told(2)", x.told(2), alive);
        due("told(3)", x.told(3), inMap);
        due("told(5)", x.told(5), room);
    }

    // ---- the promises

    private static void conventions() {
        promise = 0;
        due("BAD", LetterNet.BAD, -1);
        due("STATE", LetterNet.STATE, -2);
        due("FULL", LetterNet.FULL, -3);
        due("NONE", LetterNet.NONE, -9);
        LetterNet x = fullNet();
        due("add bad before state and full", x.add(0, 1, 0), BAD);
        due("add state before full", x.add(1, 0, 5), STATE);
        LetterNet fresh = new LetterNet();
        due("letter bad before state", fresh.letter(-1), BAD);
        due("passed bad before state", fresh.passed(-1), BAD);
        due("carried bad before state", fresh.carried(0, 2), BAD);
        due("back bad before state", fresh.back(2), BAD);
        for (int i = 0; i < 80; i++) {
            fresh.write('a');
        }
        due("write bad before full", fresh.write(31), BAD);
    }

    private static void newObject() {
        promise = 1;
        LetterNet x = new LetterNet();
        dueNet(x, 4, 0, 0, 0, 18);
        due("told(4)", x.told(4), 0);
        due("told(6)", x.told(6), 0);
        due("told(7)", x.told(7), 0);
        due("told(8)", x.told(8), 4);
        due("letter(0)", x.letter(0), STATE);
        due("passed(0)", x.passed(0), STATE);
        due("carried(0, 0)", x.carried(0, 0), STATE);
        due("mendByLetter()", x.mendByLetter(), STATE);
        due("undo()", x.undo(), STATE);
        due("back(0)", x.back(0), STATE);
        due("back(1)", x.back(1), STATE);
        due("fault()", x.fault(), NONE);
        due("enoughRoom()", x.enoughRoom(), 0);
        dueFloat("stretch(0)", x.stretch(0), 0.0f);
    }

    private static void begin() {
        promise = 2;
        LetterNet x = new LetterNet();
        x.add(0, 1, 2);
        x.setRoom(5);
        due("begin(9)", x.begin(9), 4);
        dueNet(x, 9, 0, 0, 0, 5);
        due("told(7)", x.told(7), 3);
        due("begin(2)", x.begin(2), 9);
        due("add(0, 1, 1)", x.add(0, 1, 1), 0);
        due("add(0, 2, 1)", x.add(0, 2, 1), BAD);
        due("begin(1)", x.begin(1), BAD);
        due("begin(10)", x.begin(10), BAD);
        for (int n : NO_NUMBERS) {
            due("begin(" + n + ")", x.begin(n), BAD);
        }
        dueNet(x, 2, 1, 1, 1, 5);
        due("told(7)", x.told(7), 5);
        due("undo()", x.undo(), 4);
        due("undo()", x.undo(), 3);
        dueNet(x, 9, 0, 0, 0, 5);
    }

    private static void add() {
        promise = 3;
        LetterNet x = new LetterNet();
        due("add(3, 1, 9)", x.add(3, 1, 9), 0);
        due("add(0, 1, 1)", x.add(0, 1, 1), 1);
        due("link(0, 0)", x.link(0, 0), 1);
        due("link(0, 1)", x.link(0, 1), 3);
        due("link(0, 2)", x.link(0, 2), 9);
        dueNet(x, 4, 2, 2, 2, 18);
        due("told(7)", x.told(7), 2);
        due("same ends", x.add(2, 2, 1), BAD);
        due("length 0", x.add(0, 2, 0), BAD);
        due("length 10", x.add(0, 2, 10), BAD);
        due("node 4", x.add(4, 0, 1), BAD);
        due("node 4", x.add(0, 4, 1), BAD);
        for (int n : NO_NUMBERS) {
            due("add(" + n + ", 0, 1)", x.add(n, 0, 1), BAD);
            due("add(0, " + n + ", 1)", x.add(0, n, 1), BAD);
            due("add(0, 2, " + n + ")", x.add(0, 2, n), BAD);
        }
        due("add(1, 3, 2)", x.add(1, 3, 2), STATE);
        due("add(3, 1, 2)", x.add(3, 1, 2), STATE);
        due("told(7)", x.told(7), 2);
        LetterNet full = fullNet();
        due("told(1)", full.told(1), 18);
        due("add(7, 8, 1)", full.add(7, 8, 1), FULL);
        due("told(1)", full.told(1), 18);
        full.remove(0);
        due("add(7, 8, 1)", full.add(7, 8, 1), 17);
    }

    private static void remove() {
        promise = 4;
        LetterNet x = net(4, 0, 1, 1, 1, 2, 2, 2, 3, 3, 0, 3, 4);
        x.turn(2, 0);
        x.know(3, 0);
        due("remove(1)", x.remove(1), 3);
        dueNet(x, 4, 3, 2, 2, 18);
        due("link(0, 2)", x.link(0, 2), 1);
        due("link(1, 2)", x.link(1, 2), 3);
        due("link(1, 0)", x.link(1, 0), 2);
        due("link(1, 3)", x.link(1, 3), 0);
        due("link(1, 4)", x.link(1, 4), 1);
        due("link(2, 2)", x.link(2, 2), 4);
        due("link(2, 3)", x.link(2, 3), 1);
        due("link(2, 4)", x.link(2, 4), 0);
        due("between(1, 2)", x.between(1, 2), NONE);
        due("remove(3)", x.remove(3), BAD);
        for (int n : NO_NUMBERS) {
            due("remove(" + n + ")", x.remove(n), BAD);
        }
        due("remove(2)", x.remove(2), 2);
        due("told(7)", x.told(7), 8);
        due("undo()", x.undo(), 7);
        due("undo()", x.undo(), 6);
        due("link(3, 2)", x.link(3, 2), 4);
        due("link(3, 4)", x.link(3, 4), 0);
        LetterNet full = fullNet();
        full.turn(17, 0);
        due("remove(0)", full.remove(0), 17);
        due("link(16, 3)", full.link(16, 3), 0);
        due("remove(16)", full.remove(16), 16);
        due("told(2)", full.told(2), 16);
    }

    private static void turn() {
        promise = 5;
        LetterNet x = net(3, 0, 1, 1, 1, 2, 1);
        due("turn(1, 0)", x.turn(1, 0), 1);
        dueNet(x, 3, 2, 1, 2, 18);
        due("link(1, 3)", x.link(1, 3), 0);
        due("link(0, 3)", x.link(0, 3), 1);
        due("turn(1, 0)", x.turn(1, 0), 0);
        due("turn(1, 1)", x.turn(1, 1), 0);
        due("turn(1, 1)", x.turn(1, 1), 1);
        due("told(7)", x.told(7), 7);
        due("turn(2, 0)", x.turn(2, 0), BAD);
        due("turn(0, 2)", x.turn(0, 2), BAD);
        for (int n : NO_NUMBERS) {
            due("turn(" + n + ", 0)", x.turn(n, 0), BAD);
            due("turn(0, " + n + ")", x.turn(0, n), BAD);
        }
        due("told(7)", x.told(7), 7);
        x.undo();
        x.undo();
        due("link(1, 3)", x.link(1, 3), 0);
    }

    private static void know() {
        promise = 6;
        LetterNet x = net(3, 0, 1, 1, 1, 2, 1);
        due("know(1, 0)", x.know(1, 0), 1);
        dueNet(x, 3, 2, 2, 1, 18);
        due("link(1, 4)", x.link(1, 4), 0);
        due("know(1, 0)", x.know(1, 0), 0);
        due("know(1, 1)", x.know(1, 1), 0);
        due("know(1, 1)", x.know(1, 1), 1);
        due("told(7)", x.told(7), 7);
        due("know(2, 0)", x.know(2, 0), BAD);
        due("know(0, 2)", x.know(0, 2), BAD);
        for (int n : NO_NUMBERS) {
            due("know(" + n + ", 0)", x.know(n, 0), BAD);
            due("know(0, " + n + ")", x.know(0, n), BAD);
        }
        due("told(7)", x.told(7), 7);
        x.undo();
        x.undo();
        due("link(1, 4)", x.link(1, 4), 0);
    }

    private static void mend() {
        promise = 7;
        LetterNet x = net(4, 0, 1, 1, 1, 2, 1, 2, 3, 1, 0, 3, 1);
        x.turn(0, 0);
        x.know(1, 0);
        x.turn(2, 0);
        x.know(2, 0);
        due("mend()", x.mend(), 2);
        due("told(4)", x.told(4), 0);
        due("link(0, 4)", x.link(0, 4), 0);
        due("link(1, 4)", x.link(1, 4), 1);
        due("link(2, 4)", x.link(2, 4), 0);
        due("link(3, 4)", x.link(3, 4), 1);
        due("mend()", x.mend(), 0);
        due("undo()", x.undo(), 7);
        due("undo()", x.undo(), 6);
        due("told(4)", x.told(4), 2);
        LetterNet empty = new LetterNet();
        due("mend() without links", empty.mend(), 0);
        due("a change, too", empty.told(7), 1);
    }

    private static void mendByLetter() {
        promise = 8;
        LetterNet x = brokenSquare();
        due("before a letter", x.mendByLetter(), STATE);
        x.send(0, 3, 0);
        int undoable = x.told(7);
        due("mendByLetter()", x.mendByLetter(), 1);
        due("link(2, 4)", x.link(2, 4), 0);
        due("told(3)", x.told(3), 4);
        due("told(7)", x.told(7), Math.min(8, undoable + 1));
        due("again", x.mendByLetter(), 0);
        due("letter(2)", x.letter(2), 1);
        x.know(2, 1);
        x.turn(2, 1);
        x.setRoom(3);
        due("after know, turn, setRoom", x.mendByLetter(), 1);
        x.mend();
        due("after mend", x.mendByLetter(), 1);
        x.send(0, 3, 1);
        due("by a blind letter", x.mendByLetter(), 0);
        lettersThatFitNoMore();
    }

    private static void lettersThatFitNoMore() {
        for (int how = 0; how < 6; how++) {
            LetterNet x = brokenSquare();
            x.keep(0);
            x.send(0, 3, 0);
            refuseChanges(x);
            due("after refused calls", x.mendByLetter(), 1);
            x.know(2, 1);
            int answer = how == 0 ? x.add(0, 2, 1) : how == 1 ? x.remove(4)
                    : how == 2 ? x.begin(4) : how == 3 ? x.undo()
                    : how == 4 ? executed(x, "") : x.back(0);
            due("not negative", answer >= 0 ? 1 : 0, 1);
            int undoable = x.told(7);
            due("after call " + how, x.mendByLetter(), STATE);
            due("told(7)", x.told(7), undoable);
            x.send(0, 1, 0);
            due("by a new letter", x.mendByLetter(), 0);
            due("a letter refused", x.send(0, 9, 0), BAD);
            due("after a refused letter", x.mendByLetter(), 0);
        }
    }

    private static void refuseChanges(LetterNet x) {
        due("add", x.add(0, 1, 1), STATE);
        due("remove", x.remove(5), BAD);
        due("begin", x.begin(1), BAD);
        due("execute", executed(x, "cut"), STATE);
        due("execute", executed(x, "cut a i"), -100);
        due("back", x.back(1), STATE);
    }

    private static void setRoom() {
        promise = 9;
        LetterNet x = brokenSquare();
        due("setRoom(0)", x.setRoom(0), 18);
        due("send(0, 3, 0)", x.send(0, 3, 0), -12);
        due("setRoom(1)", x.setRoom(1), 0);
        due("send(0, 3, 0)", x.send(0, 3, 0), 4);
        due("setRoom(18)", x.setRoom(18), 1);
        due("setRoom(-1)", x.setRoom(-1), BAD);
        due("setRoom(19)", x.setRoom(19), BAD);
        for (int n : NO_NUMBERS) {
            due("setRoom(" + n + ")", x.setRoom(n), BAD);
        }
        due("told(5)", x.told(5), 18);
        x.undo();
        due("told(5)", x.told(5), 1);
    }

    private static void undo() {
        promise = 10;
        LetterNet x = new LetterNet();
        due("undo()", x.undo(), STATE);
        for (int room = 0; room < 10; room++) {
            x.setRoom(room);
            due("told(7)", x.told(7), Math.min(8, room + 1));
        }
        for (int left = 7; left >= 0; left--) {
            due("undo()", x.undo(), left);
            due("told(5)", x.told(5), left + 1);
        }
        due("undo()", x.undo(), STATE);
        due("told(5)", x.told(5), 1);
        undoRestoresAll();
        undoLeavesOthers();
    }

    private static void undoRestoresAll() {
        LetterNet x = net(5, 0, 1, 3, 3, 4, 7);
        x.turn(0, 0);
        x.know(1, 0);
        x.setRoom(4);
        x.begin(2);
        x.add(0, 1, 9);
        x.undo();
        x.undo();
        dueNet(x, 5, 2, 1, 1, 4);
        due("link(0, 2)", x.link(0, 2), 3);
        due("link(0, 3)", x.link(0, 3), 0);
        due("link(1, 4)", x.link(1, 4), 0);
        due("link(1, 1)", x.link(1, 1), 4);
        x.add(0, 2, 1);
        due("a change after undo", x.undo(), 6);
        dueNet(x, 5, 2, 1, 1, 4);
    }

    private static void undoLeavesOthers() {
        LetterNet x = new LetterNet();
        x.add(0, 1, 1);
        x.keep(0);
        x.send(0, 1, 0);
        x.write('a');
        x.undo();
        due("told(6)", x.told(6), 1);
        due("letter(0)", x.letter(0), 1);
        due("back(0)", x.back(0), 1);
        due("no-changes are not undone", x.told(7), 1);
    }

    private static void told() {
        promise = 11;
        LetterNet x = net(6, 0, 1, 1, 1, 2, 1, 3, 4, 1);
        x.turn(1, 0);
        x.know(0, 0);
        x.know(2, 0);
        x.turn(2, 0);
        x.setRoom(7);
        x.write('x');
        x.write('y');
        int[] want = {6, 3, 1, 1, 2, 7, 2, 8, 5};
        for (int what = 0; what < want.length; what++) {
            due("told(" + what + ")", x.told(what), want[what]);
        }
        due("told(9)", x.told(9), BAD);
        for (int n : NO_NUMBERS) {
            due("told(" + n + ")", x.told(n), BAD);
        }
        x.mend();
        due("told(4)", x.told(4), 0);
        x.turn(1, 1);
        x.turn(2, 1);
        due("told(8)", x.told(8), 3);
        due("one part", fullNet().told(8), 1);
        // A chain whose links are numbered against its direction needs several passes.
        due("a chain", net(9, 7, 8, 1, 6, 7, 1, 5, 6, 1, 4, 5, 1, 3, 4, 1, 2, 3, 1, 1, 2, 1,
                0, 1, 1).told(8), 1);
    }

    private static void link() {
        promise = 12;
        LetterNet x = net(5, 4, 1, 6, 0, 1, 2, 0, 4, 3, 2, 1, 1);
        x.turn(2, 0);
        x.know(0, 0);
        int[] want = {1, 4, 6, 1, 0, 6};
        for (int what = 0; what < want.length; what++) {
            due("link(0, " + what + ")", x.link(0, what), want[what]);
        }
        due("link(1, 5)", x.link(1, 5), 6);
        due("link(0, 5) whatever the map", hiddenLink().link(0, 5), 2);
        due("link(2, 5) dead", x.link(2, 5), 0);
        due("link(2, 3)", x.link(2, 3), 0);
        due("link(2, 4)", x.link(2, 4), 1);
        x.turn(2, 1);
        due("link(0, 5) in a ring", x.link(0, 5), 0);
        due("link(3, 5)", x.link(3, 5), 6);
        due("link(0, 6)", x.link(0, 6), BAD);
        due("link(4, 0)", x.link(4, 0), BAD);
        for (int n : NO_NUMBERS) {
            due("link(0, " + n + ")", x.link(0, n), BAD);
            due("link(" + n + ", 0)", x.link(n, 0), BAD);
        }
        LetterNet chain = net(9, 0, 1, 1, 1, 2, 1, 2, 3, 1, 3, 4, 1, 4, 5, 1, 5, 6, 1, 6, 7, 1,
                7, 8, 1);
        due("middle of a chain", chain.link(3, 5), 40);
        due("link(3, 3) stays", chain.link(3, 3), 1);
    }

    private static void between() {
        promise = 13;
        LetterNet x = net(4, 3, 1, 1, 0, 2, 1);
        x.turn(0, 0);
        x.know(0, 0);
        due("between(1, 3)", x.between(1, 3), 0);
        due("between(3, 1)", x.between(3, 1), 0);
        due("between(2, 0)", x.between(2, 0), 1);
        due("between(0, 1)", x.between(0, 1), NONE);
        due("between(1, 1)", x.between(1, 1), BAD);
        due("between(0, 4)", x.between(0, 4), BAD);
        due("between(4, 0)", x.between(4, 0), BAD);
        for (int n : NO_NUMBERS) {
            due("between(" + n + ", 0)", x.between(n, 0), BAD);
            due("between(0, " + n + ")", x.between(0, n), BAD);
        }
    }

    private static void way() {
        promise = 14;
        LetterNet x = net(6, 0, 1, 1, 1, 2, 1, 2, 3, 1, 0, 3, 9);
        dueWay(x, 0, 3, 3, 0, 1, 2, 3);
        dueWay(x, 3, 0, 3, 3, 2, 1, 0);
        dueWay(x, 5, 5, 0, 5);
        x.know(0, 0);
        dueWay(x, 0, 3, 3, 0, 1, 2, 3);
        x.turn(0, 0);
        dueWay(x, 0, 3, 9, 0, 3);
        for (int k = -2; k < 3; k++) {
            due("no way, k " + k, x.way(0, 5, k), NONE);
        }
        due("k -3", x.way(0, 5, -3), BAD);
        due("node 6", x.way(6, 0, 0), BAD);
        due("node 6", x.way(0, 6, 0), BAD);
        for (int n : NO_NUMBERS) {
            due("way(" + n + ", 0, 0)", x.way(n, 0, 0), BAD);
            due("way(0, " + n + ", 0)", x.way(0, n, 0), BAD);
        }
        due("k least", x.way(0, 3, Integer.MIN_VALUE), BAD);
        due("k greatest", x.way(0, 3, Integer.MAX_VALUE), NONE);
        // Of equal lengths: fewer nodes, even if the list is greater.
        dueWay(net(4, 0, 1, 1, 1, 2, 1, 2, 3, 1, 0, 3, 3), 0, 3, 3, 0, 3);
        // Of equal lengths and nodes: the smallest list, whatever the order of the links.
        dueWay(net(5, 0, 3, 1, 3, 4, 1, 0, 2, 1, 2, 4, 1, 0, 1, 2, 1, 4, 2), 0, 4, 2, 0, 2, 4);
        // A smaller list, read from the start, not from the end.
        dueWay(net(6, 0, 1, 1, 0, 2, 1, 1, 4, 1, 2, 3, 1, 3, 5, 1, 4, 5, 1), 0, 5, 3, 0, 1, 4, 5);
        dueWay(net(6, 0, 1, 1, 0, 2, 1, 1, 4, 1, 2, 3, 1, 3, 5, 1, 4, 5, 1), 5, 0, 3, 5, 3, 2, 0);
        dueWay(net(9, 7, 8, 9, 6, 7, 9, 5, 6, 9, 4, 5, 9, 3, 4, 9, 2, 3, 9, 1, 2, 9, 0, 1, 9),
                0, 8, 72, 0, 1, 2, 3, 4, 5, 6, 7, 8);
    }

    private static void dueWay(LetterNet x, int s, int t, int length, int... nodes) {
        String call = "way(" + s + ", " + t + ", ";
        due(call + "-1)", x.way(s, t, -1), length);
        due(call + "-2)", x.way(s, t, -2), nodes.length - 1);
        for (int k = 0; k < nodes.length; k++) {
            due(call + k + ")", x.way(s, t, k), nodes[k]);
        }
        due(call + nodes.length + ")", x.way(s, t, nodes.length), NONE);
    }

    private static void send() {
        promise = 15;
        LetterNet x = brokenSquare();
        int undoable = x.told(7);
        due("send(0, 3, 0)", x.send(0, 3, 0), 4);
        due("send(3, 3, 1)", x.send(3, 3, 1), 0);
        due("send(0, 3, 1)", x.send(0, 3, 1), -13);
        x.setRoom(0);
        due("no room", x.send(0, 3, 0), -12);
        x.setRoom(18);
        due("no change", x.told(7), Math.min(8, undoable + 2));
        due("node 4", x.send(4, 0, 0), BAD);
        due("node 4", x.send(0, 4, 0), BAD);
        due("blind 2", x.send(0, 3, 2), BAD);
        for (int n : NO_NUMBERS) {
            due("send(" + n + ", 0, 0)", x.send(n, 0, 0), BAD);
            due("send(0, " + n + ", 0)", x.send(0, n, 0), BAD);
            due("send(0, 3, " + n + ")", x.send(0, 3, n), BAD);
        }
        LetterNet apart = net(3, 0, 1, 1);
        due("no way", apart.send(0, 2, 0), -11);
        due("no way", apart.send(0, 2, 1), -11);
        due("a letter uses the map alone", hiddenLink().send(0, 1, 0), -11);
        due("a letter uses the map alone", hiddenLink().send(0, 1, 1), -11);
        due("a way round", detour(2).send(0, 3, 0), 3);
        due("a way round, blind", detour(2).send(0, 3, 1), 3);
        due("a longer way round", detour(3).send(0, 3, 0), 3);
        due("a blind letter that turns back again and again", detour(3).send(0, 3, 1), -13);
    }

    private static LetterNet hiddenLink() {
        LetterNet x = net(3, 0, 1, 1);
        x.know(0, 0);
        return x;
    }

    /** 1-3 is dead; behind it, 2-3 is as long as the map's way 2-1-3, or longer. */
    private static LetterNet detour(int length) {
        LetterNet x = net(4, 0, 1, 1, 1, 3, 1, 1, 2, 1, 2, 3, length);
        x.turn(1, 0);
        return x;
    }

    private static void letter() {
        promise = 16;
        LetterNet x = brokenSquare();
        for (int what = 0; what < 6; what++) {
            due("letter(" + what + ")", x.letter(what), STATE);
        }
        x.send(0, 3, 0);
        dueLetter(x, 4, 8, 1, 0, 3, 5);
        x.add(0, 2, 1);
        x.begin(2);
        dueLetter(x, 4, 8, 1, 0, 3, 5);
        x.send(0, 9, 0);
        dueLetter(x, 4, 8, 1, 0, 3, 5);
        x.all(3, 1);
        x.enoughRoom();
        x.stretch(1);
        dueLetter(x, 4, 8, 1, 0, 3, 5);
        x.send(1, 1, 0);
        dueLetter(x, 0, 0, 0, 0, 1, 0);
        x.send(0, 1, 0);
        dueLetter(x, 0, 0, 0, 1, 0, 1);
        LetterNet blind = brokenSquare();
        blind.send(0, 3, 1);
        dueLetter(blind, 40, 40, 0, 3, 2, 41);
        blind.setRoom(0);
        blind.send(0, 3, 0);
        dueLetter(blind, 2, 2, 0, 2, 2, 3);
        due("letter(6)", x.letter(6), BAD);
        for (int n : NO_NUMBERS) {
            due("letter(" + n + ")", x.letter(n), BAD);
        }
    }

    private static void dueLetter(LetterNet x, int... want) {
        for (int what = 0; what < want.length; what++) {
            due("letter(" + what + ")", x.letter(what), want[what]);
        }
    }

    private static void passed() {
        promise = 17;
        LetterNet x = brokenSquare();
        due("passed(0)", x.passed(0), STATE);
        due("passed(-1)", x.passed(-1), BAD);
        x.send(0, 3, 0);
        duePassed(x, 0, 1, 2, 1, 3);
        x.begin(2);
        duePassed(x, 0, 1, 2, 1, 3);
        x.undo();
        x.send(0, 3, 1);
        due("passed(39)", x.passed(39), 1);
        due("passed(40)", x.passed(40), 2);
        due("passed(41)", x.passed(41), NONE);
        x.send(2, 2, 1);
        duePassed(x, 2);
        due("passed(least)", x.passed(Integer.MIN_VALUE), BAD);
        due("passed(greatest)", x.passed(Integer.MAX_VALUE), NONE);
    }

    private static void duePassed(LetterNet x, int... want) {
        for (int k = 0; k < want.length; k++) {
            due("passed(" + k + ")", x.passed(k), want[k]);
        }
        due("passed(" + want.length + ")", x.passed(want.length), NONE);
    }

    private static void carried() {
        promise = 18;
        LetterNet x = net(4, 3, 0, 1, 2, 0, 2, 1, 0, 3, 3, 2, 1, 3, 1, 1);
        due("carried(0, 0)", x.carried(0, 0), STATE);
        x.turn(0, 0);
        x.turn(1, 0);
        x.turn(4, 0);
        due("send(0, 3, 0)", x.send(0, 3, 0), -11);
        dueCarried(x, 0, 3, 0, 2, 1, 3);
        x.remove(0);
        x.begin(2);
        dueCarried(x, 0, 3, 0, 2, 1, 3);
        due("k -1", x.carried(-1, 0), BAD);
        due("what 2", x.carried(0, 2), BAD);
        for (int n : NO_NUMBERS) {
            due("carried(0, " + n + ")", x.carried(0, n), BAD);
        }
        due("k least", x.carried(Integer.MIN_VALUE, 0), BAD);
        due("k greatest", x.carried(Integer.MAX_VALUE, 0), NONE);
        x.send(0, 1, 1);
        due("blind", x.carried(0, 0), NONE);
        allLinksCarried();
    }

    private static void dueCarried(LetterNet x, int... ends) {
        for (int i = 0; i < ends.length; i++) {
            due("carried(" + i / 2 + ", " + i % 2 + ")", x.carried(i / 2, i % 2), ends[i]);
        }
        due("carried(" + ends.length / 2 + ", 0)", x.carried(ends.length / 2, 0), NONE);
    }

    private static void allLinksCarried() {
        LetterNet x = net(9);
        for (int b = 1; b < 9; b++) {
            x.add(0, b, 1);
        }
        for (int b = 2; b < 9; b++) {
            x.add(1, b, 9);
        }
        for (int link = 0; link < 8; link++) {
            x.turn(link, 0);
        }
        due("send(0, 8, 0)", x.send(0, 8, 0), -11);
        due("letter(2)", x.letter(2), 8);
        due("letter(5)", x.letter(5), 9);
        due("carried(0, 1)", x.carried(0, 1), 8);
        due("carried(1, 1)", x.carried(1, 1), 1);
        x.setRoom(7);
        due("send(0, 8, 0)", x.send(0, 8, 0), -12);
        due("letter(2)", x.letter(2), 7);
        due("carried(7, 0)", x.carried(7, 0), NONE);
    }

    private static void all() {
        promise = 19;
        LetterNet x = brokenSquare();
        dueAll(x, 0, 12, 12, 0, 46, 42, 1, 4, 2);
        int[] blind = {12, 9, 3};
        for (int what = 0; what < blind.length; what++) {
            due("all(" + what + ", 1)", x.all(what, 1), blind[what]);
        }
        due("all(5, 1)", x.all(5, 1), 0);
        due("all(6, 1)", x.all(6, 1), 40);
        x.setRoom(0);
        due("all(1, 0)", x.all(1, 0), 6);
        due("all(2, 0)", x.all(2, 0), 6);
        due("all(8, 0)", x.all(8, 0), BAD);
        due("all(0, 2)", x.all(0, 2), BAD);
        for (int n : NO_NUMBERS) {
            due("all(" + n + ", 0)", x.all(n, 0), BAD);
            due("all(0, " + n + ")", x.all(0, n), BAD);
        }
        LetterNet apart = net(3, 0, 1, 4);
        dueAll(apart, 0, 2, 2, 0, 8, 8, 0, 1, 0);
        dueAll(apart, 1, 2, 2, 0, 8, 8, 0, 1, 0);
        apart.know(0, 0);
        dueAll(apart, 0, 2, 0, 2, 0, 0, 0, 0, 0);
        apart.mend();
        apart.turn(0, 0);
        dueAll(apart, 0, 0, 0, 0, 0, 0, 1, 0, 0);
        dueAll(apart, 1, 0, 0, 0, 0, 0, 0, 0, 0);
    }

    private static void dueAll(LetterNet x, int blind, int... want) {
        for (int what = 0; what < want.length; what++) {
            due("all(" + what + ", " + blind + ")", x.all(what, blind), want[what]);
        }
    }

    private static void stretch() {
        promise = 20;
        LetterNet x = brokenSquare();
        dueFloat("stretch(0)", x.stretch(0), 46f / 42f);
        dueFloat("stretch(1)", x.stretch(1), (float) x.all(3, 1) / (float) x.all(4, 1));
        dueFloat("stretch(2)", x.stretch(2), -1f);
        for (int n : NO_NUMBERS) {
            dueFloat("stretch(" + n + ")", x.stretch(n), -1f);
        }
        x.setRoom(0);
        dueFloat("stretch(0) with the room 0", x.stretch(0), 1f);
        x.setRoom(18);
        x.mend();
        dueFloat("stretch(0)", x.stretch(0), 1f);
        LetterNet none = hiddenLink();
        dueFloat("none arrives", none.stretch(0), 0f);
        dueFloat("none arrives", none.stretch(1), 0f);
    }

    private static void enoughRoom() {
        promise = 21;
        LetterNet x = brokenSquare();
        due("enoughRoom()", x.enoughRoom(), 1);
        x.setRoom(0);
        due("whatever the room", x.enoughRoom(), 1);
        due("told(5)", x.told(5), 0);
        due("nothing dead", fullNet().enoughRoom(), 0);
        // The letter that meets most dead links is lost with any room: it needs none.
        LetterNet lost = net(2, 0, 1, 1);
        lost.turn(0, 0);
        due("only lost letters meet dead links", lost.enoughRoom(), 0);
        LetterNet many = net(9);
        for (int b = 1; b < 9; b++) {
            many.add(0, b, 1);
        }
        for (int b = 1; b < 8; b++) {
            many.add(b, b + 1, 1);
        }
        for (int b = 1; b < 8; b++) {
            many.turn(b - 1, 0);
        }
        int enough = many.enoughRoom();
        many.setRoom(18);
        int most = many.all(1, 0);
        many.setRoom(enough);
        due("enough", many.all(1, 0), most);
        many.setRoom(Math.max(0, enough - 1));
        due("not less", many.all(1, 0) < most ? 1 : 0, 1);
    }

    private static void write() {
        promise = 22;
        LetterNet x = new LetterNet();
        due("write(31)", x.write(31), BAD);
        due("write(127)", x.write(127), BAD);
        for (int n : NO_NUMBERS) {
            due("write(" + n + ")", x.write(n), BAD);
        }
        due("write(32)", x.write(32), 1);
        due("write(126)", x.write(126), 2);
        for (int size = 3; size <= 80; size++) {
            due("write(32)", x.write(32), size);
        }
        due("write(32)", x.write(32), FULL);
        due("told(6)", x.told(6), 80);
        due("no change", x.told(7), 0);
    }

    private static void wipe() {
        promise = 23;
        LetterNet x = new LetterNet();
        due("wipe()", x.wipe(), 0);
        type(x, "cut a b");
        due("wipe()", x.wipe(), 7);
        due("told(6)", x.told(6), 0);
        due("fault()", x.fault(), NONE);
        due("no change", x.told(7), 0);
        x.write(32);
        due("fault()", x.fault(), NONE);
    }

    private static void fault() {
        promise = 24;
        String[] right = {"", " ", "   ", "link a b 1", "  link   i  h   9  ", "cut a a",
            "fix c d", "learn e f", "size 2", "size 9", "size 2 size 3 cut a b link a b 5 fix a b"};
        for (String words : right) {
            due("fault of '" + words + "'", faultOf(words), NONE);
        }
        dueFaults("x", 0, " x", 1, "lin", 0, "links a b 1", 0, "Link a b 1", 0, "li nk", 0);
        dueFaults("link", 4, "link ", 5, "link a", 6, "link a  ", 8, "link a b", 8);
        dueFaults("link a b 0", 9, "link a b c", 9, "link a b 11", 9, "link j b 1", 5);
        dueFaults("link a j 1", 7, "link ab 1", 5, "link a 1 1", 7, "link A b 1", 5);
        dueFaults("link a b  10", 10, "link a b 1 2", 11, "link a b 1cut", 9, "link a b 1 a", 11);
        dueFaults("cut", 3, "cut a", 5, "cut a ", 6, "cut 1 b", 4, "cut a b c", 8);
        dueFaults("fix a cut a b", 6, "learn a", 7, "learn a `", 8, "lear", 0, "learned", 0);
        dueFaults("size", 4, "size 1", 5, "size 0", 5, "size :", 5, "size 10", 5, "size a", 5);
        dueFaults("size 1 x", 5, "link a b 0 x", 9, "link x y 0", 5, "cut a 2 x", 6, "x y", 0);
        dueFaults("size 3 size", 11, "size 3 cu", 7, "cut a bfix", 6, "si", 0);
        LetterNet x = new LetterNet();
        for (int i = 0; i < 80; i++) {
            x.write('a');
        }
        due("80 signs", x.fault(), 0);
        type(x, "cut a" + " ".repeat(75));
        due("blanks to the end", x.fault(), 80);
    }

    private static void dueFaults(Object... wordsAndFaults) {
        for (int i = 0; i + 1 < wordsAndFaults.length; i += 2) {
            String words = (String) wordsAndFaults[i];
            due("fault of '" + words + "'", faultOf(words), (Integer) wordsAndFaults[i + 1]);
        }
    }

    private static void execute() {
        promise = 25;
        LetterNet x = new LetterNet();
        due("four commands", executed(x, " link b a 2 link b c 9 cut c b learn b c "), 4);
        dueNet(x, 4, 2, 1, 1, 18);
        due("link(0, 2)", x.link(0, 2), 2);
        due("link(1, 3)", x.link(1, 3), 0);
        due("link(1, 4)", x.link(1, 4), 0);
        due("the text stays", x.told(6), 41);
        due("one change", x.told(7), 1);
        due("fix", executed(x, "fix b c"), 1);
        due("link(1, 3)", x.link(1, 3), 1);
        due("link(1, 4)", x.link(1, 4), 0);
        due("learn", executed(x, "learn c b"), 1);
        due("link(1, 4)", x.link(1, 4), 1);
        due("cut", executed(x, "cut a b"), 1);
        due("the map stays", x.link(0, 4), 1);
        due("empty text", executed(x, ""), 0);
        due("a change, too", x.told(7), 5);
        x.setRoom(3);
        due("size", executed(x, "size 9 link a i 4"), 2);
        dueNet(x, 9, 1, 1, 1, 3);
        due("undo()", x.undo(), 6);
        dueNet(x, 4, 2, 1, 2, 3);
        refusedTexts();
        elevenCommands();
    }

    private static void refusedTexts() {
        LetterNet x = net(4, 0, 1, 1);
        due("fault", executed(x, "cut a b cut"), STATE);
        due("fault before refusal", executed(x, "cut c d x"), STATE);
        due("no such link", executed(x, "cut c d"), -100);
        due("no such node", executed(x, "cut a b fix a e"), -101);
        due("no link to itself", executed(x, "cut a b cut a b learn a a"), -102);
        due("link exists", executed(x, "cut a b link b a 3"), -101);
        due("same ends", executed(x, "link a a 3"), -100);
        due("no node", executed(x, "link a e 3"), -100);
        due("link gone by size", executed(x, "cut a b size 4 cut a b"), -102);
        dueNet(x, 4, 1, 1, 1, 18);
        due("told(7)", x.told(7), 2);
        LetterNet full = fullNet();
        due("full", executed(full, "cut a b link h i 1"), -101);
        due("not full after size", executed(full, "size 8 link g h 1"), 2);
    }

    private static void elevenCommands() {
        LetterNet x = new LetterNet();
        due("eleven", executed(x, "size 2 size 3 size 4 size 5 size 6 size 7 size 8 size 9 "
                + "size 2 size 3 size 4"), 11);
        due("one change", x.told(7), 1);
        due("the eleventh", executed(x, "size 2 size 3 size 4 size 5 size 6 size 7 size 8 size 9 "
                + "size 2 size 3 cut a b"), -110);
    }

    private static void keep() {
        promise = 26;
        LetterNet x = net(5, 0, 1, 2, 1, 4, 3);
        x.turn(0, 0);
        x.know(1, 0);
        x.setRoom(6);
        int undoable = x.told(7);
        due("keep(1)", x.keep(1), 2);
        due("no change", x.told(7), undoable);
        due("the other image", x.back(0), STATE);
        x.begin(3);
        x.setRoom(1);
        due("back(1)", x.back(1), 2);
        dueNet(x, 5, 2, 1, 1, 6);
        x.begin(2);
        due("replaced", x.keep(1), 0);
        x.undo();
        due("back(1)", x.back(1), 0);
        dueNet(x, 2, 0, 0, 0, 6);
        due("keep(2)", x.keep(2), BAD);
        for (int n : NO_NUMBERS) {
            due("keep(" + n + ")", x.keep(n), BAD);
        }
    }

    private static void back() {
        promise = 27;
        LetterNet x = net(3, 0, 2, 5);
        due("back(0)", x.back(0), STATE);
        due("back(2)", x.back(2), BAD);
        for (int n : NO_NUMBERS) {
            due("back(" + n + ")", x.back(n), BAD);
        }
        due("told(7)", x.told(7), 2);
        x.keep(0);
        x.turn(0, 0);
        x.setRoom(2);
        due("back(0)", x.back(0), 1);
        dueNet(x, 3, 1, 1, 1, 18);
        due("link(0, 2)", x.link(0, 2), 5);
        due("a change", x.told(7), 5);
        x.add(0, 1, 1);
        due("the image stays", x.back(0), 1);
        dueNet(x, 3, 1, 1, 1, 18);
        due("undo()", x.undo(), 6);
        due("told(1)", x.told(1), 2);
        due("undo()", x.undo(), 5);
        due("undo()", x.undo(), 4);
        dueNet(x, 3, 1, 0, 1, 2);
    }

    public static void main(String[] args) {
        conventions();
        newObject();
        begin();
        add();
        remove();
        turn();
        know();
        mend();
        mendByLetter();
        setRoom();
        undo();
        told();
        link();
        between();
        way();
        send();
        letter();
        passed();
        carried();
        all();
        stretch();
        enoughRoom();
        write();
        wipe();
        fault();
        execute();
        keep();
        back();
        System.out.println(wrong == 0 ? "all promises hold" : wrong + " answers are wrong");
        if (wrong != 0) {
            System.exit(1);
        }
    }
}

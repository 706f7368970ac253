import java.util.Arrays;

/**
 * A simulator of letters that find their ways around dead links by carrying a list of the links
 * that they have met.
 *
 * <p>Every row is made in the constructor and used again: no call makes an object.
 */
public final class LetterNet {
    public static final int BAD = -1, STATE = -2, FULL = -3, NONE = -9;

    private static final int MIN_NODES = 2, MAX_NODES = 9, FIRST_NODES = 4;
    private static final int MAX_LINKS = 18, MAX_LENGTH = 9;
    private static final int MAX_STEPS = 40;
    private static final int MAX_TEXT = 80, MIN_CODE = 32, MAX_CODE = 126;
    private static final int MAX_UNDO = 8, IMAGES = 2;
    private static final int NO_LINK = -1, NO_NODE = -1;
    private static final int NO_WAY = 1, NO_ROOM = 2, TOO_FAR = 3;
    private static final int LOST = -10, NOT_CARRIED_OUT = -100;

    private final Network net;
    private final Network draft;
    private final Network[] history;
    private int undoable;
    private final Network[] images;
    private final boolean[] kept;
    private final Ways ways;
    private final Letter latest;
    private boolean letterSent;
    /** Whether the link numbers in the latest letter's list still name the same links. */
    private boolean letterFits;
    private final Survey survey;
    private final Text text;

    public LetterNet() {
        Network present = new Network();
        Ways measured = new Ways(present);
        net = present;
        ways = measured;
        draft = new Network();
        history = new Network[MAX_UNDO];
        for (int i = 0; i < MAX_UNDO; i++) {
            history[i] = new Network();
        }
        undoable = 0;
        images = new Network[IMAGES];
        for (int i = 0; i < IMAGES; i++) {
            images[i] = new Network();
        }
        kept = new boolean[IMAGES];
        latest = new Letter(present, measured);
        letterSent = false;
        letterFits = false;
        survey = new Survey(present, measured, new Letter(present, measured));
        text = new Text();
    }

    // ---- the network

    public int begin(int n) {
        if (n < MIN_NODES || n > MAX_NODES) {
            return BAD;
        }
        int before = net.nodes;
        recordState();
        letterFits = false;
        net.clear(n);
        return before;
    }

    public int add(int a, int b, int length) {
        int refusal = net.refusalOfLink(a, b, length);
        if (refusal != 0) {
            return refusal;
        }
        recordState();
        letterFits = false;
        net.appendLink(a, b, length);
        return net.links - 1;
    }

    public int remove(int link) {
        if (!net.hasLink(link)) {
            return BAD;
        }
        recordState();
        letterFits = false;
        net.dropLink(link);
        return net.links;
    }

    public int turn(int link, int on) {
        if (!net.hasLink(link) || !isFlag(on)) {
            return BAD;
        }
        int before = bit(net.alive, link);
        recordState();
        net.alive = withBit(net.alive, link, on);
        return before;
    }

    public int know(int link, int on) {
        if (!net.hasLink(link) || !isFlag(on)) {
            return BAD;
        }
        int before = bit(net.inMap, link);
        recordState();
        net.inMap = withBit(net.inMap, link, on);
        return before;
    }

    public int mend() {
        int wrong = net.countWrongInMap();
        recordState();
        net.inMap = net.alive;
        return wrong;
    }

    public int mendByLetter() {
        if (!letterSent || !letterFits) {
            return STATE;
        }
        int stood = Integer.bitCount(net.inMap & latest.list);
        recordState();
        net.inMap &= ~latest.list;
        return stood;
    }

    public int setRoom(int room) {
        if (room < 0 || room > MAX_LINKS) {
            return BAD;
        }
        int before = net.room;
        recordState();
        net.room = room;
        return before;
    }

    public int undo() {
        if (undoable <= 0 || undoable > MAX_UNDO) {
            return STATE;
        }
        undoable--;
        net.copyFrom(history[undoable]);
        letterFits = false;
        return undoable;
    }

    // ---- what is told

    public int told(int what) {
        switch (what) {
            case 0:
                return net.nodes;
            case 1:
                return net.links;
            case 2:
                return Integer.bitCount(net.alive);
            case 3:
                return Integer.bitCount(net.inMap);
            case 4:
                return net.countWrongInMap();
            case 5:
                return net.room;
            case 6:
                return text.size;
            case 7:
                return undoable;
            case 8:
                return net.countParts();
            default:
                return BAD;
        }
    }

    public int link(int link, int what) {
        if (!net.hasLink(link)) {
            return BAD;
        }
        switch (what) {
            case 0:
                return net.low[link];
            case 1:
                return net.high[link];
            case 2:
                return net.length[link];
            case 3:
                return bit(net.alive, link);
            case 4:
                return bit(net.inMap, link);
            case 5:
                return net.pairsJoined(net.alive) - net.pairsJoined(withBit(net.alive, link, 0));
            default:
                return BAD;
        }
    }

    public int between(int a, int b) {
        if (!net.hasNode(a) || !net.hasNode(b) || a == b) {
            return BAD;
        }
        int found = net.findLink(a, b);
        return found == NO_LINK ? NONE : found;
    }

    public int way(int s, int t, int k) {
        if (!net.hasNode(s) || !net.hasNode(t) || k < -2) {
            return BAD;
        }
        ways.measure(net.alive, t);
        if (!ways.leadsFrom(s) || k > ways.linksFrom(s)) {
            return NONE;
        }
        if (k == -1) {
            return ways.lengthFrom(s);
        }
        if (k == -2) {
            return ways.linksFrom(s);
        }
        return ways.nodeAfter(s, k);
    }

    // ---- letters

    public int send(int s, int t, int blind) {
        if (!net.hasNode(s) || !net.hasNode(t) || !isFlag(blind)) {
            return BAD;
        }
        latest.travel(s, t, blind == 1, net.room);
        letterSent = true;
        letterFits = true;
        return latest.hasArrived() ? latest.steps : LOST - latest.cause;
    }

    public int letter(int what) {
        if (what < 0 || what > 5) {
            return BAD;
        }
        if (!letterSent) {
            return STATE;
        }
        switch (what) {
            case 0:
                return latest.steps;
            case 1:
                return latest.cost;
            case 2:
                return latest.listed;
            case 3:
                return latest.cause;
            case 4:
                return latest.place;
            default:
                return latest.computed;
        }
    }

    public int passed(int k) {
        if (k < 0) {
            return BAD;
        }
        if (!letterSent) {
            return STATE;
        }
        return k > latest.steps || k > MAX_STEPS ? NONE : latest.visited[k];
    }

    public int carried(int k, int what) {
        if (k < 0 || !isFlag(what)) {
            return BAD;
        }
        if (!letterSent) {
            return STATE;
        }
        if (k >= latest.listed || k >= MAX_LINKS) {
            return NONE;
        }
        return what == 0 ? latest.metLow[k] : latest.metHigh[k];
    }

    public int all(int what, int blind) {
        if (what < 0 || what > 7 || !isFlag(blind)) {
            return BAD;
        }
        survey.take(blind == 1, net.room);
        switch (what) {
            case 0:
                return survey.joined;
            case 1:
                return survey.arrived;
            case 2:
                return survey.lostInVain;
            case 3:
                return survey.costs;
            case 4:
                return survey.trueLengths;
            case 5:
                return survey.longestList;
            case 6:
                return survey.mostSteps;
            default:
                return survey.dearer;
        }
    }

    public float stretch(int blind) {
        if (!isFlag(blind)) {
            return (float) BAD;
        }
        survey.take(blind == 1, net.room);
        if (survey.trueLengths == 0) {
            return 0.0f;
        }
        return (float) survey.costs / (float) survey.trueLengths;
    }

    public int enoughRoom() {
        // A smaller room changes nothing in a letter's travel but where it ends too early: so the
        // letters that arrive with the full room need just what their lists contain in the end.
        survey.take(false, MAX_LINKS);
        return survey.longestListArrived;
    }

    // ---- the text

    public int write(int code) {
        if (code < MIN_CODE || code > MAX_CODE) {
            return BAD;
        }
        if (text.size >= MAX_TEXT) {
            return FULL;
        }
        text.append(code);
        return text.size;
    }

    public int wipe() {
        int before = text.size;
        text.size = 0;
        return before;
    }

    public int fault() {
        text.startReading();
        boolean more = true;
        for (int i = 0; i < MAX_TEXT && more; i++) {
            more = text.readCommand();
        }
        return text.faultAt;
    }

    public int execute() {
        if (fault() != NONE) {
            return STATE;
        }
        draft.copyFrom(net);
        text.startReading();
        int done = 0;
        while (done < MAX_TEXT && text.readCommand()) {
            if (!text.carryOut(draft)) {
                return NOT_CARRIED_OUT - done;
            }
            done++;
        }
        recordState();
        letterFits = false;
        net.copyFrom(draft);
        return done;
    }

    // ---- images

    public int keep(int i) {
        if (i < 0 || i >= IMAGES) {
            return BAD;
        }
        images[i].copyFrom(net);
        kept[i] = true;
        return net.links;
    }

    public int back(int i) {
        if (i < 0 || i >= IMAGES) {
            return BAD;
        }
        if (!kept[i]) {
            return STATE;
        }
        recordState();
        letterFits = false;
        net.copyFrom(images[i]);
        return net.links;
    }

    // ---- helpers

    private void recordState() {
        if (undoable >= MAX_UNDO) {
            dropOldestState();
        }
        history[undoable].copyFrom(net);
        undoable++;
    }

    /** The oldest state's object moves to the end, where it is written over. */
    private void dropOldestState() {
        Network oldest = history[0];
        for (int i = 0; i + 1 < MAX_UNDO; i++) {
            history[i] = history[i + 1];
        }
        history[MAX_UNDO - 1] = oldest;
        undoable = MAX_UNDO - 1;
    }

    private static boolean isFlag(int value) {
        return value == 0 || value == 1;
    }

    private static int bit(int set, int index) {
        return (set >>> index) & 1;
    }

    private static int withBit(int set, int index, int value) {
        return (set & ~(1 << index)) | (value << index);
    }

    /** A network with its map and the room. Sets of links are masks: bit i stands for link i. */
    private static final class Network {
        int nodes = FIRST_NODES;
        int links = 0;
        int room = MAX_LINKS;
        int alive = 0;
        int inMap = 0;
        final int[] low = new int[MAX_LINKS];
        final int[] high = new int[MAX_LINKS];
        final int[] length = new int[MAX_LINKS];

        void copyFrom(Network other) {
            nodes = other.nodes;
            links = other.links;
            room = other.room;
            alive = other.alive;
            inMap = other.inMap;
            for (int i = 0; i < MAX_LINKS; i++) {
                low[i] = other.low[i];
                high[i] = other.high[i];
                length[i] = other.length[i];
            }
        }

        void clear(int newNodes) {
            nodes = newNodes;
            links = 0;
            alive = 0;
            inMap = 0;
        }

        boolean hasNode(int node) {
            return node >= 0 && node < nodes;
        }

        boolean hasLink(int link) {
            return link >= 0 && link < links;
        }

        int findLink(int a, int b) {
            for (int i = 0; i < links; i++) {
                if (low[i] == Math.min(a, b) && high[i] == Math.max(a, b)) {
                    return i;
                }
            }
            return NO_LINK;
        }

        /** The error code with which such a link is refused, or 0 if it can be added. */
        int refusalOfLink(int a, int b, int newLength) {
            if (!hasNode(a) || !hasNode(b) || a == b || newLength < 1 || newLength > MAX_LENGTH) {
                return BAD;
            }
            if (findLink(a, b) != NO_LINK) {
                return STATE;
            }
            return links >= MAX_LINKS ? FULL : 0;
        }

        void appendLink(int a, int b, int newLength) {
            low[links] = Math.min(a, b);
            high[links] = Math.max(a, b);
            length[links] = newLength;
            alive = withBit(alive, links, 1);
            inMap = withBit(inMap, links, 1);
            links++;
        }

        void dropLink(int link) {
            for (int i = link; i + 1 < links; i++) {
                low[i] = low[i + 1];
                high[i] = high[i + 1];
                length[i] = length[i + 1];
            }
            alive = withoutPlace(alive, link);
            inMap = withoutPlace(inMap, link);
            links--;
        }

        /** Later links move down by one number, and so must their bits. */
        private static int withoutPlace(int set, int link) {
            int earlier = (1 << link) - 1;
            return (set & earlier) | ((set >>> 1) & ~earlier);
        }

        int otherEnd(int link, int node) {
            if (low[link] == node) {
                return high[link];
            }
            return high[link] == node ? low[link] : NO_NODE;
        }

        int deadLinksAt(int node) {
            int dead = 0;
            for (int i = 0; i < links; i++) {
                if (bit(alive, i) == 0 && otherEnd(i, node) != NO_NODE) {
                    dead = withBit(dead, i, 1);
                }
            }
            return dead;
        }

        int countWrongInMap() {
            return Integer.bitCount(alive ^ inMap);
        }

        /** The set of the nodes to which the usable links lead from a node, itself included. */
        int reachedFrom(int node, int usable) {
            int reached = 1 << node;
            boolean grown = true;
            for (int pass = 0; pass < nodes && grown; pass++) {
                grown = false;
                for (int i = 0; i < links; i++) {
                    if (bit(usable, i) == 1 && bit(reached, low[i]) != bit(reached, high[i])) {
                        reached |= 1 << low[i] | 1 << high[i];
                        grown = true;
                    }
                }
            }
            return reached;
        }

        int countParts() {
            int parts = 0;
            int seen = 0;
            for (int node = 0; node < nodes; node++) {
                if (bit(seen, node) == 0) {
                    parts++;
                    seen |= reachedFrom(node, alive);
                }
            }
            return parts;
        }

        /** How many ordered pairs of different nodes have a way along the usable links. */
        int pairsJoined(int usable) {
            int pairs = 0;
            for (int node = 0; node < nodes; node++) {
                pairs += Integer.bitCount(reachedFrom(node, usable)) - 1;
            }
            return pairs;
        }
    }

    /** The best ways from all nodes to one target. */
    private static final class Ways {
        /** One number orders ways by length and then by links: length * 16 + links. */
        private static final int LENGTH_SHIFT = 4, LINKS_MASK = 15;
        private static final int UNREACHED = 1 << 20;

        private final Network net;
        private final int[] far = new int[MAX_NODES];
        private int usable = 0;

        Ways(Network net) {
            this.net = net;
        }

        private int weight(int link) {
            return (net.length[link] << LENGTH_SHIFT) + 1;
        }

        void measure(int usableLinks, int target) {
            usable = usableLinks;
            Arrays.fill(far, UNREACHED);
            far[target] = 0;
            boolean nearer = true;
            for (int pass = 0; pass < net.nodes && nearer; pass++) {
                nearer = false;
                for (int i = 0; i < net.links; i++) {
                    if (bit(usable, i) == 1 && bringNearer(i)) {
                        nearer = true;
                    }
                }
            }
        }

        private boolean bringNearer(int link) {
            int a = net.low[link];
            int b = net.high[link];
            int weight = weight(link);
            if (far[a] + weight < far[b]) {
                far[b] = far[a] + weight;
                return true;
            }
            if (far[b] + weight < far[a]) {
                far[a] = far[b] + weight;
                return true;
            }
            return false;
        }

        boolean leadsFrom(int node) {
            return far[node] < UNREACHED;
        }

        int lengthFrom(int node) {
            return far[node] >> LENGTH_SHIFT;
        }

        int linksFrom(int node) {
            return far[node] & LINKS_MASK;
        }

        /**
         * The first link of the best way from a node. The least next node on any shortest way
         * makes the lexicographically smallest list.
         */
        int firstLinkFrom(int node) {
            int found = NO_LINK;
            int least = MAX_NODES;
            for (int i = 0; i < net.links; i++) {
                int next = bit(usable, i) == 1 ? net.otherEnd(i, node) : NO_NODE;
                if (next != NO_NODE && next < least && far[next] + weight(i) == far[node]) {
                    least = next;
                    found = i;
                }
            }
            return found;
        }

        int nodeAfter(int start, int steps) {
            int node = start;
            for (int i = 0; i < steps && i < MAX_NODES; i++) {
                int link = firstLinkFrom(node);
                if (link == NO_LINK) {
                    return NONE;
                }
                node = net.otherEnd(link, node);
            }
            return node;
        }
    }

    /** One letter, from its start to where it ends. */
    private static final class Letter {
        private final Network net;
        private final Ways ways;
        int steps = 0;
        int cost = 0;
        int cause = 0;
        int place = 0;
        int computed = 0;
        int list = 0;
        int listed = 0;
        final int[] visited = new int[MAX_STEPS + 1];
        final int[] metLow = new int[MAX_LINKS];
        final int[] metHigh = new int[MAX_LINKS];

        Letter(Network net, Ways ways) {
            this.net = net;
            this.ways = ways;
        }

        void travel(int start, int target, boolean blind, int room) {
            startAt(start);
            // Each round goes along a link, lists a link, or is the last one.
            int rounds = MAX_STEPS + MAX_LINKS + 1;
            for (int i = 0; i < rounds && cause == 0 && place != target; i++) {
                int hidden = blind ? net.deadLinksAt(place) : list;
                ways.measure(net.inMap & ~hidden, target);
                computed++;
                tryLink(ways.firstLinkFrom(place), room);
            }
        }

        boolean hasArrived() {
            return cause == 0;
        }

        private void startAt(int start) {
            steps = 0;
            cost = 0;
            cause = 0;
            place = start;
            computed = 0;
            list = 0;
            listed = 0;
            visited[0] = start;
        }

        private void tryLink(int link, int room) {
            if (link == NO_LINK) {
                cause = NO_WAY;
            } else if (bit(net.alive, link) == 0) {
                meetDead(link, room);
            } else if (steps >= MAX_STEPS) {
                cause = TOO_FAR;
            } else {
                goAlong(link);
            }
        }

        private void meetDead(int link, int room) {
            if (listed >= room || listed >= MAX_LINKS) {
                cause = NO_ROOM;
                return;
            }
            metLow[listed] = net.low[link];
            metHigh[listed] = net.high[link];
            list = withBit(list, link, 1);
            listed++;
        }

        private void goAlong(int link) {
            place = net.otherEnd(link, place);
            cost += net.length[link];
            steps++;
            visited[steps] = place;
        }
    }

    /** What letters between all ordered pairs of different nodes come to. */
    private static final class Survey {
        private final Network net;
        private final Ways ways;
        private final Letter probe;
        int joined = 0;
        int arrived = 0;
        int lostInVain = 0;
        int costs = 0;
        int trueLengths = 0;
        int longestList = 0;
        int longestListArrived = 0;
        int mostSteps = 0;
        int dearer = 0;

        Survey(Network net, Ways ways, Letter probe) {
            this.net = net;
            this.ways = ways;
            this.probe = probe;
        }

        void take(boolean blind, int room) {
            forget();
            for (int s = 0; s < net.nodes; s++) {
                for (int t = 0; t < net.nodes; t++) {
                    if (s != t) {
                        takePair(s, t, blind, room);
                    }
                }
            }
        }

        private void forget() {
            joined = 0;
            arrived = 0;
            lostInVain = 0;
            costs = 0;
            trueLengths = 0;
            longestList = 0;
            longestListArrived = 0;
            mostSteps = 0;
            dearer = 0;
        }

        private void takePair(int s, int t, boolean blind, int room) {
            // The letter's travel measures anew, so the true way is read before it.
            ways.measure(net.alive, t);
            boolean hasTrueWay = ways.leadsFrom(s);
            int trueLength = ways.lengthFrom(s);
            probe.travel(s, t, blind, room);
            longestList = Math.max(longestList, probe.listed);
            mostSteps = Math.max(mostSteps, probe.steps);
            if (hasTrueWay) {
                joined++;
            }
            if (probe.hasArrived()) {
                countArrived(trueLength);
            } else if (hasTrueWay) {
                lostInVain++;
            }
        }

        private void countArrived(int trueLength) {
            arrived++;
            costs += probe.cost;
            trueLengths += trueLength;
            longestListArrived = Math.max(longestListArrived, probe.listed);
            if (probe.cost > trueLength) {
                dearer++;
            }
        }
    }

    /** The text, read command by command. */
    private static final class Text {
        private static final int LINK = 0, CUT = 1, FIX = 2, LEARN = 3, SIZE = 4, UNKNOWN = 5;
        private static final int BLANK = 32;

        private final int[] codes = new int[MAX_TEXT];
        int size = 0;
        /** Where the first word that cannot stand there begins, as far as the text was read. */
        int faultAt = NONE;
        private int wordStart = 0;
        private int wordEnd = 0;
        private int kind = UNKNOWN;
        private int first = 0;
        private int second = 0;
        private int digit = 0;

        void append(int code) {
            if (size < MAX_TEXT) {
                codes[size] = code;
                size++;
            }
        }

        void startReading() {
            faultAt = NONE;
            wordStart = 0;
            wordEnd = 0;
        }

        /** Reads the next command; false if there is none or if it has a fault. */
        boolean readCommand() {
            takeWord();
            if (wordStart == wordEnd) {
                return false;
            }
            kind = kindOfWord();
            switch (kind) {
                case LINK:
                    return readNames() && readDigit('1');
                case SIZE:
                    return readDigit('2');
                case UNKNOWN:
                    faultAt = wordStart;
                    return false;
                default:
                    return readNames();
            }
        }

        /** At the end of the text, the word is empty and stands at the text's length. */
        private void takeWord() {
            wordStart = wordEnd;
            while (wordStart < size && codes[wordStart] == BLANK) {
                wordStart++;
            }
            wordEnd = wordStart;
            while (wordEnd < size && codes[wordEnd] != BLANK) {
                wordEnd++;
            }
        }

        private int kindOfWord() {
            if (wordIs("link")) {
                return LINK;
            }
            if (wordIs("cut")) {
                return CUT;
            }
            if (wordIs("fix")) {
                return FIX;
            }
            if (wordIs("learn")) {
                return LEARN;
            }
            return wordIs("size") ? SIZE : UNKNOWN;
        }

        private boolean wordIs(String word) {
            if (wordEnd - wordStart != word.length()) {
                return false;
            }
            for (int i = 0; i < word.length(); i++) {
                if (codes[wordStart + i] != word.charAt(i)) {
                    return false;
                }
            }
            return true;
        }

        private boolean readNames() {
            if (!readSign('a', 'i')) {
                return false;
            }
            first = codes[wordStart] - 'a';
            if (!readSign('a', 'i')) {
                return false;
            }
            second = codes[wordStart] - 'a';
            return true;
        }

        private boolean readDigit(char least) {
            if (!readSign(least, '9')) {
                return false;
            }
            digit = codes[wordStart] - '0';
            return true;
        }

        /** Takes a word that must be one sign of a range; anything else is the text's fault. */
        private boolean readSign(char least, char greatest) {
            takeWord();
            if (wordEnd - wordStart == 1
                    && codes[wordStart] >= least && codes[wordStart] <= greatest) {
                return true;
            }
            faultAt = wordStart;
            return false;
        }

        /** Carries out the command that was read; false if that is not possible. */
        boolean carryOut(Network on) {
            if (kind == SIZE) {
                on.clear(digit);
                return true;
            }
            if (kind == LINK) {
                if (on.refusalOfLink(first, second, digit) != 0) {
                    return false;
                }
                on.appendLink(first, second, digit);
                return true;
            }
            int link = on.findLink(first, second);
            if (link == NO_LINK) {
                return false;
            }
            changeLink(on, link);
            return true;
        }

        private void changeLink(Network on, int link) {
            if (kind == CUT) {
                on.alive = withBit(on.alive, link, 0);
            } else if (kind == FIX) {
                on.alive = withBit(on.alive, link, 1);
            } else {
                on.inMap = withBit(on.inMap, link, bit(on.alive, link));
            }
        }
    }
}

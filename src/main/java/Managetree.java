import java.util.ArrayList;

/**
 * A network manager: a path is written number by number, and the calls put, change, hide, sample
 * and walk over the objects that four agents hold at such paths.
 *
 * A path is held as one int, four bits for each of its places, the first place highest: 0 where
 * the path has ended, else the number plus 1. So the ints are ordered as the paths are, a path
 * ahead of all longer ones that begin with it, and the empty path is 0.
 */
public final class Managetree {
    public static final int NONE = -1;
    public static final int GAUGE = 0, COUNTER = 1;
    public static final int NEITHER = 0, HIDDEN = 1, SHOWN = 2;

    private static final int AGENTS = 4;
    private static final int PORTS = 4;
    private static final int PLACES = 4;
    private static final int PLACE_BITS = 4;
    private static final int PLACE_MASK = 15;
    private static final int EMPTY_PATH = 0;
    private static final int TOP_NUMBER = 9;
    private static final int TOP_VALUE = 999;
    private static final int ROUND = 1000;
    private static final int MOST_OBJECTS = 20;
    private static final int MOST_RULES = 10;
    private static final int MOST_STEPS = 30;
    private static final int MOST_MINUTES = 1000;
    private static final int LAST_MINUTE = 100000;
    private static final int MINUTES_BETWEEN_TRAPS = 10;
    private static final int MINUTES_OF_AN_HOUR = 60;

    private final Agent[] agents;
    private final ArrayList<Trap> sent;
    private final ArrayList<Item> sorted;
    private int written;
    private int clock;

    public Managetree() {
        agents = new Agent[AGENTS];
        for (int agent = 0; agent < AGENTS; agent++) {
            agents[agent] = new Agent();
        }
        sent = new ArrayList<Trap>();
        sorted = new ArrayList<Item>();
        written = EMPTY_PATH;
        clock = 0;
    }

    // ---- the path

    public int write(int number) throws IllegalArgumentException, IllegalStateException {
        if (number < 0 || number > TOP_NUMBER) {
            throw new IllegalArgumentException("number is not 0 to 9");
        }
        int length = lengthOf(written);
        if (length >= PLACES) {
            throw new IllegalStateException("the path has 4 numbers");
        }
        written |= (number + 1) << bitsBehind(length + 1);
        return length + 1;
    }

    public int wipe() {
        int length = lengthOf(written);
        written = EMPTY_PATH;
        return length;
    }

    public int numberAt(int place) throws IndexOutOfBoundsException {
        if (place < 0 || place >= PLACES) {
            throw new IndexOutOfBoundsException("no such place");
        }
        int held = heldAt(written, place);
        return held == 0 ? NONE : held - 1;
    }

    // ---- objects; all of these take the path that is written

    public int put(int agent, int kind, int value)
            throws IndexOutOfBoundsException, IllegalArgumentException, IllegalStateException {
        Agent holder = agentNumbered(agent);
        if (kind != GAUGE && kind != COUNTER) {
            throw new IndexOutOfBoundsException("no such kind");
        }
        checkValue(value);
        if (written == EMPTY_PATH) {
            throw new IllegalStateException("the path is empty");
        }
        Item before = holder.itemAt(written);
        if (before == null && holder.items.size() >= MOST_OBJECTS) {
            throw new IllegalStateException("the agent has 20 other objects");
        }
        holder.takeOut(written);
        holder.items.add(new Item(written, kind, value));
        return valueOf(before);
    }

    public int remove(int agent) throws IndexOutOfBoundsException {
        Agent holder = agentNumbered(agent);
        Item before = holder.itemAt(written);
        holder.takeOut(written);
        return valueOf(before);
    }

    public int change(int agent, int amount)
            throws IndexOutOfBoundsException, IllegalArgumentException, IllegalStateException {
        Agent holder = agentNumbered(agent);
        checkValue(amount);
        Item item = itemNeeded(holder);
        if (item.kind == COUNTER) {
            item.value = (item.value + amount) % ROUND;
        } else {
            item.value = amount;
        }
        compareWithMarks(agent, item);
        return item.value;
    }

    public int get(int agent) throws IndexOutOfBoundsException {
        Agent holder = agentNumbered(agent);
        return holder.hides(written) ? NONE : valueOf(holder.itemAt(written));
    }

    public int next(int agent) throws IndexOutOfBoundsException {
        return valueOf(walkOn(agentNumbered(agent)));
    }

    public int bulk(int agent, int most) throws IndexOutOfBoundsException, IllegalArgumentException {
        Agent holder = agentNumbered(agent);
        if (most < 1 || most > MOST_STEPS) {
            throw new IllegalArgumentException("most is not 1 to 30");
        }
        int walked = 0;
        while (walked < most && walkOn(holder) != null) {
            walked++;
        }
        return walked;
    }

    public int nextBySorting(int agent) throws IndexOutOfBoundsException {
        sortShownOf(agentNumbered(agent));
        return valueOf(firstSortedBehind(written));
    }

    public int hide(int agent, int how) throws IndexOutOfBoundsException, IllegalStateException {
        Agent holder = agentNumbered(agent);
        if (how != NEITHER && how != HIDDEN && how != SHOWN) {
            throw new IndexOutOfBoundsException("no such how");
        }
        int before = holder.ruleOf(written);
        if (before == NEITHER && how != NEITHER && holder.countRules() >= MOST_RULES) {
            throw new IllegalStateException("the agent has 10 other paths that are hidden or shown");
        }
        holder.setRule(written, how);
        return before;
    }

    public int seen(int agent) throws IndexOutOfBoundsException {
        return agentNumbered(agent).countShown();
    }

    public int sample(int agent) throws IndexOutOfBoundsException, IllegalStateException {
        Agent holder = agentNumbered(agent);
        Item item = itemNeeded(holder);
        if (holder.hides(written)) {
            throw new IllegalStateException("the object is hidden");
        }
        item.earlier = item.later;
        item.later = new Sample(clock, item.value, holder.restarts);
        return item.value;
    }

    public int rate(int agent) throws IndexOutOfBoundsException, IllegalStateException {
        Item item = itemNeeded(agentNumbered(agent));
        return item.kind == COUNTER ? rateBetween(item.earlier, item.later) : NONE;
    }

    public void setMarks(int agent, int low, int high)
            throws IndexOutOfBoundsException, IllegalArgumentException, IllegalStateException {
        Agent holder = agentNumbered(agent);
        if (low < 0 || low >= TOP_VALUE || high <= low || high > TOP_VALUE) {
            throw new IllegalArgumentException("low is not 0 to 998, or high is not low + 1 to 999");
        }
        itemNeeded(holder).marks = new Marks(low, high);
    }

    // ---- agents and time

    public int restart(int agent) throws IndexOutOfBoundsException {
        Agent holder = agentNumbered(agent);
        holder.restarts++;
        for (int i = 0; i < holder.items.size(); i++) {
            Item item = holder.items.get(i);
            if (item.kind == COUNTER) {
                item.value = 0;
                compareWithMarks(agent, item);
            }
        }
        return holder.restarts;
    }

    public int pass(int minutes) throws IllegalArgumentException, IllegalStateException {
        if (minutes < 1 || minutes > MOST_MINUTES) {
            throw new IllegalArgumentException("minutes is not 1 to 1000");
        }
        if (clock + minutes > LAST_MINUTE) {
            throw new IllegalStateException("the clock would be above 100000");
        }
        clock += minutes;
        return clock;
    }

    // ---- traps

    public int traps() {
        return sent.size();
    }

    public int trapOf(int trap) throws IndexOutOfBoundsException {
        return trapNumbered(trap).agent;
    }

    public int trapAt(int trap) throws IndexOutOfBoundsException {
        return trapNumbered(trap).minute;
    }

    public int repeats(int trap) throws IndexOutOfBoundsException {
        return trapNumbered(trap).repeated;
    }

    // ---- neighbours

    public int setNeighbour(int agent, int port, int other)
            throws IndexOutOfBoundsException, IllegalArgumentException {
        Agent namer = agentNumbered(agent);
        if (port < 0 || port >= PORTS) {
            throw new IndexOutOfBoundsException("no such port");
        }
        if (other != NONE && (other < 0 || other >= AGENTS)) {
            throw new IndexOutOfBoundsException("no such other agent");
        }
        if (agent == other) {
            throw new IllegalArgumentException("both agents are the same");
        }
        int before = namer.neighbours[port];
        namer.neighbours[port] = other;
        return before;
    }

    public int reach(int agent) throws IndexOutOfBoundsException {
        agentNumbered(agent);
        int reached = 1 << agent;
        for (int step = 1; step < AGENTS; step++) {
            reached = withLinksOf(reached);
        }
        return reached;
    }

    public int halves() {
        int count = 0;
        for (int one = 0; one < AGENTS; one++) {
            for (int other = one + 1; other < AGENTS; other++) {
                if (names(one, other) != names(other, one)) {
                    count++;
                }
            }
        }
        return count;
    }

    // ---- what the calls share

    private Agent agentNumbered(int agent) {
        if (agent < 0 || agent >= AGENTS) {
            throw new IndexOutOfBoundsException("no such agent");
        }
        return agents[agent];
    }

    private Trap trapNumbered(int trap) {
        if (trap < 0 || trap >= sent.size()) {
            throw new IndexOutOfBoundsException("no such trap");
        }
        return sent.get(trap);
    }

    private Item itemNeeded(Agent holder) {
        Item item = holder.itemAt(written);
        if (item == null) {
            throw new IllegalStateException("there is no object");
        }
        return item;
    }

    private static void checkValue(int value) {
        if (value < 0 || value > TOP_VALUE) {
            throw new IllegalArgumentException("not 0 to 999");
        }
    }

    private static int valueOf(Item item) {
        return item == null ? NONE : item.value;
    }

    private static int bitsBehind(int length) {
        return PLACE_BITS * (PLACES - length);
    }

    private static int heldAt(int path, int place) {
        return (path >> bitsBehind(place + 1)) & PLACE_MASK;
    }

    private static int lengthOf(int path) {
        int length = 0;
        while (length < PLACES && heldAt(path, length) != 0) {
            length++;
        }
        return length;
    }

    private static int headOf(int path, int length) {
        int bits = bitsBehind(length);
        return (path >> bits) << bits;
    }

    private Item walkOn(Agent holder) {
        Item found = holder.firstShownBehind(written);
        if (found != null) {
            written = found.path;
        }
        return found;
    }

    private void sortShownOf(Agent holder) {
        sorted.clear();
        for (int i = 0; i < holder.items.size(); i++) {
            Item item = holder.items.get(i);
            if (!holder.hides(item.path)) {
                sorted.add(countSortedAhead(item.path), item);
            }
        }
    }

    private int countSortedAhead(int path) {
        int count = 0;
        while (count < sorted.size() && sorted.get(count).path < path) {
            count++;
        }
        return count;
    }

    private Item firstSortedBehind(int path) {
        for (int i = 0; i < sorted.size(); i++) {
            Item item = sorted.get(i);
            if (item.path > path) {
                return item;
            }
        }
        return null;
    }

    private static int rateBetween(Sample earlier, Sample later) {
        if (earlier == null || later == null || earlier.restarts != later.restarts) {
            return NONE;
        }
        int minutes = later.minute - earlier.minute;
        if (minutes <= 0) {
            return NONE;
        }
        int more = later.value - earlier.value;
        if (more < 0) {
            more += ROUND;
        }
        return more * MINUTES_OF_AN_HOUR / minutes;
    }

    private void compareWithMarks(int agent, Item item) {
        if (item.marks != null && item.marks.fireAt(item.value)) {
            sendOrRepeat(agent, item.path);
        }
    }

    private void sendOrRepeat(int agent, int path) {
        Trap last = lastTrapOf(agent, path);
        if (last != null && clock - last.minute < MINUTES_BETWEEN_TRAPS) {
            last.repeated++;
        } else {
            sent.add(new Trap(agent, path, clock));
        }
    }

    private Trap lastTrapOf(int agent, int path) {
        for (int i = sent.size() - 1; i >= 0; i--) {
            Trap trap = sent.get(i);
            if (trap.agent == agent && trap.path == path) {
                return trap;
            }
        }
        return null;
    }

    private boolean names(int one, int other) {
        return agentNumbered(one).hasNeighbour(other);
    }

    private int withLinksOf(int set) {
        int wider = set;
        for (int one = 0; one < AGENTS; one++) {
            for (int other = 0; other < AGENTS; other++) {
                if (((set >> one) & 1) == 1 && names(one, other) && names(other, one)) {
                    wider |= 1 << other;
                }
            }
        }
        return wider;
    }

    /** An agent: its objects, its rules for hiding, its neighbours and how often it restarted. */
    private static final class Agent {
        final ArrayList<Item> items;
        final int[] rulePaths;
        final int[] rules;
        final int[] neighbours;
        int restarts;

        Agent() {
            items = new ArrayList<Item>();
            rulePaths = new int[MOST_RULES];
            rules = new int[MOST_RULES];
            neighbours = new int[PORTS];
            for (int port = 0; port < PORTS; port++) {
                neighbours[port] = NONE;
            }
            restarts = 0;
        }

        Item itemAt(int path) {
            for (int i = 0; i < items.size(); i++) {
                Item item = items.get(i);
                if (item.path == path) {
                    return item;
                }
            }
            return null;
        }

        void takeOut(int path) {
            for (int i = items.size() - 1; i >= 0; i--) {
                if (items.get(i).path == path) {
                    items.remove(i);
                }
            }
        }

        Item firstShownBehind(int path) {
            Item first = null;
            for (int i = 0; i < items.size(); i++) {
                Item item = items.get(i);
                boolean better = item.path > path && (first == null || item.path < first.path);
                if (better && !hides(item.path)) {
                    first = item;
                }
            }
            return first;
        }

        int countShown() {
            int count = 0;
            for (int i = 0; i < items.size(); i++) {
                if (!hides(items.get(i).path)) {
                    count++;
                }
            }
            return count;
        }

        boolean hides(int path) {
            for (int length = PLACES; length >= 0; length--) {
                int rule = ruleOf(headOf(path, length));
                if (rule != NEITHER) {
                    return rule == HIDDEN;
                }
            }
            return false;
        }

        // A slot whose rule is NEITHER is free, whatever path it names.
        int ruleOf(int path) {
            for (int slot = 0; slot < MOST_RULES; slot++) {
                if (rules[slot] != NEITHER && rulePaths[slot] == path) {
                    return rules[slot];
                }
            }
            return NEITHER;
        }

        int countRules() {
            int count = 0;
            for (int slot = 0; slot < MOST_RULES; slot++) {
                if (rules[slot] != NEITHER) {
                    count++;
                }
            }
            return count;
        }

        void setRule(int path, int how) {
            int free = NONE;
            for (int slot = 0; slot < MOST_RULES; slot++) {
                if (rules[slot] != NEITHER && rulePaths[slot] == path) {
                    rules[slot] = NEITHER;
                }
                if (rules[slot] == NEITHER) {
                    free = slot;
                }
            }
            if (free >= 0 && free < MOST_RULES) {
                rulePaths[free] = path;
                rules[free] = how;
            }
        }

        boolean hasNeighbour(int agent) {
            for (int port = 0; port < PORTS; port++) {
                if (neighbours[port] == agent) {
                    return true;
                }
            }
            return false;
        }
    }

    /** An object of an agent; it has no marks, and not yet samples, where these are null. */
    private static final class Item {
        final int path;
        final int kind;
        int value;
        Marks marks;
        Sample earlier;
        Sample later;

        Item(int path, int kind, int value) {
            this.path = path;
            this.kind = kind;
            this.value = value;
            marks = null;
            earlier = null;
            later = null;
        }
    }

    /** The low and the high mark of an object, and whether it is armed. */
    private static final class Marks {
        final int low;
        final int high;
        boolean armed;

        Marks(int low, int high) {
            this.low = low;
            this.high = high;
            armed = true;
        }

        boolean fireAt(int value) {
            if (armed && value >= high) {
                armed = false;
                return true;
            }
            if (value <= low) {
                armed = true;
            }
            return false;
        }
    }

    /** What was noted of an object when a sample was taken. */
    private static final class Sample {
        final int minute;
        final int value;
        final int restarts;

        Sample(int minute, int value, int restarts) {
            this.minute = minute;
            this.value = value;
            this.restarts = restarts;
        }
    }

    /** A trap that was sent, and how many repeats it counts. */
    private static final class Trap {
        final int agent;
        final int path;
        final int minute;
        int repeated;

        Trap(int agent, int path, int minute) {
            this.agent = agent;
            this.path = path;
            this.minute = minute;
            repeated = 0;
        }
    }
}

import java.util.ArrayList;
import java.util.List;
import java.util.Map;
import java.util.Random;
import java.util.TreeMap;

/**
 * Long runs of calls from fixed seeds; each answer is compared with that of a plainer program,
 * which holds paths as texts and objects in sorted maps.
 */
public final class ModelTest {
    private static final int RUNS = 4000;
    private static final int CALLS = 512;
    private static final int MOST_TOLD = 10;
    private static final String[] NAMES = {
        "write", "wipe", "numberAt", "put", "remove", "change", "get", "next", "bulk", "nextBySorting", "hide",
        "seen", "sample", "rate", "setMarks", "restart", "pass", "traps", "trapOf", "trapAt", "repeats",
        "setNeighbour", "reach", "halves"};
    // How often each of the calls is made, for runs of several kinds.
    private static final int[][] WEIGHTS = {
        {6, 3, 2, 4, 2, 4, 3, 3, 2, 2, 3, 2, 3, 3, 3, 1, 2, 1, 1, 1, 1, 2, 1, 1},
        {30, 10, 1, 25, 2, 2, 2, 5, 2, 5, 12, 4, 1, 1, 1, 0, 0, 0, 0, 0, 0, 0, 0, 0},
        {2, 1, 0, 2, 0, 30, 0, 3, 1, 0, 0, 0, 0, 0, 6, 2, 6, 3, 2, 2, 4, 0, 0, 0},
        {2, 1, 0, 2, 0, 12, 0, 3, 0, 0, 1, 0, 20, 20, 0, 2, 8, 0, 0, 0, 0, 0, 0, 0},
        {1, 1, 0, 1, 0, 1, 0, 1, 0, 0, 1, 0, 0, 0, 1, 0, 40, 1, 0, 0, 0, 20, 8, 8},
        {20, 10, 2, 10, 6, 1, 8, 8, 4, 8, 20, 8, 1, 1, 0, 0, 0, 0, 0, 0, 0, 0, 0, 0},
    };

    public static void main(String[] args) {
        int wrong = 0;
        long compared = 0;
        for (int run = 0; run < RUNS && wrong < MOST_TOLD; run++) {
            Random random = new Random(run);
            Managetree made = new Managetree();
            Model model = new Model();
            int[] weights = WEIGHTS[run % WEIGHTS.length];
            model.hurries = run % WEIGHTS.length == 4;
            for (int call = 0; call < CALLS; call++) {
                int which = choose(random, weights);
                int[] with = arguments(random, which, model);
                String want = answer(model, which, with);
                String got = answer(made, which, with);
                compared++;
                if (!want.equals(got)) {
                    wrong++;
                    System.out.println("run " + run + ", call " + call + ": " + NAMES[which] + "(" + with[0] + ", "
                            + with[1] + ", " + with[2] + ") answered " + got + ", due is " + want);
                    break;
                }
            }
        }
        System.out.println(compared + " calls compared, " + (wrong == 0 ? "all as due" : wrong + " runs failed"));
        if (wrong != 0) {
            System.exit(1);
        }
    }

    private static int choose(Random random, int[] weights) {
        int total = 0;
        for (int weight : weights) {
            total += weight;
        }
        int at = random.nextInt(total);
        int which = 0;
        while (at >= weights[which]) {
            at -= weights[which];
            which++;
        }
        return which;
    }

    private static int[] arguments(Random random, int which, Model model) {
        int agent = random.nextInt(3) == 0 ? upTo(random, 3) : 1;
        switch (NAMES[which]) {
            case "write": return three(random.nextInt(4) == 0 ? upTo(random, 9) : random.nextInt(3), 0, 0);
            case "numberAt": return three(upTo(random, 3), 0, 0);
            case "put": return three(agent, upTo(random, 1), upTo(random, 999));
            case "change": return three(agent, random.nextInt(3) == 0 ? upTo(random, 20) : upTo(random, 999), 0);
            case "bulk": return three(agent, random.nextInt(4) == 0 ? upTo(random, 30) + 1 : random.nextInt(4), 0);
            case "hide": return three(agent, upTo(random, 2), 0);
            case "setMarks": return marks(random, agent);
            case "pass": return three(minutes(random, model), 0, 0);
            case "trapOf": case "trapAt": case "repeats": return three(upTo(random, model.traps.size()), 0, 0);
            case "setNeighbour": return three(upTo(random, 3), upTo(random, 3), upTo(random, 4) - 1);
            default: return three(agent, 0, 0);
        }
    }

    private static int[] marks(Random random, int agent) {
        int low = upTo(random, 500);
        int high = random.nextInt(10) == 0 ? low : low + upTo(random, 500);
        return three(agent, low, high);
    }

    // In some runs the clock goes up to its end.
    private static int minutes(Random random, Model model) {
        if (model.hurries && random.nextInt(8) != 0) {
            return model.clock < 99000 ? 700 + random.nextInt(301) : random.nextInt(2 + 100000 - model.clock);
        }
        return random.nextInt(3) == 0 ? upTo(random, 1000) : random.nextInt(12);
    }

    private static int[] three(int a, int b, int c) {
        return new int[] {a, b, c};
    }

    // Mostly 0 to most, at times an edge of it or something outside it.
    private static int upTo(Random random, int most) {
        switch (random.nextInt(40)) {
            case 0: return -1;
            case 1: return most + 1;
            case 2: return Integer.MAX_VALUE;
            case 3: return Integer.MIN_VALUE;
            case 4: return most;
            case 5: return 0;
            case 6: return random.nextInt();
            default: return random.nextInt(most + 1);
        }
    }

    private static String answer(Managetree x, int which, int[] with) {
        int a = with[0];
        int b = with[1];
        int c = with[2];
        try {
            switch (NAMES[which]) {
                case "write": return "" + x.write(a);
                case "wipe": return "" + x.wipe();
                case "numberAt": return "" + x.numberAt(a);
                case "put": return "" + x.put(a, b, c);
                case "remove": return "" + x.remove(a);
                case "change": return "" + x.change(a, b);
                case "get": return "" + x.get(a);
                case "next": return "" + x.next(a);
                case "bulk": return "" + x.bulk(a, b);
                case "nextBySorting": return "" + x.nextBySorting(a);
                case "hide": return "" + x.hide(a, b);
                case "seen": return "" + x.seen(a);
                case "sample": return "" + x.sample(a);
                case "rate": return "" + x.rate(a);
                case "setMarks": x.setMarks(a, b, c); return "nothing";
                case "restart": return "" + x.restart(a);
                case "pass": return "" + x.pass(a);
                case "traps": return "" + x.traps();
                case "trapOf": return "" + x.trapOf(a);
                case "trapAt": return "" + x.trapAt(a);
                case "repeats": return "" + x.repeats(a);
                case "setNeighbour": return "" + x.setNeighbour(a, b, c);
                case "reach": return "" + x.reach(a);
                default: return "" + x.halves();
            }
        } catch (RuntimeException e) {
            boolean ownThrow = e.getStackTrace()[0].getClassName().startsWith("Managetree");
            return "throws." + e.getClass().getSimpleName() + (ownThrow ? "" : " that was not thrown by the class");
        }
    }

    private static String answer(Model x, int which, int[] with) {
        String refused = x.refusal(NAMES[which], with[0], with[1], with[2]);
        return refused != null ? "throws." + refused : x.allowed(NAMES[which], with[0], with[1], with[2]);
    }

    private static final class Thing {
        boolean counter;
        int value;
        int low = -1;
        int high = -1;
        boolean armed;
        final List<int[]> samples = new ArrayList<>();
    }

    private static final class Model {
        String path = "";
        int clock;
        boolean hurries;
        final List<TreeMap<String, Thing>> things = new ArrayList<>();
        final List<TreeMap<String, Integer>> veils = new ArrayList<>();
        final int[] restarts = new int[4];
        final int[][] ports = new int[4][4];
        final List<int[]> traps = new ArrayList<>();
        final Map<String, int[]> lastTraps = new TreeMap<>();

        Model() {
            for (int agent = 0; agent < 4; agent++) {
                things.add(new TreeMap<>());
                veils.add(new TreeMap<>());
                for (int port = 0; port < 4; port++) {
                    ports[agent][port] = -1;
                }
            }
        }

        static boolean out(int number, int from, int to) {
            return number < from || number > to;
        }

        String refusal(String call, int a, int b, int c) {
            String bounds = "IndexOutOfBoundsException";
            String argument = "IllegalArgumentException";
            String state = "IllegalStateException";
            switch (call) {
                case "write": return out(a, 0, 9) ? argument : path.length() == 4 ? state : null;
                case "pass": return out(a, 1, 1000) ? argument : clock + a > 100000 ? state : null;
                case "numberAt": return out(a, 0, 3) ? bounds : null;
                case "trapOf": case "trapAt": case "repeats": return out(a, 0, traps.size() - 1) ? bounds : null;
                case "wipe": case "traps": case "halves": return null;
                default:
            }
            if (out(a, 0, 3)) {
                return bounds;
            }
            Thing thing = things.get(a).get(path);
            boolean another = !things.get(a).containsKey(path) && things.get(a).size() == 20;
            boolean tooMany = !veils.get(a).containsKey(path) && veils.get(a).size() == 10;
            switch (call) {
                case "put":
                    return out(b, 0, 1) ? bounds : out(c, 0, 999) ? argument
                            : path.isEmpty() || another ? state : null;
                case "change": return out(b, 0, 999) ? argument : thing == null ? state : null;
                case "bulk": return out(b, 1, 30) ? argument : null;
                case "hide": return out(b, 0, 2) ? bounds : b != 0 && tooMany ? state : null;
                case "sample": return thing == null || hidden(a, path) ? state : null;
                case "rate": return thing == null ? state : null;
                case "setMarks":
                    return out(b, 0, 998) || out(c, b + 1, 999) ? argument : thing == null ? state : null;
                case "setNeighbour": return out(b, 0, 3) || out(c, -1, 3) ? bounds : a == c ? argument : null;
                default: return null;
            }
        }

        String allowed(String call, int a, int b, int c) {
            switch (call) {
                case "write": path += a; return "" + path.length();
                case "wipe": int length = path.length(); path = ""; return "" + length;
                case "numberAt": return a < path.length() ? path.substring(a, a + 1) : "-1";
                case "put": return put(a, b, c);
                case "remove": return value(things.get(a).remove(path));
                case "change": return change(a, b);
                case "get": return hidden(a, path) ? "-1" : value(things.get(a).get(path));
                case "next": return walk(a);
                case "bulk": int walked = 0; while (walked < b && !walk(a).equals("-1")) walked++; return "" + walked;
                case "nextBySorting": String kept = path; String told = walk(a); path = kept; return told;
                case "hide": Integer how = b == 0 ? veils.get(a).remove(path) : veils.get(a).put(path, b);
                    return "" + (how == null ? 0 : how);
                case "seen": return "" + things.get(a).keySet().stream().filter(p -> !hidden(a, p)).count();
                case "sample": return sample(a);
                case "rate": return rate(things.get(a).get(path));
                case "setMarks": Thing thing = things.get(a).get(path);
                    thing.low = b; thing.high = c; thing.armed = true; return "nothing";
                case "restart": return restart(a);
                case "pass": clock += a; return "" + clock;
                case "traps": return "" + traps.size();
                case "trapOf": return "" + traps.get(a)[0];
                case "trapAt": return "" + traps.get(a)[1];
                case "repeats": return "" + traps.get(a)[2];
                case "setNeighbour": int before = ports[a][b]; ports[a][b] = c; return "" + before;
                case "reach": return "" + reach(a, 0);
                default: return "" + halves();
            }
        }

        static String value(Thing thing) {
            return thing == null ? "-1" : "" + thing.value;
        }

        boolean hidden(int agent, String of) {
            String longest = null;
            for (String head : veils.get(agent).keySet()) {
                if (of.startsWith(head) && (longest == null || head.length() > longest.length())) {
                    longest = head;
                }
            }
            return longest != null && veils.get(agent).get(longest) == 1;
        }

        String put(int agent, int kind, int value) {
            Thing thing = new Thing();
            thing.counter = kind == 1;
            thing.value = value;
            return value(things.get(agent).put(path, thing));
        }

        String change(int agent, int amount) {
            Thing thing = things.get(agent).get(path);
            thing.value = thing.counter ? (thing.value + amount) % 1000 : amount;
            noteValue(agent, path, thing);
            return value(thing);
        }

        void noteValue(int agent, String of, Thing thing) {
            if (thing.high < 0) {
                return;
            }
            if (!thing.armed) {
                thing.armed = thing.value <= thing.low;
            } else if (thing.value >= thing.high) {
                thing.armed = false;
                String key = agent + ":" + of;
                int[] last = lastTraps.get(key);
                if (last != null && clock < last[1] + 10) {
                    last[2]++;
                } else {
                    int[] trap = {agent, clock, 0};
                    traps.add(trap);
                    lastTraps.put(key, trap);
                }
            }
        }

        String walk(int agent) {
            for (Map.Entry<String, Thing> entry : things.get(agent).tailMap(path, false).entrySet()) {
                if (!hidden(agent, entry.getKey())) {
                    path = entry.getKey();
                    return value(entry.getValue());
                }
            }
            return "-1";
        }

        String sample(int agent) {
            Thing thing = things.get(agent).get(path);
            thing.samples.add(new int[] {clock, thing.value, restarts[agent]});
            return value(thing);
        }

        static String rate(Thing thing) {
            int count = thing.samples.size();
            if (!thing.counter || count < 2) {
                return "-1";
            }
            int[] one = thing.samples.get(count - 2);
            int[] two = thing.samples.get(count - 1);
            if (one[0] == two[0] || one[2] != two[2]) {
                return "-1";
            }
            return "" + (two[1] - one[1] + 1000) % 1000 * 60 / (two[0] - one[0]);
        }

        String restart(int agent) {
            for (Map.Entry<String, Thing> entry : things.get(agent).entrySet()) {
                if (entry.getValue().counter) {
                    entry.getValue().value = 0;
                    noteValue(agent, entry.getKey(), entry.getValue());
                }
            }
            return "" + ++restarts[agent];
        }

        boolean names(int one, int other) {
            return ports[one][0] == other || ports[one][1] == other || ports[one][2] == other || ports[one][3] == other;
        }

        int reach(int agent, int seen) {
            int set = seen | 1 << agent;
            for (int other = 0; other < 4; other++) {
                if ((set >> other & 1) == 0 && names(agent, other) && names(other, agent)) {
                    set = reach(other, set);
                }
            }
            return set;
        }

        int halves() {
            int count = 0;
            for (int one = 0; one < 4; one++) {
                for (int other = 0; other < 4; other++) {
                    count += names(one, other) && !names(other, one) ? 1 : 0;
                }
            }
            return count;
        }
    }
}

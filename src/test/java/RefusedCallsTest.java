import java.util.Arrays;

/**
 * "A call that throws an exception changes nothing; if several exceptions apply, the one that its
 * throws clause names first is thrown." Each refused call is made on one of two managers that were
 * made alike; then both must answer alike whatever they are asked.
 */
public final class RefusedCallsTest extends Checks {
    private interface Call {
        Object on(Managetree x);
    }

    private static final int NEW = 0;
    private static final int USED = 1;
    private static final int FULL = 2;
    private static final int ENDED = 3;
    private static final int LAST_KIND = 3;

    private static final int[][] HIDING_PATHS = {
        {2}, {3}, {4}, {1, 0}, {1, 1}, {1, 2}, {1, 9}, {0}, {9, 9, 9, 8}, {9, 9, 9, 9}};

    public static void main(String[] args) {
        theStateTellsEachChange();
        oneException();
        refusedWrites();
        refusedPuts();
        refusedChanges();
        refusedWalks();
        refusedHides();
        refusedSamplesAndRates();
        refusedMarks();
        refusedPasses();
        refusedTraps();
        refusedNeighbours();
        end();
    }

    // ---- managers to be asked

    private static Managetree made(int kind, int... path) {
        Managetree x = new Managetree();
        if (kind == USED || kind == FULL) {
            use(x);
        }
        if (kind == FULL) {
            fill(x);
        }
        if (kind == ENDED) {
            for (int i = 0; i < 100; i++) {
                x.pass(1000);
            }
        }
        path(x, path);
        return x;
    }

    // The counter at 1 of agent 0 has two samples, marks, and a trap that counts a repeat.
    private static void use(Managetree x) {
        x.restart(0);
        path(x, 1);
        x.put(0, COUNTER, 0);
        x.sample(0);
        x.pass(7);
        x.setMarks(0, 20, 100);
        x.change(0, 120);
        x.setMarks(0, 20, 100);
        x.change(0, 1);
        x.sample(0);
        x.put(1, GAUGE, 55);
        x.sample(1);
        x.setMarks(1, 20, 60);
        path(x, 8);
        x.put(0, COUNTER, 300);
        x.hide(0, HIDDEN);
        path(x, 9);
        x.put(0, GAUGE, 301);
        x.setNeighbour(0, 1, 2);
        x.setNeighbour(2, 0, 0);
        x.setNeighbour(3, 3, 2);
        x.pass(4);
    }

    // Agent 0 then has 20 objects, and 10 other paths than 1 and the empty one are hidden or shown.
    private static void fill(Managetree x) {
        path(x, 8);
        x.hide(0, NEITHER);
        for (int i = 0; i < 17; i++) {
            path(x, 1, i / 2, i % 2);
            x.put(0, i % 2, 400 + i);
        }
        for (int i = 0; i < 10; i++) {
            path(x, HIDING_PATHS[i]);
            x.hide(0, i % 2 == 0 ? HIDDEN : SHOWN);
        }
    }

    // ---- what can be asked of them; the questions change them, alike

    private static String state(Managetree x) {
        StringBuilder told = new StringBuilder();
        tellPath(told, x);
        tellTraps(told, x);
        tell(told, "clock", x::pass, 1);
        tellNeighbours(told, x);
        tellHiding(told, x);
        tellObjects(told, x);
        tellSamplesAndMarks(told, x);
        for (int agent = 0; agent < 4; agent++) {
            told.append(" restarts ").append(x.restart(agent));
        }
        return told.toString();
    }

    private interface Question {
        int answer(int with);
    }

    private static void tell(StringBuilder told, String what, Question question, int with) {
        int[] answer = {0};
        String thrown = nameOfThrown(() -> answer[0] = question.answer(with));
        told.append(' ').append(what).append(' ').append(thrown.equals("nothing") ? "" + answer[0] : thrown);
    }

    private static void tellPath(StringBuilder told, Managetree x) {
        for (int place = 0; place < 4; place++) {
            told.append('.').append(x.numberAt(place));
        }
        told.append(" numbers ").append(x.wipe());
    }

    private static void tellTraps(StringBuilder told, Managetree x) {
        int traps = x.traps();
        told.append(" traps ").append(traps);
        for (int trap = 0; trap < traps; trap++) {
            told.append(' ').append(x.trapOf(trap)).append('@').append(x.trapAt(trap)).append('*').append(x.repeats(trap));
        }
    }

    private static void tellNeighbours(StringBuilder told, Managetree x) {
        told.append(" halves ").append(x.halves());
        for (int agent = 0; agent < 4; agent++) {
            told.append(" reach ").append(x.reach(agent)).append(':');
            for (int port = 0; port < 4; port++) {
                told.append(' ').append(x.setNeighbour(agent, port, NONE));
            }
        }
    }

    private static void tellHiding(StringBuilder told, Managetree x) {
        for (int agent = 0; agent < 4; agent++) {
            told.append(" seen ").append(x.seen(agent)).append(" all ").append(x.hide(agent, NEITHER));
        }
        for (int[] path : new int[][] {{8}, {1}}) {
            path(x, path);
            told.append(" hiding ").append(x.hide(0, NEITHER)).append(x.hide(1, NEITHER));
        }
        for (int[] path : HIDING_PATHS) {
            path(x, path);
            told.append(' ').append(x.hide(0, NEITHER));
        }
    }

    private static void tellObjects(StringBuilder told, Managetree x) {
        for (int agent = 0; agent < 4; agent++) {
            x.wipe();
            told.append(" objects ").append(x.seen(agent)).append(':');
            int value = x.next(agent);
            for (int count = 0; value != NONE && count < 21; count++) {
                told.append(' ').append(value).append(" at ").append(x.numberAt(0)).append(x.numberAt(1));
                value = x.next(agent);
            }
        }
    }

    private static void tellSamplesAndMarks(StringBuilder told, Managetree x) {
        for (int[] path : new int[][] {{8}, {1}}) {
            path(x, path);
            for (int agent = 0; agent < 2; agent++) {
                tell(told, "rate", x::rate, agent);
                tell(told, "sample", x::sample, agent);
                tell(told, "rate", x::rate, agent);
                tellMarks(told, x, agent);
            }
        }
    }

    // The values lie round the marks that these managers have.
    private static void tellMarks(StringBuilder told, Managetree x, int agent) {
        int value = x.get(agent);
        if (value == NONE) {
            return;
        }
        for (int aim : new int[] {59, 60, 99, 100, 21, 999, 20, 59, 60, 99, 100}) {
            value = x.change(agent, agent == 0 ? Math.floorMod(aim - value, 1000) : aim);
            told.append(" changed ").append(value);
            if (aim == 60 || aim == 999) {
                tellTraps(told, x);
            }
        }
        tellTraps(told, x);
    }

    // ---- the checks

    private static void theStateTellsEachChange() {
        about("the state that this test compares");
        Call[] changes = {x -> x.write(5), x -> x.wipe(), x -> x.put(0, COUNTER, 120), x -> x.put(0, COUNTER, 121),
            x -> x.put(3, GAUGE, 1), x -> x.remove(0), x -> x.change(0, 1), x -> x.next(0), x -> x.bulk(0, 1),
            x -> x.hide(0, HIDDEN), x -> x.hide(0, SHOWN), x -> x.hide(1, SHOWN), x -> x.sample(0),
            x -> marks(x, 0, 20, 900), x -> marks(x, 0, 19, 100), x -> marks(x, 1, 20, 61),
            x -> x.restart(0), x -> x.restart(3), x -> x.pass(1), x -> x.setNeighbour(0, 1, NONE),
            x -> x.setNeighbour(3, 2, 2), x -> x.setNeighbour(1, 0, 0)};
        String before = state(made(USED, 1));
        due("made alike, it is alike", before, state(made(USED, 1)));
        due("a hidden object's sample", "true", "" + !state(made(USED, 8)).equals(state(sampledAt8())));
        for (int i = 0; i < changes.length; i++) {
            Managetree x = made(USED, 1);
            changes[i].on(x);
            due("change " + i + " is told", "true", "" + !before.equals(state(x)));
        }
    }

    private static Managetree sampledAt8() {
        Managetree x = made(USED, 8);
        x.hide(0, NEITHER);
        x.sample(0);
        x.hide(0, HIDDEN);
        return x;
    }

    // The call is refused so by a manager of this kind on which this path is written.
    private static void refused(String want, int kind, int[] path, Call call) {
        Managetree kept = made(kind, path);
        Managetree tried = made(kind, path);
        String what = "manager " + kind + ", path " + Arrays.toString(path);
        thrown(what, want, () -> call.on(tried));
        thrown(what + ", again", want, () -> call.on(tried));
        due(what + ", state", state(kept), state(tried));
    }

    private static void refusedByAll(String want, Call call) {
        for (int kind = NEW; kind <= LAST_KIND; kind++) {
            for (int[] path : new int[][] {{}, {1}, {8}, {9, 9, 9, 9}}) {
                refused(want, kind, path, call);
            }
        }
    }

    private static void oneException() {
        about("A call that throws an exception changes nothing (no such agent)");
        for (int agent : new int[] {-1, 4}) {
            refusedByAll(BOUNDS, x -> x.put(agent, GAUGE, 1));
            refusedByAll(BOUNDS, x -> x.remove(agent));
            refusedByAll(BOUNDS, x -> x.change(agent, 1));
            refusedByAll(BOUNDS, x -> x.get(agent));
            refusedByAll(BOUNDS, x -> x.next(agent));
            refusedByAll(BOUNDS, x -> x.bulk(agent, 1));
            refusedByAll(BOUNDS, x -> x.nextBySorting(agent));
            refusedByAll(BOUNDS, x -> x.hide(agent, HIDDEN));
            refusedByAll(BOUNDS, x -> x.seen(agent));
            refusedByAll(BOUNDS, x -> x.sample(agent));
            refusedByAll(BOUNDS, x -> x.rate(agent));
            refusedByAll(BOUNDS, x -> marks(x, agent, 0, 1));
            refusedByAll(BOUNDS, x -> x.restart(agent));
            refusedByAll(BOUNDS, x -> x.setNeighbour(agent, 0, 1));
            refusedByAll(BOUNDS, x -> x.reach(agent));
        }
        about("A call that throws an exception changes nothing (no such place)");
        refusedByAll(BOUNDS, x -> x.numberAt(-1));
        refusedByAll(BOUNDS, x -> x.numberAt(4));
    }

    private static void refusedWrites() {
        about("write throws IllegalArgumentException, IllegalStateException");
        refusedByAll(ARGUMENT, x -> x.write(-1));
        refusedByAll(ARGUMENT, x -> x.write(10));
        refused(STATE, NEW, new int[] {9, 9, 9, 9}, x -> x.write(9));
        refused(STATE, NEW, new int[] {0, 0, 0, 0}, x -> x.write(0));
        refused(STATE, FULL, new int[] {1, 0, 0, 1}, x -> x.write(3));
    }

    private static void refusedPuts() {
        about("put throws IndexOutOfBoundsException, IllegalArgumentException, IllegalStateException");
        refusedByAll(BOUNDS, x -> x.put(4, COUNTER, 1000));
        refusedByAll(BOUNDS, x -> x.put(-1, 2, -1));
        refusedByAll(BOUNDS, x -> x.put(0, -1, 1));
        refusedByAll(BOUNDS, x -> x.put(0, 2, 1000));
        refusedByAll(ARGUMENT, x -> x.put(0, GAUGE, -1));
        refusedByAll(ARGUMENT, x -> x.put(0, COUNTER, 1000));
        for (int kind = NEW; kind <= LAST_KIND; kind++) {
            refused(STATE, kind, new int[] {}, x -> x.put(0, COUNTER, 5));
            refused(STATE, kind, new int[] {}, x -> x.put(3, GAUGE, 0));
        }
        refused(STATE, FULL, new int[] {5}, x -> x.put(0, COUNTER, 5));
        refused(STATE, FULL, new int[] {9, 9, 9, 9}, x -> x.put(0, GAUGE, 5));
        refused(STATE, FULL, new int[] {1, 0}, x -> x.put(0, GAUGE, 5));
    }

    private static void refusedChanges() {
        about("change throws IndexOutOfBoundsException, IllegalArgumentException, IllegalStateException");
        refusedByAll(BOUNDS, x -> x.change(4, 1000));
        refusedByAll(ARGUMENT, x -> x.change(0, -1));
        refusedByAll(ARGUMENT, x -> x.change(0, 1000));
        refusedByAll(ARGUMENT, x -> x.change(1, 1000));
        refusedByAll(STATE, x -> x.change(3, 5));
        refused(STATE, FULL, new int[] {}, x -> x.change(0, 500));
        refused(STATE, FULL, new int[] {1, 1}, x -> x.change(0, 500));
        refused(STATE, USED, new int[] {1, 0}, x -> x.change(0, 500));
    }

    private static void refusedWalks() {
        about("bulk throws IndexOutOfBoundsException, IllegalArgumentException");
        refusedByAll(BOUNDS, x -> x.bulk(4, 0));
        refusedByAll(BOUNDS, x -> x.bulk(-1, 31));
        refusedByAll(ARGUMENT, x -> x.bulk(0, 0));
        refusedByAll(ARGUMENT, x -> x.bulk(0, 31));
        refusedByAll(ARGUMENT, x -> x.bulk(0, -1));
    }

    private static void refusedHides() {
        about("hide throws IndexOutOfBoundsException, IllegalStateException");
        refusedByAll(BOUNDS, x -> x.hide(0, -1));
        refusedByAll(BOUNDS, x -> x.hide(0, 3));
        for (int[] path : new int[][] {{}, {1}, {8}, {9}, {9, 9, 9, 7}, {1, 2, 3}}) {
            refused(STATE, FULL, path, x -> x.hide(0, HIDDEN));
            refused(STATE, FULL, path, x -> x.hide(0, SHOWN));
            refused(BOUNDS, FULL, path, x -> x.hide(0, 3));
        }
    }

    private static void refusedSamplesAndRates() {
        about("sample and rate throw IndexOutOfBoundsException, IllegalStateException");
        refusedByAll(STATE, x -> x.sample(3));
        refusedByAll(STATE, x -> x.rate(3));
        refused(STATE, USED, new int[] {8}, x -> x.sample(0));
        refused(STATE, USED, new int[] {8, 1}, x -> x.sample(0));
        refused(STATE, USED, new int[] {8, 1}, x -> x.rate(0));
        refused(STATE, FULL, new int[] {1, 1, 0}, x -> x.sample(0));
        refused(STATE, FULL, new int[] {}, x -> x.sample(0));
        refused(STATE, FULL, new int[] {}, x -> x.rate(0));
    }

    private static void refusedMarks() {
        about("setMarks throws IndexOutOfBoundsException, IllegalArgumentException, IllegalStateException");
        refusedByAll(BOUNDS, x -> marks(x, 4, -1, 1000));
        refusedByAll(BOUNDS, x -> marks(x, -1, 5, 5));
        int[][] wrong = {{-1, 5}, {999, 1000}, {998, 1000}, {5, 5}, {5, 4}, {0, 0}, {0, 1000}};
        for (int[] one : wrong) {
            refusedByAll(ARGUMENT, x -> marks(x, 0, one[0], one[1]));
            refusedByAll(ARGUMENT, x -> marks(x, 3, one[0], one[1]));
        }
        refusedByAll(STATE, x -> marks(x, 3, 0, 1));
        refused(STATE, USED, new int[] {1, 0}, x -> marks(x, 0, 0, 1));
        refused(STATE, FULL, new int[] {}, x -> marks(x, 0, 0, 1));
    }

    private static void refusedPasses() {
        about("pass throws IllegalArgumentException, IllegalStateException");
        refusedByAll(ARGUMENT, x -> x.pass(0));
        refusedByAll(ARGUMENT, x -> x.pass(-1));
        refusedByAll(ARGUMENT, x -> x.pass(1001));
        refused(STATE, ENDED, new int[] {}, x -> x.pass(1));
        refused(STATE, ENDED, new int[] {1}, x -> x.pass(1000));
    }

    private static void refusedTraps() {
        about("trapOf, trapAt and repeats throw IndexOutOfBoundsException");
        for (int trap : new int[] {-1, 1, 2}) {
            refusedByAll(BOUNDS, x -> x.trapOf(trap));
            refusedByAll(BOUNDS, x -> x.trapAt(trap));
            refusedByAll(BOUNDS, x -> x.repeats(trap));
        }
        refused(BOUNDS, NEW, new int[] {}, x -> x.trapOf(0));
        refused(BOUNDS, NEW, new int[] {}, x -> x.trapAt(0));
        refused(BOUNDS, NEW, new int[] {}, x -> x.repeats(0));
    }

    private static void refusedNeighbours() {
        about("setNeighbour throws IndexOutOfBoundsException, IllegalArgumentException");
        refusedByAll(BOUNDS, x -> x.setNeighbour(4, 0, 4));
        refusedByAll(BOUNDS, x -> x.setNeighbour(-1, 0, -1));
        refusedByAll(BOUNDS, x -> x.setNeighbour(0, -1, 0));
        refusedByAll(BOUNDS, x -> x.setNeighbour(0, 4, 0));
        refusedByAll(BOUNDS, x -> x.setNeighbour(0, 4, 1));
        refusedByAll(BOUNDS, x -> x.setNeighbour(0, 1, -2));
        refusedByAll(BOUNDS, x -> x.setNeighbour(0, 1, 4));
        for (int agent = 0; agent < 4; agent++) {
            int same = agent;
            refusedByAll(ARGUMENT, x -> x.setNeighbour(same, 1, same));
            refusedByAll(ARGUMENT, x -> x.setNeighbour(same, 3, same));
        }
    }
}

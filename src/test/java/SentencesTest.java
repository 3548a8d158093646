import java.util.ArrayList;
import java.util.Arrays;
import java.util.List;

/**
 * For each sentence of the document that names a boundary case a test of its own, which begins with
 * the sentence: the last value that is good and the first that is refused on each side, the empty
 * and the full case, and the wrap-around. What refused calls leave as it is: RefusedCallsTest.
 */
public final class SentencesTest extends Checks {
    private static final int[] NO_AGENTS = {-1, 4, LOWEST, HIGHEST};

    public static void main(String[] args) {
        termsOfAllCalls();
        termsOfPaths();
        termsOfObjects();
        termsOfHiding();
        termsOfSamples();
        termsOfMarks();
        termsOfTraps();
        termsOfNeighbours();
        aNewManagerIsEmpty();
        promisesOfPaths();
        promisesOfObjects();
        promisesOfWalks();
        promisesOfHiding();
        promisesOfSamples();
        promisesOfMarks();
        promisesOfTime();
        promisesOfTraps();
        promisesOfNeighbours();
        end();
    }

    // ---- Terms

    private static void termsOfAllCalls() {
        manyRestarts();
        manyPathsWritten();
        manyObjectsPut();
        manyPathsHidden();
        manySamples();
        manyTraps();
        manyRepeats();
        agentsAre0To3();
        theClockIs0AtFirst();
        theConstants();
    }

    private static void manyRestarts() {
        about("An object is used for at most 512 calls after it has been made (restarts)");
        Managetree x = new Managetree();
        for (int call = 1; call <= 512; call++) {
            due("restart", call, x.restart(3));
        }
    }

    private static void manyPathsWritten() {
        about("An object is used for at most 512 calls after it has been made (paths)");
        Managetree x = new Managetree();
        for (int call = 1; call <= 510; call += 5) {
            for (int length = 1; length <= 4; length++) {
                due("write", length, x.write(call % 10));
            }
            due("wipe", 4, x.wipe());
        }
        due("call 511", 1, x.write(9));
        due("call 512", 9, x.numberAt(0));
    }

    private static void manyObjectsPut() {
        about("An object is used for at most 512 calls after it has been made (objects)");
        Managetree x = new Managetree();
        x.write(0);
        for (int call = 2; call < 512; call += 2) {
            due("put", NONE, x.put(0, COUNTER, call));
            due("remove", call, x.remove(0));
        }
        due("call 512", 0, x.seen(0));
    }

    private static void manyPathsHidden() {
        about("An object is used for at most 512 calls after it has been made (hidden paths)");
        Managetree x = new Managetree();
        for (int call = 1; call <= 508; call += 4) {
            due("hide", NEITHER, x.hide(0, HIDDEN));
            due("show", HIDDEN, x.hide(0, SHOWN));
            due("neither", SHOWN, x.hide(0, NEITHER));
            due("still neither", NEITHER, x.hide(0, NEITHER));
        }
    }

    private static void manySamples() {
        about("An object is used for at most 512 calls after it has been made (samples)");
        Managetree x = new Managetree();
        x.write(0);
        x.put(0, COUNTER, 0);
        for (int call = 3; call < 511; call += 4) {
            due("pass", call / 4 + 1, x.pass(1));
            x.change(0, 999);
            x.sample(0);
            due("rate", call == 3 ? NONE : 59940, x.rate(0));
        }
    }

    private static void manyTraps() {
        about("An object is used for at most 512 calls after it has been made (traps)");
        Managetree x = new Managetree();
        x.write(0);
        for (int agent = 0; agent < 4; agent++) {
            x.put(agent, COUNTER, 999);
            x.setMarks(agent, 0, 999);
        }
        int sent = 0;
        for (int round = 0; round < 54; round++) {
            x.pass(10);
            for (int agent = 0; agent < 4; agent++) {
                x.change(agent, 1);
                x.change(agent, 999);
                sent++;
            }
        }
        due("traps", sent, x.traps());
        due("the last one's agent", 3, x.trapOf(sent - 1));
        due("the last one's minute", 540, x.trapAt(sent - 1));
        due("the last one's repeats", 0, x.repeats(sent - 1));
        thrown("behind the last", BOUNDS, () -> x.trapOf(216));
    }

    private static void manyRepeats() {
        about("An object is used for at most 512 calls after it has been made (repeats)");
        Managetree x = new Managetree();
        x.write(0);
        x.put(0, GAUGE, 0);
        x.setMarks(0, 0, 1);
        for (int round = 0; round < 253; round++) {
            x.change(0, 1);
            x.change(0, 0);
        }
        due("one trap", 1, x.traps());
        due("its repeats", 252, x.repeats(0));
    }

    private static Managetree withAnObjectOfEachAgent() {
        Managetree x = new Managetree();
        path(x, 1);
        for (int agent = 0; agent < 4; agent++) {
            x.put(agent, COUNTER, 10 + agent);
        }
        return x;
    }

    private static void agentsAre0To3() {
        about("Agents are 0 to 3.");
        Managetree x = withAnObjectOfEachAgent();
        for (int agent = 0; agent < 4; agent++) {
            due("put", 10 + agent, x.put(agent, COUNTER, 20 + agent));
            due("change", 21 + agent, x.change(agent, 1));
            due("get", 21 + agent, x.get(agent));
            due("seen", 1, x.seen(agent));
            due("sample", 21 + agent, x.sample(agent));
            due("rate", NONE, x.rate(agent));
            marks(x, agent, 0, 1);
            due("hide", NEITHER, x.hide(agent, NEITHER));
            due("restart", 1, x.restart(agent));
            due("setNeighbour", NONE, x.setNeighbour(agent, 0, 3 - agent));
            due("other", 3 - agent, x.setNeighbour(agent, 0, NONE));
            due("reach", 1 << agent, x.reach(agent));
            x.wipe();
            due("nextBySorting", 0, x.nextBySorting(agent));
            due("next", 0, x.next(agent));
            x.wipe();
            due("bulk", 1, x.bulk(agent, 1));
        }
        for (int agent = 0; agent < 4; agent++) {
            due("remove", 0, x.remove(agent));
            due("seen then", 0, x.seen(agent));
        }
    }

    private static void theClockIs0AtFirst() {
        about("The clock counts minutes and is 0 at first.");
        Managetree x = new Managetree();
        path(x, 0);
        for (int agent = 0; agent < 4; agent++) {
            x.put(agent, GAUGE, 0);
            x.setMarks(agent, 0, 1);
        }
        x.change(0, 1);
        due("at first", 0, x.trapAt(0));
        due("a minute", 1, x.pass(1));
        x.change(1, 1);
        due("then", 1, x.trapAt(1));
        due("minutes", 12, x.pass(11));
        x.change(2, 1);
        due("then", 12, x.trapAt(2));
    }

    private static void theConstants() {
        about("NONE = -1; GAUGE = 0, COUNTER = 1; NEITHER = 0, HIDDEN = 1, SHOWN = 2");
        due("NONE", NONE, Managetree.NONE);
        due("GAUGE", GAUGE, Managetree.GAUGE);
        due("COUNTER", COUNTER, Managetree.COUNTER);
        due("NEITHER", NEITHER, Managetree.NEITHER);
        due("HIDDEN", HIDDEN, Managetree.HIDDEN);
        due("SHOWN", SHOWN, Managetree.SHOWN);
    }

    private static void termsOfPaths() {
        aPathHasUpTo4Numbers();
        thePathIsEmptyAtFirst();
        pathsAreOrdered();
        aPathIsAheadOfLongerOnes();
        aPathIsAtTheHeadOfItself();
    }

    private static void aPathHasUpTo4Numbers() {
        about("A path has up to 4 numbers from 0 to 9, or none.");
        Managetree x = new Managetree();
        due("none", 0, x.wipe());
        for (int number = 0; number <= 9; number++) {
            for (int length = 1; length <= 4; length++) {
                due("write", length, x.write(length % 2 == 0 ? number : 9 - number));
            }
            pathIs(x, 9 - number, number, 9 - number, number);
            due("four", 4, x.wipe());
            pathIs(x);
        }
    }

    private static void thePathIsEmptyAtFirst() {
        about("The path that is written is empty at first.");
        pathIs(new Managetree());
        due("wipe", 0, new Managetree().wipe());
        due("write", 1, new Managetree().write(0));
        thrown("put", STATE, () -> new Managetree().put(0, GAUGE, 0));
    }

    // All 11110 paths, in their order: each ahead of the longer ones that begin with it.
    private static List<int[]> allPaths() {
        List<int[]> all = new ArrayList<>();
        addBelow(all, new int[0]);
        return all;
    }

    private static void addBelow(List<int[]> all, int[] head) {
        for (int number = 0; number <= 9 && head.length < 4; number++) {
            int[] path = Arrays.copyOf(head, head.length + 1);
            path[head.length] = number;
            all.add(path);
            addBelow(all, path);
        }
    }

    private static void pathsAreOrdered() {
        about("Paths are ordered by their first numbers, those alike in that by their second ones, and so on");
        List<int[]> all = allPaths();
        due("paths", 11110, all.size());
        for (int first = 0; first < all.size(); first += 17) {
            List<int[]> some = all.subList(first, Math.min(first + 20, all.size()));
            Managetree x = new Managetree();
            for (int i = 0; i < some.size(); i++) {
                int at = i % 2 == 0 ? i / 2 : some.size() - 1 - i / 2;
                path(x, some.get(at));
                x.put(0, GAUGE, at);
            }
            x.wipe();
            for (int i = 0; i < some.size(); i++) {
                due("sorted", i, x.nextBySorting(0));
                due("walked to", i, x.next(0));
                pathIs(x, some.get(i));
            }
            due("sorted at the end", NONE, x.nextBySorting(0));
            due("walked to at the end", NONE, x.next(0));
        }
    }

    private static void aPathIsAheadOfLongerOnes() {
        about("a path comes ahead of all longer ones that begin with it.");
        int[][] inOrder = {{0}, {0, 0}, {0, 0, 0}, {0, 0, 0, 0}, {0, 0, 0, 9}, {0, 0, 9}, {0, 9}, {0, 9, 9, 9},
            {1}, {1, 0, 0, 0}, {8, 9, 9, 9}, {9}, {9, 0}, {9, 9}, {9, 9, 9}, {9, 9, 9, 0}, {9, 9, 9, 9}};
        Managetree x = new Managetree();
        for (int i = inOrder.length - 1; i >= 0; i--) {
            path(x, inOrder[i]);
            x.put(0, COUNTER, i);
        }
        x.wipe();
        for (int i = 0; i < inOrder.length; i++) {
            due("sorted", i, x.nextBySorting(0));
            due("walked to", i, x.next(0));
        }
        due("behind 9.9.9.9", NONE, x.next(0));
        due("behind 9.9.9.9, sorted", NONE, x.nextBySorting(0));
        pathIs(x, 9, 9, 9, 9);
    }

    private static void aPathIsAtTheHeadOfItself() {
        about("It is at the head of these and of itself.");
        int[][] others = {{1, 2, 3, 4}, {1, 2, 3}, {1, 2}, {1, 2, 4}, {1, 3}, {1, 1}, {1}, {0}, {2}, {0, 2}, {2, 2}};
        boolean[] hidden = {true, true, true, true, false, false, false, false, false, false, false};
        Managetree x = new Managetree();
        for (int i = 0; i < others.length; i++) {
            path(x, others[i]);
            x.put(0, GAUGE, i);
        }
        path(x, 1, 2);
        x.hide(0, HIDDEN);
        for (int i = 0; i < others.length; i++) {
            path(x, others[i]);
            due("object " + i, hidden[i] ? NONE : i, x.get(0));
        }
        x.wipe();
        x.hide(0, SHOWN);
        path(x, 1, 2);
        due("the empty path is a shorter head", NONE, x.get(0));
        x.hide(0, NEITHER);
        x.wipe();
        x.hide(0, HIDDEN);
        due("the empty path is at the head of all", 0, x.seen(0));
    }

    private static void termsOfObjects() {
        atMostOneObjectWithEachPath();
        upTo20Objects();
        valuesFrom0To999();
        countersGoRound();
        restartsMakeCounters0();
    }

    private static void atMostOneObjectWithEachPath() {
        about("An agent has at most one object with each path that is not empty");
        Managetree x = new Managetree();
        thrown("the empty path", STATE, () -> x.put(0, GAUGE, 1));
        path(x, 0);
        due("first", NONE, x.put(0, GAUGE, 1));
        due("again", 1, x.put(0, COUNTER, 2));
        due("one", 1, x.seen(0));
        due("another agent's with this path", NONE, x.put(1, GAUGE, 3));
        due("still one", 1, x.seen(0));
        x.write(0);
        due("a longer path of zeros", NONE, x.put(0, GAUGE, 4));
        due("two", 2, x.seen(0));
        due("one is removed", 4, x.remove(0));
        due("none is left with this path", NONE, x.remove(0));
        due("one then", 1, x.seen(0));
    }

    private static Managetree withTwentyObjects(int agent) {
        Managetree x = new Managetree();
        for (int i = 0; i < 20; i++) {
            path(x, i / 10, i % 10);
            due("put", NONE, x.put(agent, i % 2, 100 + i));
        }
        return x;
    }

    private static void upTo20Objects() {
        about("up to 20 in all.");
        for (int agent = 0; agent < 4; agent++) {
            int holder = agent;
            Managetree x = withTwentyObjects(agent);
            due("20", 20, x.seen(agent));
            path(x, 2);
            thrown("the 21st", STATE, () -> x.put(holder, GAUGE, 1));
            due("20 then", 20, x.seen(agent));
            due("another agent's first", NONE, x.put(3 - agent, GAUGE, 1));
            path(x, 0, 0);
            due("the first of 20 again", 100, x.put(agent, GAUGE, 5));
            path(x, 1, 9);
            due("the last of 20 again", 119, x.put(agent, GAUGE, 6));
            due("20 still", 20, x.seen(agent));
            x.remove(agent);
            path(x, 2);
            due("the 20th again", NONE, x.put(agent, GAUGE, 1));
            path(x, 3);
            thrown("the 21st again", STATE, () -> x.put(holder, GAUGE, 1));
        }
    }

    private static void valuesFrom0To999() {
        about("An object is a gauge or a counter, and has a value from 0 to 999");
        Managetree x = new Managetree();
        path(x, 1);
        for (int kind = GAUGE; kind <= COUNTER; kind++) {
            x.put(0, kind, 0);
            due("least", 0, x.get(0));
            due("least, changed", 999, x.change(0, 999));
            x.put(0, kind, 999);
            due("most", 999, x.get(0));
            due("most, changed", kind == GAUGE ? 0 : 999, x.change(0, 0));
        }
    }

    private static void countersGoRound() {
        about("what is added to a counter makes it go round: 1000 is 0.");
        Managetree x = new Managetree();
        path(x, 1);
        int[][] sums = {{999, 0, 999}, {999, 1, 0}, {1, 999, 0}, {0, 999, 999}, {500, 499, 999}, {500, 500, 0},
            {500, 501, 1}, {999, 999, 998}, {0, 0, 0}};
        for (int[] sum : sums) {
            x.put(0, COUNTER, sum[0]);
            due(sum[0] + " and " + sum[1], sum[2], x.change(0, sum[1]));
            due(sum[0] + " and " + sum[1] + ", got", sum[2], x.get(0));
        }
    }

    private static void restartsMakeCounters0() {
        about("An agent may be restarted, by which all its counters become 0.");
        Managetree x = withTwentyObjects(1);
        x.put(2, COUNTER, 7);
        x.wipe();
        x.hide(1, HIDDEN);
        due("with hidden counters", 1, x.restart(1));
        x.hide(1, NEITHER);
        for (int i = 0; i < 20; i++) {
            due("each counter is 0, each gauge stays", i % 2 == COUNTER ? 0 : 100 + i, x.next(1));
        }
        due("another agent's counter stays", 7, x.get(2));
        due("one without objects", 1, x.restart(0));
    }

    private static void termsOfHiding() {
        atFirstNeither();
        theLongestHeadHides();
        withoutAnyHeadNothingIsHidden();
        hiddenObjectsCanBeChanged();
    }

    private static void atFirstNeither() {
        about("For an agent, each path may be hidden, shown or neither, at first neither.");
        for (int agent = 0; agent < 4; agent++) {
            for (int length = 0; length <= 4; length++) {
                Managetree x = new Managetree();
                path(x, new int[length]);
                due("at first", NEITHER, x.hide(agent, HIDDEN));
                due("hidden", HIDDEN, x.hide(agent, SHOWN));
                due("shown", SHOWN, x.hide(agent, NEITHER));
                due("neither", NEITHER, x.hide(agent, SHOWN));
                due("shown", SHOWN, x.hide(agent, HIDDEN));
                due("hidden", HIDDEN, x.hide(agent, NEITHER));
                due("for another agent", NEITHER, x.hide(3 - agent, SHOWN));
                due("neither", NEITHER, x.hide(agent, NEITHER));
            }
        }
    }

    // All 243 ways in which the five heads of a path of four numbers may be hidden, shown or neither.
    private static void theLongestHeadHides() {
        about("An object is hidden if, of all paths at the head of its path that are hidden or shown, "
                + "the longest is hidden.");
        for (int way = 0; way < 243; way++) {
            Managetree x = new Managetree();
            path(x, 4, 3, 2, 1);
            x.put(0, GAUGE, 8);
            int longest = NEITHER;
            int left = way;
            for (int length = 0; length <= 4; length++) {
                path(x, Arrays.copyOf(new int[] {4, 3, 2, 1}, length));
                x.hide(0, left % 3);
                longest = left % 3 == NEITHER ? longest : left % 3;
                left /= 3;
            }
            boolean hidden = longest == HIDDEN;
            due("way " + way + ", got", hidden ? NONE : 8, x.get(0));
            due("way " + way + ", seen", hidden ? 0 : 1, x.seen(0));
            x.wipe();
            due("way " + way + ", sorted", hidden ? NONE : 8, x.nextBySorting(0));
            due("way " + way + ", walked to", hidden ? NONE : 8, x.next(0));
        }
    }

    private static void withoutAnyHeadNothingIsHidden() {
        about("of all paths at the head of its path (longer paths and paths beside it are not)");
        Managetree x = new Managetree();
        int[][] beside = {{1, 2, 0}, {1, 2, 9}, {1, 2, 0, 0}, {1, 1}, {1, 3}, {0}, {2}, {0, 1, 2}, {2, 1}, {0, 0, 1, 2}};
        path(x, 1, 2);
        x.put(0, GAUGE, 5);
        for (int[] one : beside) {
            path(x, one);
            x.hide(0, HIDDEN);
        }
        path(x, 1, 2);
        due("none of ten", 5, x.get(0));
        path(x, 2);
        x.hide(0, NEITHER);
        path(x, 1);
        x.hide(0, HIDDEN);
        path(x, 1, 2);
        due("one of ten", NONE, x.get(0));
        x.put(1, GAUGE, 6);
        due("for another agent none", 6, x.get(1));
    }

    private static void hiddenObjectsCanBeChanged() {
        about("Hidden objects can be changed, but not be got or walked to, and no samples are taken of them.");
        Managetree x = new Managetree();
        path(x, 5);
        x.put(0, COUNTER, 5);
        x.hide(0, HIDDEN);
        due("changed", 8, x.change(0, 3));
        due("not got", NONE, x.get(0));
        thrown("no sample", STATE, () -> x.sample(0));
        due("put in place", 8, x.put(0, COUNTER, 9));
        x.wipe();
        due("not walked to", NONE, x.next(0));
        due("nor sorted", NONE, x.nextBySorting(0));
        due("nor in bulk", 0, x.bulk(0, 30));
        pathIs(x);
        path(x, 5);
        x.hide(0, NEITHER);
        due("got again", 9, x.get(0));
        due("a sample again", 9, x.sample(0));
        x.hide(0, HIDDEN);
        due("removed", 9, x.remove(0));
    }

    private static void termsOfSamples() {
        aSampleNotesTheClock();
        aSampleNotesTheRestarts();
        aRateIsFoundFromTheLastTwo();
        aRateGoesRound();
        aRateIsRoundedDown();
        lessThanTwoSamples();
        noMinuteBetween();
        restartedBetween();
        noRateOfAGauge();
    }

    private static Managetree withASampleOf(int value) {
        Managetree x = new Managetree();
        path(x, 1);
        x.put(0, COUNTER, value);
        x.sample(0);
        return x;
    }

    private static int rateOf(int earlier, int later, int minutes) {
        Managetree x = withASampleOf(earlier);
        for (int left = minutes; left > 0; left -= 1000) {
            x.pass(Math.min(left, 1000));
        }
        x.change(0, Math.floorMod(later - earlier, 1000));
        due("sample", later, x.sample(0));
        return x.rate(0);
    }

    private static void aSampleNotesTheClock() {
        about("Taking a sample of an object notes the clock, its value");
        Managetree x = withASampleOf(100);
        x.pass(2);
        x.change(0, 10);
        x.sample(0);
        x.pass(3);
        x.change(0, 50);
        due("as it was when it was taken", 300, x.rate(0));
        x.sample(0);
        due("and then", 1000, x.rate(0));
    }

    private static void aSampleNotesTheRestarts() {
        about("and how often its agent was restarted by then.");
        Managetree x = new Managetree();
        path(x, 1);
        x.restart(0);
        x.put(0, COUNTER, 1);
        x.restart(0);
        x.sample(0);
        x.pass(1);
        x.sample(0);
        due("restarts before the first do not count", 0, x.rate(0));
        x.restart(0);
        x.restart(0);
        due("nor those after the second", 0, x.rate(0));
        x.sample(0);
        due("but those between", NONE, x.rate(0));
    }

    private static void aRateIsFoundFromTheLastTwo() {
        about("The rate of a counter is found from its last two samples");
        Managetree x = withASampleOf(0);
        int[][] steps = {{1, 1, 60}, {2, 10, 300}, {60, 7, 7}, {1, 0, 0}, {5, 999, 11988}};
        for (int[] step : steps) {
            x.pass(step[0]);
            x.change(0, step[1]);
            x.sample(0);
            due(step[1] + " in " + step[0], step[2], x.rate(0));
        }
    }

    private static void aRateGoesRound() {
        about("how much the later value is more than the earlier one (1000 more than that if it is less)");
        due("alike", 0, rateOf(5, 5, 1));
        due("1 more", 60, rateOf(5, 6, 1));
        due("1 less", 59940, rateOf(6, 5, 1));
        due("from 0 to 999", 59940, rateOf(0, 999, 1));
        due("from 999 to 0", 60, rateOf(999, 0, 1));
        due("alike at 0", 0, rateOf(0, 0, 1));
        due("alike at 999", 0, rateOf(999, 999, 1));
        due("500 less", 30000, rateOf(700, 200, 1));
    }

    private static void aRateIsRoundedDown() {
        about("times 60, divided by the minutes between, rounded down.");
        due("1 in 59", 1, rateOf(0, 1, 59));
        due("1 in 60", 1, rateOf(0, 1, 60));
        due("1 in 61", 0, rateOf(0, 1, 61));
        due("59 in 60", 59, rateOf(0, 59, 60));
        due("2 in 7", 17, rateOf(0, 2, 7));
        due("599 in 600", 59, rateOf(0, 599, 600));
        due("999 in 1", 59940, rateOf(0, 999, 1));
        due("999 in 59940", 1, rateOf(0, 999, 59940));
        due("999 in 59941", 0, rateOf(0, 999, 59941));
        due("999 in 100000", 0, rateOf(0, 999, 100000));
    }

    private static void lessThanTwoSamples() {
        about("There is none if there are less than two samples");
        Managetree x = new Managetree();
        path(x, 1);
        x.put(0, COUNTER, 3);
        due("none", NONE, x.rate(0));
        x.pass(1);
        due("a minute after", NONE, x.rate(0));
        x.sample(0);
        due("one", NONE, x.rate(0));
        x.pass(1);
        due("one, a minute ago", NONE, x.rate(0));
        x.sample(0);
        due("two", 0, x.rate(0));
        path(x, 2);
        x.put(0, COUNTER, 3);
        x.sample(0);
        due("one of each of two objects", NONE, x.rate(0));
    }

    private static void noMinuteBetween() {
        about("There is none if no minute is between");
        Managetree x = withASampleOf(3);
        x.change(0, 1);
        x.sample(0);
        due("no minute", NONE, x.rate(0));
        x.pass(1);
        x.change(0, 1);
        x.sample(0);
        due("one", 60, x.rate(0));
        x.sample(0);
        due("a minute ahead of both", NONE, x.rate(0));
        x.pass(1);
        due("a minute after both", NONE, x.rate(0));
    }

    private static void restartedBetween() {
        about("There is none if the agent was restarted between");
        Managetree x = withASampleOf(0);
        x.restart(0);
        x.pass(1);
        x.sample(0);
        due("in the minute of the earlier one", NONE, x.rate(0));
        x.pass(1);
        x.restart(0);
        x.sample(0);
        due("in the minute of the later one", NONE, x.rate(0));
        x.pass(1);
        x.restart(1);
        x.restart(2);
        x.restart(3);
        x.sample(0);
        due("only others were", 0, x.rate(0));
        x.restart(0);
        due("after both", 0, x.rate(0));
    }

    private static void noRateOfAGauge() {
        about("There is none if the object is a gauge.");
        Managetree x = new Managetree();
        path(x, 1);
        x.put(0, GAUGE, 3);
        for (int i = 0; i < 3; i++) {
            due("sample", 3 + i, x.sample(0));
            x.pass(1);
            x.change(0, 4 + i);
            due("rate", NONE, x.rate(0));
        }
    }

    private static void termsOfMarks() {
        anObjectMayHaveMarks();
        armedWhenMarksAreSet();
        atLeastTheHighMark();
        armedNoMore();
        armedNoMoreByARepeat();
        armedAgain();
        armedAgainByARestart();
    }

    private static Managetree withMarks(int kind, int value, int low, int high) {
        Managetree x = new Managetree();
        path(x, 1);
        x.put(0, kind, value);
        x.setMarks(0, low, high);
        return x;
    }

    // How many traps are sent and repeats are counted while the gauge gets these values.
    private static int sentBy(int low, int high, int... values) {
        Managetree x = withMarks(GAUGE, 0, low, high);
        for (int value : values) {
            x.change(0, value);
        }
        due("one trap at most", Math.min(1, x.traps()), x.traps());
        return x.traps() == 0 ? 0 : 1 + x.repeats(0);
    }

    private static void anObjectMayHaveMarks() {
        about("An object may have a low mark and a high one.");
        Managetree x = new Managetree();
        path(x, 1);
        x.put(0, GAUGE, 0);
        x.put(1, GAUGE, 0);
        path(x, 1, 1);
        x.put(0, GAUGE, 0);
        x.change(0, 999);
        due("without marks none is sent", 0, x.traps());
        path(x, 1);
        x.setMarks(0, 0, 1);
        x.change(1, 999);
        due("another agent's marks are not its own", 0, x.traps());
        path(x, 1, 1);
        x.change(0, 998);
        due("nor those of a shorter path", 0, x.traps());
        path(x, 1);
        x.change(0, 1);
        due("with marks one is", 1, x.traps());
    }

    private static void armedWhenMarksAreSet() {
        about("It is armed when marks are set.");
        Managetree x = withMarks(GAUGE, 500, 10, 500);
        due("setting sends none, also at the high mark", 0, x.traps());
        x.change(0, 500);
        due("armed above the low mark too", 1, x.traps());
        x.change(0, 500);
        due("then no more", 0, x.repeats(0));
        x.setMarks(0, 10, 500);
        due("setting counts no repeat", 0, x.repeats(0));
        x.change(0, 500);
        due("armed again by setting the same marks", 1, x.repeats(0));
    }

    private static void atLeastTheHighMark() {
        about("if it is armed and the value is at least the high mark, a trap is sent");
        due("one below", 0, sentBy(10, 500, 499));
        due("at it", 1, sentBy(10, 500, 500));
        due("one above", 1, sentBy(10, 500, 501));
        due("the most", 1, sentBy(0, 999, 999));
        due("one below the most", 0, sentBy(0, 999, 998));
        due("the least high mark", 1, sentBy(0, 1, 1));
        due("0 is below it", 0, sentBy(0, 1, 0));
        due("marks side by side", 1, sentBy(998, 999, 998, 999));
        Managetree x = withMarks(COUNTER, 600, 10, 500);
        x.change(0, 899);
        due("a counter, gone round below the high mark", 0, x.traps());
        x.change(0, 1);
        due("a counter, at the high mark", 1, x.traps());
        Managetree y = withMarks(COUNTER, 600, 10, 500);
        y.change(0, 0);
        due("a counter to which 0 is added, above the high mark", 1, y.traps());
        Managetree z = withMarks(GAUGE, 600, 10, 500);
        z.change(0, 600);
        due("a gauge that is set to the same value", 1, z.traps());
    }

    private static void armedNoMore() {
        about("and it is armed no more");
        due("twice at the high mark", 1, sentBy(10, 500, 500, 500));
        due("above, then at it", 1, sentBy(10, 500, 999, 500));
        due("one below, then at it", 1, sentBy(10, 500, 500, 499, 500));
        Managetree x = withMarks(GAUGE, 0, 10, 500);
        x.change(0, 500);
        x.pass(10);
        x.change(0, 500);
        due("nor 10 minutes later", 1, x.traps());
    }

    private static void armedNoMoreByARepeat() {
        about("also if that is a repeat (see below)");
        Managetree x = withMarks(GAUGE, 0, 10, 500);
        x.change(0, 500);
        x.change(0, 10);
        x.change(0, 500);
        due("a repeat", 1, x.repeats(0));
        x.change(0, 999);
        due("no second one", 1, x.repeats(0));
        x.pass(10);
        x.change(0, 500);
        due("nor a trap", 1, x.traps());
        x.change(0, 10);
        x.change(0, 500);
        due("but when armed again", 2, x.traps());
    }

    private static void armedAgain() {
        about("if it is not armed and the value is at most the low mark, it is armed again.");
        due("at the low mark", 2, sentBy(10, 500, 500, 10, 500));
        due("one below", 2, sentBy(10, 500, 500, 9, 500));
        due("one above", 1, sentBy(10, 500, 500, 11, 500));
        due("at 0 for the mark 0", 2, sentBy(0, 500, 500, 0, 500));
        due("at 1 for the mark 0", 1, sentBy(0, 500, 500, 1, 500));
        due("marks side by side", 2, sentBy(499, 500, 500, 499, 500));
        due("and stays so between the marks", 2, sentBy(10, 500, 500, 10, 11, 499, 500));
        due("once for many times at the low mark", 2, sentBy(10, 500, 500, 10, 0, 10, 500));
        Managetree x = withMarks(COUNTER, 0, 10, 500);
        x.change(0, 500);
        x.change(0, 511);
        x.change(0, 500);
        due("a counter gone round to one above it", 0, x.repeats(0));
        x.change(0, 499);
        x.change(0, 500);
        due("a counter gone round to it", 1, x.repeats(0));
    }

    private static void armedAgainByARestart() {
        about("Whenever its value is set or added to, or becomes 0 by a restart");
        Managetree x = withMarks(COUNTER, 0, 0, 500);
        x.change(0, 500);
        x.restart(0);
        due("a restart sends none", 1, x.traps());
        due("nor counts a repeat", 0, x.repeats(0));
        x.change(0, 500);
        due("but arms a counter", 1, x.repeats(0));
        x.restart(1);
        x.change(0, 0);
        due("not by another agent's restart", 1, x.repeats(0));
        Managetree y = withMarks(GAUGE, 0, 999 - 1, 999);
        y.change(0, 999);
        y.restart(0);
        y.change(0, 999);
        due("nor a gauge, which stays", 0, y.repeats(0));
        Managetree z = withMarks(COUNTER, 900, 0, 500);
        z.restart(0);
        due("none for an armed one above the high mark", 0, z.traps());
        z.change(0, 500);
        due("which stays armed", 1, z.traps());
    }

    private static void termsOfTraps() {
        trapsAreNumberedFrom0();
        lessThan10MinutesAgo();
        theLastTrapOfTheSameAgentAndPath();
        putInPlaceLosesSamples();
        putInPlaceLosesMarks();
        removedLosesSamplesAndMarks();
        itsTrapsStay();
    }

    private static void sendOne(Managetree x, int agent) {
        x.setMarks(agent, 0, 1);
        x.change(agent, 1);
    }

    private static void trapsAreNumberedFrom0() {
        about("Traps are numbered from 0.");
        Managetree x = withAnObjectOfEachAgent();
        int[] agents = {2, 0, 3, 1};
        for (int i = 0; i < 4; i++) {
            x.pass(1);
            sendOne(x, agents[i]);
            due("count", i + 1, x.traps());
        }
        for (int i = 0; i < 4; i++) {
            due("agent of " + i, agents[i], x.trapOf(i));
            due("minute of " + i, i + 1, x.trapAt(i));
        }
    }

    private static void lessThan10MinutesAgo() {
        about("If the last trap of the same agent and path was sent less than 10 minutes ago, no new one is sent, "
                + "but that one counts one more repeat.");
        int[][] cases = {{0, 1}, {1, 1}, {8, 1}, {9, 1}, {10, 2}, {11, 2}, {1000, 2}};
        for (int[] one : cases) {
            Managetree x = withAnObjectOfEachAgent();
            x.pass(3);
            sendOne(x, 0);
            if (one[0] > 0) {
                x.pass(one[0]);
            }
            sendOne(x, 0);
            due(one[0] + " minutes ago, traps", one[1], x.traps());
            due(one[0] + " minutes ago, repeats", 2 - one[1], x.repeats(0));
            due(one[0] + " minutes ago, the minute stays", 3, x.trapAt(0));
        }
        Managetree y = withAnObjectOfEachAgent();
        sendOne(y, 0);
        y.pass(9);
        sendOne(y, 0);
        y.pass(1);
        sendOne(y, 0);
        due("10 minutes after the trap, 1 after its repeat", 2, y.traps());
        y.pass(9);
        sendOne(y, 0);
        due("9 minutes after the second", 2, y.traps());
        due("the second counts it", 1, y.repeats(1));
        due("the first does not", 1, y.repeats(0));
    }

    private static void theLastTrapOfTheSameAgentAndPath() {
        about("the last trap of the same agent and path");
        Managetree x = withAnObjectOfEachAgent();
        sendOne(x, 0);
        sendOne(x, 1);
        due("another agent's is another", 2, x.traps());
        x.write(1);
        x.put(0, GAUGE, 0);
        sendOne(x, 0);
        due("a longer path's is another", 3, x.traps());
        path(x, 1);
        sendOne(x, 0);
        due("three", 3, x.traps());
        due("the first counts it", 1, x.repeats(0));
        due("not the second", 0, x.repeats(1));
        due("nor the third", 0, x.repeats(2));
    }

    private static void putInPlaceLosesSamples() {
        about("An object that is put in place of another one, or removed, loses its samples");
        Managetree x = withASampleOf(3);
        x.pass(1);
        x.sample(0);
        due("before", 0, x.rate(0));
        x.put(0, COUNTER, 3);
        due("none", NONE, x.rate(0));
        x.pass(1);
        x.sample(0);
        due("one is not enough", NONE, x.rate(0));
        x.pass(1);
        x.sample(0);
        due("two are", 0, x.rate(0));
    }

    private static void putInPlaceLosesMarks() {
        about("An object that is put in place of another one, or removed, loses its samples and marks");
        Managetree x = withMarks(GAUGE, 0, 0, 1);
        x.put(0, GAUGE, 0);
        x.change(0, 999);
        due("of an armed one", 0, x.traps());
        x.setMarks(0, 0, 1);
        x.put(0, COUNTER, 998);
        due("putting sends none", 0, x.traps());
        x.change(0, 1);
        due("of an armed one, by another kind", 0, x.traps());
        x.put(0, GAUGE, 0);
        sendOne(x, 0);
        x.put(0, GAUGE, 0);
        x.change(0, 0);
        x.change(0, 1);
        due("of one that is armed no more", 1, x.traps());
        due("no repeat either", 0, x.repeats(0));
    }

    private static void removedLosesSamplesAndMarks() {
        about("or removed, loses its samples and marks");
        Managetree x = withASampleOf(3);
        x.setMarks(0, 0, 1);
        x.pass(1);
        x.sample(0);
        x.remove(0);
        thrown("no rate", STATE, () -> x.rate(0));
        x.put(0, COUNTER, 3);
        due("no samples", NONE, x.rate(0));
        x.change(0, 100);
        due("no marks", 0, x.traps());
        x.sample(0);
        due("no earlier sample", NONE, x.rate(0));
    }

    private static void itsTrapsStay() {
        about("its traps stay.");
        Managetree x = withAnObjectOfEachAgent();
        x.pass(2);
        sendOne(x, 1);
        x.put(1, GAUGE, 0);
        due("in place of another", 1, x.traps());
        sendOne(x, 1);
        due("a repeat by the one in place", 1, x.repeats(0));
        x.remove(1);
        due("removed", 1, x.traps());
        due("agent", 1, x.trapOf(0));
        due("minute", 2, x.trapAt(0));
        due("repeats", 1, x.repeats(0));
        x.put(1, COUNTER, 0);
        sendOne(x, 1);
        due("a repeat by a new one", 2, x.repeats(0));
        due("no new trap", 1, x.traps());
    }

    private static void termsOfNeighbours() {
        portsAre0To3();
        linkedIfEachNamesTheOther();
    }

    private static void portsAre0To3() {
        about("Each agent has the ports 0 to 3, and may name a neighbour at each, another agent.");
        Managetree x = new Managetree();
        for (int agent = 0; agent < 4; agent++) {
            for (int port = 0; port < 4; port++) {
                due("none at first", NONE, x.setNeighbour(agent, port, (agent + 1 + port % 3) % 4));
            }
        }
        for (int agent = 0; agent < 4; agent++) {
            due("all reach all", 15, x.reach(agent));
        }
        for (int agent = 0; agent < 4; agent++) {
            for (int port = 0; port < 4; port++) {
                due("what was named", (agent + 1 + port % 3) % 4, x.setNeighbour(agent, port, NONE));
                due("none then", NONE, x.setNeighbour(agent, port, NONE));
            }
            due("itself alone", 1 << agent, x.reach(agent));
        }
        due("no halves", 0, x.halves());
    }

    private static void linkedIfEachNamesTheOther() {
        about("Two agents are linked if each names the other one at some port.");
        for (int one = 0; one < 4; one++) {
            for (int port = 0; port < 16; port++) {
                int other = (one + 1) % 4;
                Managetree x = new Managetree();
                x.setNeighbour(one, port / 4, other);
                due("named by one", 1 << one, x.reach(one));
                due("named by one", 1 << other, x.reach(other));
                due("half a link", 1, x.halves());
                x.setNeighbour(other, port % 4, one);
                due("named by both", 1 << one | 1 << other, x.reach(one));
                due("named by both", 1 << one | 1 << other, x.reach(other));
                due("no half", 0, x.halves());
            }
        }
    }

    // ---- Promise 1: a new object

    private static void aNewManagerIsEmpty() {
        about("Managetree(): Creates a manager with agents without objects.");
        for (int agent = 0; agent < 4; agent++) {
            Managetree x = new Managetree();
            due("seen", 0, x.seen(agent));
            due("next", NONE, x.next(agent));
            due("nextBySorting", NONE, x.nextBySorting(agent));
            due("bulk", 0, x.bulk(agent, 30));
            due("traps", 0, x.traps());
            due("hide", NEITHER, x.hide(agent, NEITHER));
            due("remove", NONE, x.remove(agent));
            x.write(0);
            due("get", NONE, x.get(agent));
            due("remove at 0", NONE, x.remove(agent));
            due("restart", 1, x.restart(agent));
            due("put", NONE, x.put(agent, GAUGE, 0));
        }
    }

    // ---- Promises 2 to 4: the path

    private static void promisesOfPaths() {
        writeTakes0To9();
        writeTakesNoFifth();
        wipeTellsTheLength();
        onlyWriteNextAndBulkChangeIt();
        numberAtTakes0To3();
    }

    private static void writeTakes0To9() {
        about("write, number: 0 to 9; IllegalArgumentException if number is out of range");
        for (int number : new int[] {0, 1, 8, 9}) {
            Managetree x = new Managetree();
            due("write " + number, 1, x.write(number));
            pathIs(x, number);
        }
        for (int number : new int[] {-1, 10, LOWEST, HIGHEST}) {
            Managetree x = new Managetree();
            thrown("write " + number, ARGUMENT, () -> x.write(number));
            pathIs(x);
        }
    }

    private static void writeTakesNoFifth() {
        about("write: Returns how many numbers it has then; IllegalStateException if it has 4 numbers");
        for (int number : new int[] {0, 9}) {
            Managetree x = new Managetree();
            for (int length = 1; length <= 4; length++) {
                due("number " + length, length, x.write(number));
            }
            thrown("the fifth", STATE, () -> x.write(number));
            pathIs(x, number, number, number, number);
            x.wipe();
            due("again", 1, x.write(number));
        }
    }

    private static void wipeTellsTheLength() {
        about("wipe: Returns how many numbers it had.");
        for (int number : new int[] {0, 9}) {
            Managetree x = new Managetree();
            for (int length = 0; length <= 4; length++) {
                for (int i = 0; i < length; i++) {
                    x.write(number);
                }
                due("of " + length, length, x.wipe());
                pathIs(x);
            }
        }
    }

    private static void onlyWriteNextAndBulkChangeIt() {
        about("Only write(), next() and bulk() change it otherwise.");
        Managetree x = new Managetree();
        path(x, 5);
        x.put(0, COUNTER, 1);
        path(x, 1);
        x.put(0, COUNTER, 1);
        x.change(0, 1);
        x.get(0);
        x.nextBySorting(0);
        x.hide(0, SHOWN);
        x.seen(0);
        x.sample(0);
        x.rate(0);
        x.setMarks(0, 0, 1);
        x.change(0, 1);
        x.restart(0);
        x.pass(1);
        x.trapOf(0);
        x.trapAt(0);
        x.repeats(0);
        x.setNeighbour(0, 0, 1);
        x.reach(0);
        x.halves();
        x.remove(0);
        pathIs(x, 1);
        x.next(0);
        pathIs(x, 5);
        x.wipe();
        x.bulk(0, 1);
        pathIs(x, 5);
    }

    private static void numberAtTakes0To3() {
        about("numberAt, place: 0 to 3; NONE if it has not so many; IndexOutOfBoundsException if no such place");
        Managetree x = new Managetree();
        for (int length = 0; length <= 4; length++) {
            for (int place = 0; place < 4; place++) {
                due("of " + length, place < length ? 9 * (place % 2) : NONE, x.numberAt(place));
            }
            for (int place : new int[] {-1, 4, LOWEST, HIGHEST}) {
                thrown("place " + place, BOUNDS, () -> x.numberAt(place));
            }
            if (length < 4) {
                x.write(9 * (length % 2));
            }
        }
    }

    // ---- Promises 5 to 8: objects

    private static void promisesOfObjects() {
        noSuchAgent();
        putTakesTwoKinds();
        putTakes0To999();
        putTellsTheValueBefore();
        putTakesNoEmptyPath();
        putTakes20OtherObjects();
        removeTellsTheValue();
        changeTakes0To999();
        changeTellsTheValueThen();
        changeNeedsAnObject();
        getTellsTheValue();
    }

    private static void noSuchAgent() {
        about("IndexOutOfBoundsException if there is no such agent");
        Managetree x = withAnObjectOfEachAgent();
        for (int agent : NO_AGENTS) {
            thrown("put " + agent, BOUNDS, () -> x.put(agent, GAUGE, 1));
            thrown("remove " + agent, BOUNDS, () -> x.remove(agent));
            thrown("change " + agent, BOUNDS, () -> x.change(agent, 1));
            thrown("get " + agent, BOUNDS, () -> x.get(agent));
            thrown("next " + agent, BOUNDS, () -> x.next(agent));
            thrown("bulk " + agent, BOUNDS, () -> x.bulk(agent, 1));
            thrown("nextBySorting " + agent, BOUNDS, () -> x.nextBySorting(agent));
            thrown("hide " + agent, BOUNDS, () -> x.hide(agent, HIDDEN));
            thrown("seen " + agent, BOUNDS, () -> x.seen(agent));
            thrown("sample " + agent, BOUNDS, () -> x.sample(agent));
            thrown("rate " + agent, BOUNDS, () -> x.rate(agent));
            thrown("setMarks " + agent, BOUNDS, () -> marks(x, agent, 0, 1));
            thrown("restart " + agent, BOUNDS, () -> x.restart(agent));
            thrown("setNeighbour " + agent, BOUNDS, () -> x.setNeighbour(agent, 0, 1));
            thrown("reach " + agent, BOUNDS, () -> x.reach(agent));
        }
    }

    private static void putTakesTwoKinds() {
        about("put, kind: GAUGE or COUNTER; IndexOutOfBoundsException if there is no such agent or kind");
        Managetree x = new Managetree();
        path(x, 1);
        for (int kind : new int[] {-1, 2, LOWEST, HIGHEST}) {
            thrown("kind " + kind, BOUNDS, () -> x.put(0, kind, 5));
        }
        due("nothing yet", NONE, x.put(0, GAUGE, 5));
        due("a gauge is set", 6, x.change(0, 6));
        due("a counter", 6, x.put(0, COUNTER, 5));
        due("a counter is added to", 11, x.change(0, 6));
    }

    private static void putTakes0To999() {
        about("put, value: 0 to 999; IllegalArgumentException if value is out of range");
        Managetree x = new Managetree();
        path(x, 1);
        for (int kind = GAUGE; kind <= COUNTER; kind++) {
            int of = kind;
            for (int value : new int[] {0, 1, 998, 999}) {
                x.put(0, kind, value);
                due("value " + value, value, x.get(0));
            }
            for (int value : new int[] {-1, 1000, LOWEST, HIGHEST}) {
                thrown("value " + value, ARGUMENT, () -> x.put(0, of, value));
                due("the one before stays", 999, x.get(0));
            }
        }
    }

    private static void putTellsTheValueBefore() {
        about("put: Returns the value of the object before; NONE if there was none.");
        Managetree x = new Managetree();
        path(x, 1);
        due("none", NONE, x.put(0, GAUGE, 0));
        due("a 0", 0, x.put(0, COUNTER, 999));
        due("a 999", 999, x.put(0, COUNTER, 1));
        x.change(0, 5);
        due("a changed one", 6, x.put(0, GAUGE, 2));
        x.remove(0);
        due("a removed one is none", NONE, x.put(0, GAUGE, 3));
        x.hide(0, HIDDEN);
        due("a hidden one", 3, x.put(0, GAUGE, 4));
        due("another agent's is none", NONE, x.put(1, GAUGE, 4));
    }

    private static void putTakesNoEmptyPath() {
        about("put: IllegalStateException if the path is empty");
        Managetree x = new Managetree();
        for (int agent = 0; agent < 4; agent++) {
            int holder = agent;
            thrown("empty", STATE, () -> x.put(holder, GAUGE, 0));
        }
        x.write(0);
        due("one number", NONE, x.put(0, GAUGE, 0));
        x.wipe();
        thrown("empty again", STATE, () -> x.put(0, GAUGE, 0));
        due("one object", 1, x.seen(0));
        path(x, 0, 0, 0, 0);
        due("four numbers", NONE, x.put(0, GAUGE, 0));
    }

    private static void putTakes20OtherObjects() {
        about("put: IllegalStateException if the agent has 20 other objects");
        Managetree x = withTwentyObjects(0);
        path(x, 0);
        thrown("20 others", STATE, () -> x.put(0, COUNTER, 0));
        path(x, 0, 5);
        due("19 others", 105, x.put(0, COUNTER, 0));
        due("19 others again", 0, x.put(0, GAUGE, 1));
        x.hide(0, HIDDEN);
        path(x, 0);
        thrown("19 others and a hidden one", STATE, () -> x.put(0, COUNTER, 0));
        path(x, 0, 5);
        due("19 others, in place of the hidden one", 1, x.put(0, GAUGE, 2));
        x.remove(0);
        path(x, 0);
        due("19 others, one removed", NONE, x.put(0, COUNTER, 0));
        path(x, 0, 5);
        thrown("20 others, in place of the removed one", STATE, () -> x.put(0, COUNTER, 0));
    }

    private static void removeTellsTheValue() {
        about("remove: Returns its value; NONE if there is none.");
        Managetree x = new Managetree();
        due("the empty path", NONE, x.remove(0));
        path(x, 1);
        due("none", NONE, x.remove(0));
        for (int value : new int[] {0, 999}) {
            x.put(0, GAUGE, value);
            due("value", value, x.remove(0));
            due("none then", NONE, x.remove(0));
            due("none to get", NONE, x.get(0));
        }
        Managetree full = withTwentyObjects(2);
        for (int i = 0; i < 20; i++) {
            path(full, i / 10, i % 10);
            due("of 20", 100 + i, full.remove(2));
            due("are left", 19 - i, full.seen(2));
        }
    }

    private static void changeTakes0To999() {
        about("change, amount: 0 to 999; IllegalArgumentException if amount is out of range");
        Managetree x = new Managetree();
        path(x, 1);
        x.put(0, GAUGE, 5);
        x.put(1, COUNTER, 5);
        for (int agent = 0; agent <= 1; agent++) {
            int holder = agent;
            for (int amount : new int[] {-1, 1000, LOWEST, HIGHEST}) {
                thrown("amount " + amount, ARGUMENT, () -> x.change(holder, amount));
                due("stays", 5, x.get(holder));
            }
        }
        due("gauge, most", 999, x.change(0, 999));
        due("gauge, least", 0, x.change(0, 0));
        due("counter, most", 4, x.change(1, 999));
        due("counter, least", 4, x.change(1, 0));
    }

    private static void changeTellsTheValueThen() {
        about("change: Sets the value of a gauge, or adds to a counter. Returns the value then.");
        Managetree x = new Managetree();
        path(x, 1);
        x.put(0, GAUGE, 600);
        x.put(1, COUNTER, 600);
        due("a gauge", 700, x.change(0, 700));
        due("a counter, up to 999", 999, x.change(1, 399));
        due("a counter, round to 0", 0, x.change(1, 1));
        due("a gauge that does not go round", 999, x.change(0, 999));
        due("nor then", 1, x.change(0, 1));
    }

    private static void changeNeedsAnObject() {
        about("change: IllegalStateException if there is no object");
        Managetree x = new Managetree();
        thrown("the empty path", STATE, () -> x.change(0, 0));
        path(x, 1);
        thrown("none", STATE, () -> x.change(0, 0));
        x.write(1);
        x.put(0, GAUGE, 0);
        thrown("another agent's", STATE, () -> x.change(1, 0));
        path(x, 1);
        thrown("a shorter path", STATE, () -> x.change(0, 0));
        path(x, 1, 1, 1);
        thrown("a longer path", STATE, () -> x.change(0, 0));
        path(x, 1, 1);
        x.remove(0);
        thrown("a removed one", STATE, () -> x.change(0, 0));
    }

    private static void getTellsTheValue() {
        about("get: Returns the value; NONE if there is none, or it is hidden.");
        Managetree x = new Managetree();
        due("the empty path", NONE, x.get(0));
        path(x, 0);
        due("none", NONE, x.get(0));
        x.put(0, GAUGE, 0);
        due("a 0", 0, x.get(0));
        x.change(0, 999);
        due("a 999", 999, x.get(0));
        due("another agent's", NONE, x.get(1));
        x.hide(0, HIDDEN);
        due("hidden", NONE, x.get(0));
        x.hide(0, SHOWN);
        due("shown", 999, x.get(0));
        x.hide(0, NEITHER);
        due("neither", 999, x.get(0));
        path(x, 0, 0);
        due("a longer path", NONE, x.get(0));
    }

    // ---- Promises 9 to 11: walks

    private static void promisesOfWalks() {
        nextWalksBehindThePath();
        nextWritesThePath();
        nextTellsNone();
        nextLeavesHiddenOnesOut();
        bulkTakes1To30();
        bulkWalksAsLongAsThereIsOne();
        nextBySortingTellsTheSame();
    }

    private static void nextWalksBehindThePath() {
        about("next: the first one that is not hidden and whose path comes behind the path that is written.");
        Managetree x = new Managetree();
        path(x, 5);
        x.put(0, GAUGE, 0);
        int[][] ahead = {{}, {0}, {4}, {4, 9, 9, 9}, {0, 0, 0, 0}};
        for (int[] one : ahead) {
            path(x, one);
            due("from ahead", 0, x.next(0));
            pathIs(x, 5);
        }
        int[][] behind = {{5}, {5, 0}, {5, 0, 0, 0}, {6}, {9, 9, 9, 9}};
        for (int[] one : behind) {
            path(x, one);
            due("from it or behind", NONE, x.next(0));
            pathIs(x, one);
        }
    }

    private static void nextWritesThePath() {
        about("next: Its path is written then.");
        Managetree x = new Managetree();
        path(x, 9, 9, 9, 9);
        x.put(0, GAUGE, 4);
        path(x, 0, 9);
        x.put(0, GAUGE, 2);
        x.wipe();
        due("from none to two numbers", 2, x.next(0));
        due("two numbers", 2, x.wipe());
        path(x, 1, 1, 1);
        due("from three to four", 4, x.next(0));
        thrown("it is full then", STATE, () -> x.write(0));
        due("four numbers", 4, x.wipe());
        path(x, 0, 0, 0, 0);
        due("from four to two", 2, x.next(0));
        pathIs(x, 0, 9);
        due("a third one can be written", 3, x.write(3));
        pathIs(x, 0, 9, 3);
    }

    private static void nextTellsNone() {
        about("next: Returns its value; NONE if there is none, and the path stays.");
        Managetree x = new Managetree();
        due("no objects", NONE, x.next(0));
        pathIs(x);
        path(x, 1);
        x.put(0, GAUGE, 0);
        due("at the last", NONE, x.next(0));
        due("again", NONE, x.next(0));
        pathIs(x, 1);
        path(x, 0, 9, 9, 9);
        due("another agent's", NONE, x.next(1));
        pathIs(x, 0, 9, 9, 9);
        due("a 0 is not none", 0, x.next(0));
    }

    private static void nextLeavesHiddenOnesOut() {
        about("next: the first one that is not hidden");
        Managetree x = withTwentyObjects(0);
        path(x, 0);
        x.hide(0, HIDDEN);
        path(x, 0, 9);
        x.hide(0, SHOWN);
        path(x, 1, 9);
        x.hide(0, HIDDEN);
        x.wipe();
        for (int value = 109; value <= 118; value++) {
            due("sorted", value, x.nextBySorting(0));
            due("walked to", value, x.next(0));
        }
        due("only a hidden one is left", NONE, x.next(0));
        due("only a hidden one is left, sorted", NONE, x.nextBySorting(0));
        pathIs(x, 1, 8);
    }

    private static void bulkTakes1To30() {
        about("bulk, most: 1 to 30; IllegalArgumentException if most is out of range");
        Managetree x = withTwentyObjects(0);
        x.wipe();
        for (int most : new int[] {0, -1, 31, LOWEST, HIGHEST}) {
            thrown("most " + most, ARGUMENT, () -> x.bulk(0, most));
            pathIs(x);
        }
        due("most 1", 1, x.bulk(0, 1));
        pathIs(x, 0, 0);
        due("most 30", 19, x.bulk(0, 30));
        pathIs(x, 1, 9);
    }

    private static void bulkWalksAsLongAsThereIsOne() {
        about("bulk: Walks on several times, as long as there is a next object. Returns to how many it walked.");
        Managetree x = withTwentyObjects(0);
        for (int most = 1; most <= 30; most++) {
            x.wipe();
            int walked = Math.min(most, 20);
            due("most " + most, walked, x.bulk(0, most));
            pathIs(x, (walked - 1) / 10, (walked - 1) % 10);
        }
        due("at the last", 0, x.bulk(0, 30));
        pathIs(x, 1, 9);
        path(x, 0, 9, 5);
        due("no objects", 0, x.bulk(1, 30));
        pathIs(x, 0, 9, 5);
        x.wipe();
        x.hide(0, HIDDEN);
        due("all hidden", 0, x.bulk(0, 30));
        pathIs(x);
    }

    private static void nextBySortingTellsTheSame() {
        about("nextBySorting: Returns what next() would tell; the path stays. NONE if there is none.");
        Managetree x = new Managetree();
        due("no objects", NONE, x.nextBySorting(0));
        int[][] paths = {{5}, {5, 0}, {4, 9, 9, 9}, {9, 9, 9, 9}, {0}};
        for (int i = 0; i < paths.length; i++) {
            path(x, paths[i]);
            x.put(0, COUNTER, i);
        }
        int[][] from = {{}, {0}, {0, 0}, {4, 9, 9, 9}, {5}, {5, 0}, {9, 9, 9, 8}, {9, 9, 9, 9}};
        int[] told = {4, 2, 2, 0, 1, 3, 3, NONE};
        for (int i = 0; i < from.length; i++) {
            path(x, from[i]);
            due("sorted", told[i], x.nextBySorting(0));
            pathIs(x, from[i]);
            due("another agent's", NONE, x.nextBySorting(1));
            due("next", told[i], x.next(0));
        }
        x.wipe();
        x.hide(0, HIDDEN);
        due("all hidden", NONE, x.nextBySorting(0));
        pathIs(x);
    }

    // ---- Promises 12 and 13: hiding

    private static void promisesOfHiding() {
        hideTakesThreeWays();
        hideTakesTheEmptyPath();
        hideTakes10OtherPaths();
        hideTakesNeitherBeyond10();
        seenCountsWhatIsNotHidden();
    }

    private static void hideTakesThreeWays() {
        about("hide, how: NEITHER, HIDDEN or SHOWN; IndexOutOfBoundsException if there is no such agent or how");
        Managetree x = new Managetree();
        path(x, 1);
        for (int how : new int[] {-1, 3, LOWEST, HIGHEST}) {
            thrown("how " + how, BOUNDS, () -> x.hide(0, how));
        }
        int before = NEITHER;
        for (int how : new int[] {NEITHER, HIDDEN, HIDDEN, SHOWN, SHOWN, NEITHER, SHOWN, HIDDEN, NEITHER}) {
            due("Returns how it was before", before, x.hide(0, how));
            before = how;
        }
    }

    private static void hideTakesTheEmptyPath() {
        about("hide: Hides or shows the path that is written, which may be empty.");
        Managetree x = new Managetree();
        due("neither before", NEITHER, x.hide(0, HIDDEN));
        path(x, 0);
        x.put(0, GAUGE, 1);
        due("hides all", NONE, x.get(0));
        due("0 is not the empty path", NEITHER, x.hide(0, NEITHER));
        x.wipe();
        due("hidden before", HIDDEN, x.hide(0, SHOWN));
        due("shows all", 1, x.seen(0));
        due("shown before", SHOWN, x.hide(0, NEITHER));
    }

    private static void hideTakes10OtherPaths() {
        about("hide: IllegalStateException if the agent has 10 other paths that are hidden or shown, "
                + "and how is not NEITHER");
        for (int how = HIDDEN; how <= SHOWN; how++) {
            int kind = how;
            Managetree x = new Managetree();
            for (int i = 0; i < 10; i++) {
                path(x, new int[] {9, 9, 9, i});
                due("path " + (i + 1), NEITHER, x.hide(0, kind));
            }
            x.wipe();
            thrown("10 others, hide the empty path", STATE, () -> x.hide(0, HIDDEN));
            thrown("10 others, show the empty path", STATE, () -> x.hide(0, SHOWN));
            path(x, 9, 9, 9);
            thrown("10 others, hide", STATE, () -> x.hide(0, HIDDEN));
            thrown("10 others, show", STATE, () -> x.hide(0, SHOWN));
            due("another agent's", NEITHER, x.hide(1, HIDDEN));
            path(x, 9, 9, 9, 0);
            due("9 others, the other way", kind, x.hide(0, 3 - kind));
            due("9 others, the same way", 3 - kind, x.hide(0, 3 - kind));
            path(x, 9, 9, 9, 9);
            due("9 others, the last", kind, x.hide(0, kind));
            due("neither", kind, x.hide(0, NEITHER));
            path(x, 9, 9, 9);
            due("9 others, a new one", NEITHER, x.hide(0, kind));
            path(x, 9, 9, 9, 9);
            thrown("10 others again", STATE, () -> x.hide(0, kind));
            for (int i = 0; i < 9; i++) {
                path(x, 9, 9, 9, i);
                due("all others stay", i == 0 ? 3 - kind : kind, x.hide(0, NEITHER));
            }
        }
    }

    private static void hideTakesNeitherBeyond10() {
        about("hide: and how is not NEITHER");
        Managetree x = new Managetree();
        for (int i = 0; i < 10; i++) {
            path(x, i);
            x.hide(0, HIDDEN);
        }
        x.wipe();
        due("neither beside 10 others", NEITHER, x.hide(0, NEITHER));
        path(x, 0, 0);
        due("neither beside 10 others", NEITHER, x.hide(0, NEITHER));
        for (int i = 0; i < 10; i++) {
            path(x, i);
            due("10 are still hidden", HIDDEN, x.hide(0, HIDDEN));
        }
    }

    private static void seenCountsWhatIsNotHidden() {
        about("seen: Returns how many objects of an agent are not hidden.");
        Managetree x = withTwentyObjects(0);
        due("none of an agent without objects", 0, x.seen(1));
        due("all", 20, x.seen(0));
        x.hide(0, HIDDEN);
        due("all but one", 19, x.seen(0));
        path(x, 0);
        x.hide(0, HIDDEN);
        due("all but 11", 9, x.seen(0));
        x.wipe();
        x.hide(0, HIDDEN);
        due("none", 0, x.seen(0));
        path(x, 1, 0);
        x.hide(0, SHOWN);
        due("one", 1, x.seen(0));
        x.remove(0);
        due("none then", 0, x.seen(0));
    }

    // ---- Promises 14 and 15: samples

    private static void promisesOfSamples() {
        sampleTellsTheValue();
        sampleNeedsAnObject();
        rateAlsoOfAHiddenOne();
        rateNeedsAnObject();
    }

    private static void sampleTellsTheValue() {
        about("sample: Returns its value.");
        Managetree x = new Managetree();
        path(x, 1);
        for (int kind = GAUGE; kind <= COUNTER; kind++) {
            x.put(0, kind, 0);
            due("least", 0, x.sample(0));
            x.change(0, 999);
            due("most", 999, x.sample(0));
        }
    }

    private static void sampleNeedsAnObject() {
        about("sample: IllegalStateException if there is no object, or it is hidden");
        Managetree x = new Managetree();
        thrown("the empty path", STATE, () -> x.sample(0));
        path(x, 1);
        thrown("none", STATE, () -> x.sample(0));
        x.put(0, COUNTER, 3);
        thrown("another agent's", STATE, () -> x.sample(1));
        x.wipe();
        thrown("the empty path still", STATE, () -> x.sample(0));
        x.hide(0, HIDDEN);
        path(x, 1);
        thrown("hidden by the empty path", STATE, () -> x.sample(0));
        x.hide(0, SHOWN);
        due("shown", 3, x.sample(0));
        x.hide(0, HIDDEN);
        thrown("hidden", STATE, () -> x.sample(0));
        x.hide(1, HIDDEN);
        x.hide(0, SHOWN);
        due("hidden for another agent", 3, x.sample(0));
        x.remove(0);
        thrown("removed", STATE, () -> x.sample(0));
    }

    private static void rateAlsoOfAHiddenOne() {
        about("rate: Returns the rate of an object, by the hour, also of a hidden one. NONE if there is none.");
        Managetree x = withASampleOf(10);
        x.pass(60);
        x.change(0, 7);
        x.sample(0);
        due("by the hour", 7, x.rate(0));
        x.hide(0, HIDDEN);
        due("hidden", 7, x.rate(0));
        x.wipe();
        x.hide(0, HIDDEN);
        path(x, 1);
        x.hide(0, NEITHER);
        due("hidden by the empty path", 7, x.rate(0));
        x.put(0, COUNTER, 0);
        due("none of a hidden one", NONE, x.rate(0));
    }

    private static void rateNeedsAnObject() {
        about("rate: IllegalStateException if there is no object");
        Managetree x = new Managetree();
        thrown("the empty path", STATE, () -> x.rate(0));
        path(x, 1);
        thrown("none", STATE, () -> x.rate(0));
        x.put(0, COUNTER, 0);
        due("one", NONE, x.rate(0));
        thrown("another agent's", STATE, () -> x.rate(1));
        x.remove(0);
        thrown("removed", STATE, () -> x.rate(0));
    }

    // ---- Promise 16: marks

    private static void promisesOfMarks() {
        lowIs0To998();
        highIsLowPlus1To999();
        setMarksInPlaceOfThoseBefore();
        setMarksNeedsAnObject();
    }

    private static void lowIs0To998() {
        about("setMarks, low: 0 to 998; IllegalArgumentException if low or high is out of range");
        Managetree x = withAnObjectOfEachAgent();
        for (int low : new int[] {0, 1, 997, 998}) {
            due("low " + low, "nothing", nameOfThrown(() -> marks(x, 0, low, 999)));
        }
        for (int low : new int[] {-1, 999, 1000, LOWEST, HIGHEST}) {
            thrown("low " + low, ARGUMENT, () -> marks(x, 0, low, 999));
            thrown("low " + low, ARGUMENT, () -> marks(x, 0, low, low + 1));
        }
    }

    private static void highIsLowPlus1To999() {
        about("setMarks, high: low + 1 to 999; IllegalArgumentException if low or high is out of range");
        Managetree x = withAnObjectOfEachAgent();
        for (int low : new int[] {0, 1, 500, 997, 998}) {
            for (int high : new int[] {low + 1, 999}) {
                due(low + " and " + high, "nothing", nameOfThrown(() -> marks(x, 0, low, high)));
            }
            for (int high : new int[] {low, low - 1, -1, 1000, LOWEST, HIGHEST}) {
                thrown(low + " and " + high, ARGUMENT, () -> marks(x, 0, low, high));
            }
        }
    }

    private static void setMarksInPlaceOfThoseBefore() {
        about("setMarks: Sets the marks of an object, in place of those before.");
        Managetree x = withMarks(GAUGE, 0, 100, 200);
        x.setMarks(0, 300, 400);
        x.change(0, 399);
        due("the high mark before is gone", 0, x.traps());
        x.change(0, 400);
        due("the new one stands", 1, x.traps());
        x.change(0, 300);
        x.change(0, 400);
        due("the new low mark stands", 1, x.repeats(0));
        x.setMarks(0, 0, 500);
        x.change(0, 499);
        due("armed, below a higher mark", 1, x.repeats(0));
        x.change(0, 500);
        x.change(0, 300);
        x.change(0, 500);
        due("the low mark before is gone", 2, x.repeats(0));
    }

    private static void setMarksNeedsAnObject() {
        about("setMarks: IllegalStateException if there is no object");
        Managetree x = new Managetree();
        thrown("the empty path", STATE, () -> marks(x, 0, 0, 1));
        path(x, 1);
        thrown("none", STATE, () -> marks(x, 0, 0, 1));
        x.put(0, GAUGE, 0);
        thrown("another agent's", STATE, () -> marks(x, 1, 0, 1));
        x.hide(0, HIDDEN);
        due("a hidden one", "nothing", nameOfThrown(() -> marks(x, 0, 0, 1)));
        x.change(0, 1);
        due("which sends a trap", 1, x.traps());
        x.remove(0);
        thrown("removed", STATE, () -> marks(x, 0, 0, 1));
    }

    // ---- Promises 17 and 18: agents and time

    private static void promisesOfTime() {
        restartTellsHowOften();
        passTakes1To1000();
        theClockEndsAt100000();
    }

    private static void restartTellsHowOften() {
        about("restart: Returns how often it was restarted by then.");
        Managetree x = new Managetree();
        for (int agent = 0; agent < 4; agent++) {
            for (int often = 1; often <= 1 + agent; often++) {
                due("agent " + agent, often, x.restart(agent));
            }
        }
        for (int agent = 0; agent < 4; agent++) {
            due("agent " + agent + " again", 2 + agent, x.restart(agent));
        }
    }

    private static void passTakes1To1000() {
        about("pass, minutes: 1 to 1000; IllegalArgumentException if minutes is out of range");
        Managetree x = new Managetree();
        for (int minutes : new int[] {0, -1, 1001, LOWEST, HIGHEST}) {
            thrown("minutes " + minutes, ARGUMENT, () -> x.pass(minutes));
        }
        due("one", 1, x.pass(1));
        due("two", 3, x.pass(2));
        due("999", 1002, x.pass(999));
        due("1000", 2002, x.pass(1000));
    }

    private static Managetree atMinute(int minute) {
        Managetree x = new Managetree();
        for (int left = minute; left > 0; left -= 1000) {
            x.pass(Math.min(left, 1000));
        }
        return x;
    }

    private static void theClockEndsAt100000() {
        about("pass: Returns the clock then; IllegalStateException if it would be above 100000");
        due("to the end by 1000", 100000, atMinute(99000).pass(1000));
        due("to the end by 1", 100000, atMinute(99999).pass(1));
        due("to one ahead of the end", 99999, atMinute(99000).pass(999));
        thrown("1 above the end by 1000", STATE, () -> atMinute(99001).pass(1000));
        thrown("1 above the end by 2", STATE, () -> atMinute(99999).pass(2));
        thrown("1 above the end by 1", STATE, () -> atMinute(100000).pass(1));
        thrown("1000 above the end", STATE, () -> atMinute(100000).pass(1000));
        Managetree x = atMinute(99999);
        thrown("above the end", STATE, () -> x.pass(2));
        due("then still to the end", 100000, x.pass(1));
    }

    // ---- Promises 19 to 22: traps

    private static void promisesOfTraps() {
        trapsTellsHowMany();
        noSuchTrap();
        trapAtTellsTheMinute();
        repeatsCount();
    }

    private static void trapsTellsHowMany() {
        about("traps: Returns how many traps were sent.");
        Managetree x = withAnObjectOfEachAgent();
        due("none", 0, x.traps());
        sendOne(x, 0);
        due("one", 1, x.traps());
        sendOne(x, 0);
        due("a repeat is none", 1, x.traps());
        for (int i = 2; i <= 50; i++) {
            x.pass(10);
            sendOne(x, 0);
            due("more", i, x.traps());
        }
    }

    private static void noSuchTrap() {
        about("trapOf, trapAt, repeats: IndexOutOfBoundsException if there is no such trap");
        Managetree x = withAnObjectOfEachAgent();
        for (int sent = 0; sent <= 4; sent++) {
            for (int trap : new int[] {-1, sent, sent + 1, LOWEST, HIGHEST}) {
                thrown(sent + " sent, trapOf " + trap, BOUNDS, () -> x.trapOf(trap));
                thrown(sent + " sent, trapAt " + trap, BOUNDS, () -> x.trapAt(trap));
                thrown(sent + " sent, repeats " + trap, BOUNDS, () -> x.repeats(trap));
            }
            for (int trap = 0; trap < sent; trap++) {
                due("trapOf " + trap, trap, x.trapOf(trap));
                due("trapAt " + trap, 0, x.trapAt(trap));
                due("repeats " + trap, 0, x.repeats(trap));
            }
            if (sent < 4) {
                sendOne(x, sent);
            }
        }
    }

    private static void trapAtTellsTheMinute() {
        about("trapAt: Returns the minute in which a trap was sent.");
        Managetree x = atMinute(99990);
        path(x, 1);
        x.put(0, GAUGE, 0);
        sendOne(x, 0);
        x.pass(9);
        sendOne(x, 0);
        due("a repeat in minute 99999", 1, x.repeats(0));
        x.pass(1);
        sendOne(x, 0);
        due("the first", 99990, x.trapAt(0));
        due("the last that can be", 100000, x.trapAt(1));
    }

    private static void repeatsCount() {
        about("repeats: Returns how many repeats a trap counts.");
        Managetree x = withAnObjectOfEachAgent();
        sendOne(x, 0);
        due("none", 0, x.repeats(0));
        for (int often = 1; often <= 20; often++) {
            sendOne(x, 0);
            due("more", often, x.repeats(0));
        }
        x.pass(10);
        sendOne(x, 0);
        due("none of the next trap", 0, x.repeats(1));
        due("no more of the first", 20, x.repeats(0));
    }

    // ---- Promises 23 to 25: neighbours

    private static void promisesOfNeighbours() {
        noSuchPortOrOther();
        bothAgentsAreTheSame();
        setNeighbourTellsTheOneBefore();
        reachTellsTheSet();
        reachGoesOverThreeLinks();
        halvesCountsPairs();
    }

    private static void noSuchPortOrOther() {
        about("setNeighbour: IndexOutOfBoundsException if there is no such agent, port or other");
        Managetree x = new Managetree();
        for (int port : new int[] {-1, 4, LOWEST, HIGHEST}) {
            thrown("port " + port, BOUNDS, () -> x.setNeighbour(0, port, 1));
        }
        for (int other : new int[] {-2, 4, LOWEST, HIGHEST}) {
            thrown("other " + other, BOUNDS, () -> x.setNeighbour(0, 0, other));
        }
        due("none was named", 0, x.halves());
        for (int other = -1; other <= 2; other++) {
            due("port 0", other == -1 ? NONE : other - 1, x.setNeighbour(3, 0, other));
            due("port 3", other == -1 ? NONE : other - 1, x.setNeighbour(3, 3, other));
        }
        due("agent 0, other 3", NONE, x.setNeighbour(0, 3, 3));
    }

    private static void bothAgentsAreTheSame() {
        about("setNeighbour: IllegalArgumentException if both agents are the same");
        Managetree x = new Managetree();
        for (int agent = 0; agent < 4; agent++) {
            int same = agent;
            for (int at = 0; at < 4; at++) {
                int port = at;
                thrown("the same", ARGUMENT, () -> x.setNeighbour(same, port, same));
                due("none was named", NONE, x.setNeighbour(same, port, NONE));
            }
        }
    }

    private static void setNeighbourTellsTheOneBefore() {
        about("setNeighbour: Returns the neighbour that was named before; NONE if none was.");
        Managetree x = new Managetree();
        int before = NONE;
        for (int other : new int[] {NONE, 0, 0, 3, 2, NONE, NONE, 3}) {
            due("before", before, x.setNeighbour(1, 2, other));
            before = other;
        }
        due("at another port", NONE, x.setNeighbour(1, 1, NONE));
        due("of another agent", NONE, x.setNeighbour(0, 2, NONE));
    }

    private static void link(Managetree x, int one, int other) {
        x.setNeighbour(one, other, other);
        x.setNeighbour(other, one, one);
    }

    private static void reachTellsTheSet() {
        about("reach: Returns the set: the bit a for the agent a; itself too.");
        Managetree x = new Managetree();
        for (int agent = 0; agent < 4; agent++) {
            due("itself alone", 1 << agent, x.reach(agent));
        }
        link(x, 0, 3);
        due("0 and 3", 9, x.reach(0));
        due("0 and 3", 9, x.reach(3));
        due("1", 2, x.reach(1));
        link(x, 1, 2);
        due("1 and 2", 6, x.reach(1));
        due("1 and 2", 6, x.reach(2));
        due("0 and 3 still", 9, x.reach(0));
        x.setNeighbour(0, 1, 1);
        due("named one way", 9, x.reach(0));
        x.setNeighbour(1, 0, 0);
        due("all", 15, x.reach(3));
    }

    private static void reachGoesOverThreeLinks() {
        about("reach: the agents that can be reached from an agent over links");
        for (int way = 0; way < 256; way++) {
            int[] line = {way & 3, way >> 2 & 3, way >> 4 & 3, way >> 6};
            if ((1 << line[0] | 1 << line[1] | 1 << line[2] | 1 << line[3]) != 15) {
                continue;
            }
            Managetree x = new Managetree();
            link(x, line[0], line[1]);
            link(x, line[1], line[2]);
            due("two links", 15 - (1 << line[3]), x.reach(line[0]));
            link(x, line[2], line[3]);
            for (int agent = 0; agent < 4; agent++) {
                due("three links in a line", 15, x.reach(agent));
            }
            x.setNeighbour(line[1], line[2], NONE);
            due("cut in the middle", 1 << line[0] | 1 << line[1], x.reach(line[0]));
            due("cut in the middle", 1 << line[2] | 1 << line[3], x.reach(line[3]));
        }
    }

    private static void halvesCountsPairs() {
        about("halves: Counts the pairs of agents of which one names the other, but not the other way round.");
        Managetree x = new Managetree();
        due("none", 0, x.halves());
        int pairs = 0;
        for (int one = 0; one < 4; one++) {
            for (int other = one + 1; other < 4; other++) {
                pairs++;
                boolean up = pairs % 2 == 0;
                x.setNeighbour(up ? one : other, up ? other : one, up ? other : one);
                due("pairs", pairs, x.halves());
            }
        }
        for (int one = 0; one < 4; one++) {
            for (int other = one + 1; other < 4; other++) {
                link(x, one, other);
                pairs--;
                due("pairs left", pairs, x.halves());
            }
        }
        due("none of six links", 0, x.halves());
        x.setNeighbour(0, 0, 1);
        x.setNeighbour(0, 1, NONE);
        due("a link by another port", 0, x.halves());
        x.setNeighbour(0, 0, NONE);
        due("half of it", 1, x.halves());
    }
}

/** For each promise of the document: ordinary inputs, the edges it names, and wrong inputs. */
public final class PromisesTest extends Checks {
    public static void main(String[] args) {
        constants();
        aNewObject();
        write();
        wipe();
        numberAt();
        put();
        putInPlaceOfAnother();
        putAtMostTwenty();
        remove();
        change();
        get();
        next();
        nextWhileObjectsChange();
        bulk();
        nextBySorting();
        hide();
        hideByTheLongestHead();
        hideAtMostTen();
        seen();
        sample();
        rate();
        rateIsNone();
        setMarks();
        marksArmAgain();
        restart();
        pass();
        traps();
        trapOfAndTrapAt();
        repeats();
        setNeighbour();
        reach();
        halves();
        end();
    }

    private static void constants() {
        about("the constants");
        due("NONE", -1, Managetree.NONE);
        due("GAUGE", 0, Managetree.GAUGE);
        due("COUNTER", 1, Managetree.COUNTER);
        due("NEITHER", 0, Managetree.NEITHER);
        due("HIDDEN", 1, Managetree.HIDDEN);
        due("SHOWN", 2, Managetree.SHOWN);
    }

    private static void aNewObject() {
        about("promise 1, a new object");
        Managetree x = new Managetree();
        due("the path is empty", NONE, x.numberAt(0));
        due("pass tells that the clock was 0", 1, x.pass(1));
        due("no traps", 0, x.traps());
        due("no halves", 0, x.halves());
        for (int agent = 0; agent < 4; agent++) {
            due("no objects", 0, x.seen(agent));
            due("none to walk to", NONE, x.next(agent));
            due("reaches itself alone", 1 << agent, x.reach(agent));
            due("nothing hidden", NEITHER, x.hide(agent, NEITHER));
            due("first restart", 1, x.restart(agent));
        }
        Managetree y = new Managetree();
        x.write(1);
        x.put(0, GAUGE, 7);
        due("another manager is not touched", 0, y.seen(0));
        due("nor its path", 0, y.wipe());
    }

    private static void write() {
        about("promise 2, write");
        Managetree x = new Managetree();
        due("first", 1, x.write(0));
        thrown("under", ARGUMENT, () -> x.write(-1));
        thrown("over", ARGUMENT, () -> x.write(10));
        thrown("far over", ARGUMENT, () -> x.write(HIGHEST));
        thrown("far under", ARGUMENT, () -> x.write(LOWEST));
        due("second", 2, x.write(9));
        due("third", 3, x.write(0));
        due("fourth", 4, x.write(5));
        thrown("fifth", STATE, () -> x.write(5));
        thrown("the argument comes first", ARGUMENT, () -> x.write(10));
        thrown("the argument comes first", ARGUMENT, () -> x.write(-1));
        pathIs(x, 0, 9, 0, 5);
    }

    private static void wipe() {
        about("promise 3, wipe");
        Managetree x = new Managetree();
        due("empty", 0, x.wipe());
        for (int length = 1; length <= 4; length++) {
            for (int i = 0; i < length; i++) {
                x.write(0);
            }
            due("numbers, all 0", length, x.wipe());
            due("empty then", 0, x.wipe());
            due("empty then", NONE, x.numberAt(0));
        }
        path(x, 3, 1);
        x.put(0, COUNTER, 4);
        x.change(0, 1);
        x.get(0);
        x.nextBySorting(0);
        x.sample(0);
        x.rate(0);
        x.setMarks(0, 1, 2);
        x.hide(0, HIDDEN);
        x.seen(0);
        x.restart(0);
        x.pass(1);
        x.traps();
        x.setNeighbour(0, 0, 1);
        x.reach(0);
        x.halves();
        x.remove(0);
        pathIs(x, 3, 1);
        due("all other calls leave the path", 2, x.wipe());
    }

    private static void numberAt() {
        about("promise 4, numberAt");
        Managetree x = new Managetree();
        path(x, 9, 0, 4);
        due("first", 9, x.numberAt(0));
        due("a 0 is a number", 0, x.numberAt(1));
        due("third", 4, x.numberAt(2));
        due("behind the path", NONE, x.numberAt(3));
        x.write(1);
        due("fourth", 1, x.numberAt(3));
        thrown("under", BOUNDS, () -> x.numberAt(-1));
        thrown("over", BOUNDS, () -> x.numberAt(4));
        thrown("far under", BOUNDS, () -> x.numberAt(LOWEST));
        thrown("far over", BOUNDS, () -> x.numberAt(HIGHEST));
    }

    private static void put() {
        about("promise 5, put");
        Managetree x = new Managetree();
        thrown("empty path", STATE, () -> x.put(0, GAUGE, 1));
        thrown("value before path", ARGUMENT, () -> x.put(0, GAUGE, -1));
        thrown("kind before value", BOUNDS, () -> x.put(0, -1, -1));
        thrown("agent before all", BOUNDS, () -> x.put(4, GAUGE, 1000));
        path(x, 0);
        thrown("agent under", BOUNDS, () -> x.put(-1, GAUGE, 0));
        thrown("agent over", BOUNDS, () -> x.put(4, GAUGE, 0));
        thrown("agent far over", BOUNDS, () -> x.put(HIGHEST, GAUGE, 0));
        thrown("agent far under", BOUNDS, () -> x.put(LOWEST, GAUGE, 0));
        thrown("kind under", BOUNDS, () -> x.put(0, -1, 0));
        thrown("kind over", BOUNDS, () -> x.put(0, 2, 0));
        thrown("value under", ARGUMENT, () -> x.put(0, GAUGE, -1));
        thrown("value over", ARGUMENT, () -> x.put(0, COUNTER, 1000));
        thrown("value far over", ARGUMENT, () -> x.put(0, COUNTER, HIGHEST));
        due("nothing was put", 0, x.seen(0));
        due("lowest", NONE, x.put(0, GAUGE, 0));
        due("highest", NONE, x.put(3, COUNTER, 999));
        due("in place", 0, x.put(0, COUNTER, 5));
        due("still one", 1, x.seen(0));
        due("other agent", 999, x.get(3));
        thrown("wrong value in place", ARGUMENT, () -> x.put(0, GAUGE, 1000));
        due("stays", 5, x.get(0));
        due("stays a counter", 4, x.change(0, 999));
        path(x, 0, 0);
        due("0.0 is not 0", NONE, x.put(0, GAUGE, 8));
        due("two", 2, x.seen(0));
        x.hide(0, HIDDEN);
        due("a hidden one's value is told", 8, x.put(0, GAUGE, 9));
        due("and it stays hidden", NONE, x.get(0));
    }

    private static void putInPlaceOfAnother() {
        about("promise 5, put in place of another");
        Managetree x = new Managetree();
        path(x, 2);
        x.put(0, COUNTER, 0);
        x.setMarks(0, 10, 20);
        x.sample(0);
        x.pass(1);
        x.sample(0);
        due("rate", 0, x.rate(0));
        x.put(0, COUNTER, 0);
        due("samples are lost", NONE, x.rate(0));
        x.sample(0);
        due("both of them", NONE, x.rate(0));
        x.change(0, 30);
        due("marks are lost", 0, x.traps());
        x.put(0, GAUGE, 50);
        due("the kind is the new one", 30, x.change(0, 30));
        x.setMarks(0, 10, 20);
        x.put(0, GAUGE, 5);
        x.change(0, 30);
        due("put sets no value with marks", 0, x.traps());
        x.setMarks(0, 10, 20);
        x.change(0, 30);
        x.put(0, GAUGE, 99);
        due("traps stay", 1, x.traps());
    }

    private static void putAtMostTwenty() {
        about("promise 5, put at most 20");
        Managetree x = new Managetree();
        for (int i = 0; i < 20; i++) {
            path(x, i / 10, i % 10);
            due("put " + i, NONE, x.put(1, GAUGE, i));
        }
        path(x, 5);
        thrown("the 21st", STATE, () -> x.put(1, GAUGE, 1));
        thrown("value before the 21st", ARGUMENT, () -> x.put(1, GAUGE, 1000));
        due("20 stay", 20, x.seen(1));
        due("another agent", NONE, x.put(2, GAUGE, 1));
        path(x, 1, 9);
        due("in place of one of 20", 19, x.put(1, COUNTER, 3));
        due("remove one", 3, x.remove(1));
        path(x, 5);
        due("then one more", NONE, x.put(1, GAUGE, 1));
        x.hide(1, HIDDEN);
        path(x, 6);
        thrown("hidden ones count", STATE, () -> x.put(1, GAUGE, 1));
    }

    private static void remove() {
        about("promise 6, remove");
        Managetree x = new Managetree();
        due("empty path", NONE, x.remove(0));
        path(x, 1);
        due("none", NONE, x.remove(0));
        x.put(0, COUNTER, 77);
        x.put(1, COUNTER, 78);
        thrown("under", BOUNDS, () -> x.remove(-1));
        thrown("over", BOUNDS, () -> x.remove(4));
        thrown("far over", BOUNDS, () -> x.remove(HIGHEST));
        due("its value", 77, x.remove(0));
        due("gone", NONE, x.remove(0));
        due("gone", NONE, x.get(0));
        due("other agent stays", 78, x.get(1));
        x.hide(1, HIDDEN);
        due("a hidden one", 78, x.remove(1));
        x.hide(1, NEITHER);
        due("gone", 0, x.seen(1));
        x.put(0, COUNTER, 1);
        x.setMarks(0, 5, 6);
        x.sample(0);
        x.pass(1);
        x.sample(0);
        x.remove(0);
        x.put(0, COUNTER, 1);
        due("samples are lost", NONE, x.rate(0));
        x.change(0, 100);
        due("marks are lost", 0, x.traps());
    }

    private static void change() {
        about("promise 7, change");
        Managetree x = new Managetree();
        thrown("empty path", STATE, () -> x.change(0, 1));
        path(x, 1);
        thrown("none there", STATE, () -> x.change(0, 1));
        thrown("amount before object", ARGUMENT, () -> x.change(0, 1000));
        thrown("agent before amount", BOUNDS, () -> x.change(4, 1000));
        x.put(0, GAUGE, 500);
        x.put(1, COUNTER, 500);
        thrown("agent under", BOUNDS, () -> x.change(-1, 1));
        thrown("amount under", ARGUMENT, () -> x.change(0, -1));
        thrown("amount over", ARGUMENT, () -> x.change(1, 1000));
        thrown("amount far under", ARGUMENT, () -> x.change(1, LOWEST));
        due("gauge stays", 500, x.get(0));
        due("gauge is set", 3, x.change(0, 3));
        due("gauge is set", 999, x.change(0, 999));
        due("gauge is set", 0, x.change(0, 0));
        due("counter adds", 999, x.change(1, 499));
        due("counter goes round", 0, x.change(1, 1));
        due("by the most", 999, x.change(1, 999));
        due("round by the most", 998, x.change(1, 999));
        due("by nothing", 998, x.change(1, 0));
        due("got", 998, x.get(1));
        x.hide(1, HIDDEN);
        due("a hidden one", 1, x.change(1, 3));
    }

    private static void get() {
        about("promise 8, get");
        Managetree x = new Managetree();
        due("empty path", NONE, x.get(0));
        path(x, 4, 4);
        due("none", NONE, x.get(0));
        x.put(0, GAUGE, 0);
        due("a 0", 0, x.get(0));
        x.write(4);
        due("longer path", NONE, x.get(0));
        path(x, 4);
        due("shorter path", NONE, x.get(0));
        x.hide(0, HIDDEN);
        path(x, 4, 4);
        due("hidden", NONE, x.get(0));
        x.hide(0, SHOWN);
        due("shown", 0, x.get(0));
        due("other agent", NONE, x.get(1));
        thrown("under", BOUNDS, () -> x.get(-1));
        thrown("over", BOUNDS, () -> x.get(4));
        thrown("far over", BOUNDS, () -> x.get(HIGHEST));
    }

    private static Managetree withSevenObjects() {
        Managetree x = new Managetree();
        int[][] paths = {{9}, {1, 2}, {1}, {1, 1, 9}, {0, 0, 0, 0}, {1, 2, 0, 0}, {0, 9, 9, 9}};
        int[] values = {70, 50, 30, 40, 10, 60, 20};
        for (int i = 0; i < paths.length; i++) {
            path(x, paths[i]);
            x.put(2, i % 2, values[i]);
        }
        x.wipe();
        return x;
    }

    private static void next() {
        about("promise 9, next");
        Managetree x = withSevenObjects();
        thrown("under", BOUNDS, () -> x.next(-1));
        thrown("over", BOUNDS, () -> x.next(4));
        thrown("far over", BOUNDS, () -> x.next(HIGHEST));
        pathIs(x);
        for (int value = 10; value <= 70; value += 10) {
            due("walk", value, x.next(2));
        }
        pathIs(x, 9);
        due("behind the last", NONE, x.next(2));
        pathIs(x, 9);
        due("another agent has none", NONE, x.next(0));
        path(x, 0);
        due("from a path without object", 10, x.next(2));
        pathIs(x, 0, 0, 0, 0);
        path(x, 1, 1, 9, 0);
        due("from behind a longer one", 50, x.next(2));
        pathIs(x, 1, 2);
        path(x, 8, 9, 9, 9);
        due("to the last", 70, x.next(2));
        path(x, 9, 0);
        due("9.0 comes behind 9", NONE, x.next(2));
        pathIs(x, 9, 0);
    }

    private static void nextWhileObjectsChange() {
        about("promise 9, next while objects change");
        Managetree x = withSevenObjects();
        due("first", 10, x.next(2));
        x.remove(2);
        due("second", 20, x.next(2));
        due("third", 30, x.next(2));
        path(x, 1, 0);
        x.put(2, GAUGE, 35);
        path(x, 1);
        due("one put behind", 35, x.next(2));
        x.hide(2, HIDDEN);
        path(x, 1, 2);
        x.hide(2, HIDDEN);
        path(x, 1);
        due("hidden ones are left out", 40, x.next(2));
        due("and those below them", 70, x.next(2));
        path(x, 9);
        x.hide(2, HIDDEN);
        path(x, 1, 2);
        due("none but hidden ones", NONE, x.next(2));
        pathIs(x, 1, 2);
        x.hide(2, NEITHER);
        path(x, 1, 1, 9);
        due("not hidden any more", 50, x.next(2));
    }

    private static void bulk() {
        about("promise 10, bulk");
        Managetree x = withSevenObjects();
        thrown("agent under", BOUNDS, () -> x.bulk(-1, 1));
        thrown("agent over", BOUNDS, () -> x.bulk(4, 1));
        thrown("agent before most", BOUNDS, () -> x.bulk(4, 0));
        thrown("most under", ARGUMENT, () -> x.bulk(2, 0));
        thrown("most over", ARGUMENT, () -> x.bulk(2, 31));
        thrown("most far over", ARGUMENT, () -> x.bulk(2, HIGHEST));
        thrown("most far under", ARGUMENT, () -> x.bulk(2, LOWEST));
        pathIs(x);
        due("one", 1, x.bulk(2, 1));
        pathIs(x, 0, 0, 0, 0);
        due("three", 3, x.bulk(2, 3));
        pathIs(x, 1, 1, 9);
        due("what is left", 3, x.bulk(2, 30));
        pathIs(x, 9);
        due("nothing", 0, x.bulk(2, 30));
        pathIs(x, 9);
        x.wipe();
        due("an agent without objects", 0, x.bulk(1, 30));
        pathIs(x);
        path(x, 1);
        x.hide(2, HIDDEN);
        x.wipe();
        due("only what is not hidden", 3, x.bulk(2, 30));
        for (int i = 0; i < 20; i++) {
            path(x, i % 10, i / 10);
            x.put(3, GAUGE, i);
        }
        x.wipe();
        due("all of twenty", 20, x.bulk(3, 30));
        pathIs(x, 9, 1);
        x.wipe();
        due("all of twenty at once", 20, x.bulk(3, 20));
        x.wipe();
        due("one less", 19, x.bulk(3, 19));
        pathIs(x, 9, 0);
    }

    private static void nextBySorting() {
        about("promise 11, nextBySorting");
        Managetree x = withSevenObjects();
        thrown("under", BOUNDS, () -> x.nextBySorting(-1));
        thrown("over", BOUNDS, () -> x.nextBySorting(4));
        thrown("far under", BOUNDS, () -> x.nextBySorting(LOWEST));
        due("another agent", NONE, x.nextBySorting(3));
        for (int value = 10; value <= 70; value += 10) {
            due("as next", value, x.nextBySorting(2));
            due("again", value, x.nextBySorting(2));
            due("next", value, x.next(2));
        }
        due("behind the last", NONE, x.nextBySorting(2));
        pathIs(x, 9);
        path(x, 1, 1);
        x.hide(2, HIDDEN);
        due("not a hidden one", 50, x.nextBySorting(2));
        pathIs(x, 1, 1);
        path(x, 1, 2);
        x.remove(2);
        path(x, 1, 1);
        due("nor a removed one", 60, x.nextBySorting(2));
        due("nor another agent's", NONE, x.nextBySorting(0));
        pathIs(x, 1, 1);
    }

    private static void hide() {
        about("promise 12, hide");
        Managetree x = new Managetree();
        thrown("agent under", BOUNDS, () -> x.hide(-1, HIDDEN));
        thrown("agent over", BOUNDS, () -> x.hide(4, HIDDEN));
        thrown("how under", BOUNDS, () -> x.hide(0, -1));
        thrown("how over", BOUNDS, () -> x.hide(0, 3));
        thrown("how far over", BOUNDS, () -> x.hide(0, HIGHEST));
        due("the empty path", NEITHER, x.hide(0, HIDDEN));
        due("before", HIDDEN, x.hide(0, SHOWN));
        due("before", SHOWN, x.hide(0, SHOWN));
        due("before", SHOWN, x.hide(0, NEITHER));
        due("before", NEITHER, x.hide(0, NEITHER));
        path(x, 0);
        due("0 is not the empty path", NEITHER, x.hide(0, HIDDEN));
        path(x, 0, 0);
        due("0.0 is not 0", NEITHER, x.hide(0, SHOWN));
        due("nor for another agent", NEITHER, x.hide(1, HIDDEN));
        path(x, 0);
        due("0", HIDDEN, x.hide(0, NEITHER));
        path(x, 0, 0);
        due("0.0", SHOWN, x.hide(0, NEITHER));
        due("0.0 of another agent", HIDDEN, x.hide(1, NEITHER));
    }

    private static void hideByTheLongestHead() {
        about("promise 12, hide by the longest head");
        Managetree x = new Managetree();
        path(x, 1, 2, 3, 4);
        x.put(0, GAUGE, 6);
        int[] how = {HIDDEN, SHOWN, HIDDEN, SHOWN, HIDDEN};
        for (int length = 0; length <= 4; length++) {
            path(x, head(length));
            x.hide(0, how[length]);
            path(x, 1, 2, 3, 4);
            due("head of " + length, how[length] == HIDDEN ? NONE : 6, x.get(0));
        }
        for (int length = 4; length >= 0; length--) {
            path(x, head(length));
            x.hide(0, NEITHER);
            path(x, 1, 2, 3, 4);
            boolean hidden = length > 0 && how[length - 1] == HIDDEN;
            due("without head of " + length, hidden ? NONE : 6, x.get(0));
        }
        path(x, 1, 3);
        x.hide(0, HIDDEN);
        path(x, 2);
        x.hide(0, HIDDEN);
        path(x, 1, 2, 3, 4);
        due("not by a path beside it", 6, x.get(0));
        path(x, 1, 2);
        x.put(0, GAUGE, 7);
        path(x, 1, 2, 3);
        x.hide(0, HIDDEN);
        path(x, 1, 2);
        due("not by a longer path", 7, x.get(0));
        due("but the one below", 1, x.seen(0));
    }

    private static void hideAtMostTen() {
        about("promise 12, hide at most 10");
        Managetree x = new Managetree();
        for (int i = 0; i < 10; i++) {
            path(x, i);
            due("hide " + i, NEITHER, x.hide(3, i % 2 == 0 ? HIDDEN : SHOWN));
        }
        path(x, 1, 1);
        thrown("the 11th hidden", STATE, () -> x.hide(3, HIDDEN));
        thrown("the 11th shown", STATE, () -> x.hide(3, SHOWN));
        thrown("how comes first", BOUNDS, () -> x.hide(3, 3));
        due("the 11th as neither", NEITHER, x.hide(3, NEITHER));
        due("another agent", NEITHER, x.hide(2, HIDDEN));
        path(x, 0);
        due("one of the 10", HIDDEN, x.hide(3, SHOWN));
        due("one of the 10", SHOWN, x.hide(3, HIDDEN));
        path(x, 7);
        due("one of the 10 as neither", SHOWN, x.hide(3, NEITHER));
        due("is neither then", NEITHER, x.hide(3, NEITHER));
        path(x, 1, 1);
        due("then another", NEITHER, x.hide(3, HIDDEN));
        path(x, 7);
        thrown("then 10 again", STATE, () -> x.hide(3, SHOWN));
        path(x, 9);
        due("the others stay", SHOWN, x.hide(3, SHOWN));
        path(x, 8);
        due("the others stay", HIDDEN, x.hide(3, HIDDEN));
    }

    private static void seen() {
        about("promise 13, seen");
        Managetree x = withSevenObjects();
        due("all", 7, x.seen(2));
        due("none", 0, x.seen(1));
        thrown("under", BOUNDS, () -> x.seen(-1));
        thrown("over", BOUNDS, () -> x.seen(4));
        thrown("far over", BOUNDS, () -> x.seen(HIGHEST));
        path(x, 1);
        x.hide(2, HIDDEN);
        due("without 1 and all below", 3, x.seen(2));
        x.write(2);
        x.hide(2, SHOWN);
        due("but with 1.2 and all below", 5, x.seen(2));
        x.hide(1, HIDDEN);
        due("whatever another agent hides", 5, x.seen(2));
        x.remove(2);
        due("without a removed one", 4, x.seen(2));
    }

    private static void sample() {
        about("promise 14, sample");
        Managetree x = new Managetree();
        thrown("empty path", STATE, () -> x.sample(0));
        path(x, 1);
        thrown("none there", STATE, () -> x.sample(0));
        thrown("agent comes first", BOUNDS, () -> x.sample(4));
        thrown("agent under", BOUNDS, () -> x.sample(-1));
        x.put(0, COUNTER, 12);
        x.put(1, GAUGE, 13);
        due("counter", 12, x.sample(0));
        due("gauge", 13, x.sample(1));
        x.pass(1);
        x.change(0, 5);
        x.wipe();
        x.hide(0, HIDDEN);
        path(x, 1);
        thrown("hidden", STATE, () -> x.sample(0));
        due("no sample was taken", NONE, x.rate(0));
        x.hide(0, SHOWN);
        due("shown", 17, x.sample(0));
        due("then one is", 300, x.rate(0));
        x.hide(0, HIDDEN);
        x.pass(1);
        thrown("hidden", STATE, () -> x.sample(0));
        due("the two before are kept", 300, x.rate(0));
    }

    private static void rate() {
        about("promise 15, rate");
        Managetree x = new Managetree();
        thrown("empty path", STATE, () -> x.rate(0));
        path(x, 1);
        thrown("none there", STATE, () -> x.rate(0));
        thrown("agent comes first", BOUNDS, () -> x.rate(4));
        thrown("agent under", BOUNDS, () -> x.rate(-1));
        x.put(0, COUNTER, 990);
        x.sample(0);
        x.pass(7);
        x.change(0, 9);
        x.sample(0);
        due("9 in 7 minutes, rounded down", 77, x.rate(0));
        x.pass(7);
        x.change(0, 9);
        due("no sample yet", 77, x.rate(0));
        x.sample(0);
        due("round: 9 in 7 minutes", 77, x.rate(0));
        x.pass(1);
        x.sample(0);
        due("nothing in 1 minute", 0, x.rate(0));
        x.pass(1);
        x.change(0, 999);
        x.sample(0);
        due("the most", 59940, x.rate(0));
        x.pass(1000);
        x.change(0, 1);
        x.sample(0);
        due("1 in 1000 minutes", 0, x.rate(0));
        x.hide(0, HIDDEN);
        due("of a hidden one", 0, x.rate(0));
        x.hide(0, NEITHER);
        x.pass(1);
        x.change(0, 700);
        x.change(0, 700);
        x.sample(0);
        due("twice round looks like 400", 24000, x.rate(0));
    }

    private static void rateIsNone() {
        about("promise 15, rate is none");
        Managetree x = new Managetree();
        path(x, 1);
        x.put(0, COUNTER, 5);
        due("no sample", NONE, x.rate(0));
        x.sample(0);
        due("one sample", NONE, x.rate(0));
        x.sample(0);
        due("no minute between", NONE, x.rate(0));
        x.pass(1);
        x.sample(0);
        due("a minute between", 0, x.rate(0));
        x.restart(0);
        due("restarted after both", 0, x.rate(0));
        x.pass(1);
        x.sample(0);
        due("restarted between", NONE, x.rate(0));
        x.pass(1);
        x.restart(1);
        x.sample(0);
        due("another agent restarted", 0, x.rate(0));
        x.put(0, GAUGE, 5);
        x.sample(0);
        x.pass(1);
        x.change(0, 10);
        x.sample(0);
        due("a gauge", NONE, x.rate(0));
    }

    private static void setMarks() {
        about("promise 16, setMarks");
        Managetree x = new Managetree();
        thrown("empty path", STATE, () -> marks(x, 0, 0, 1));
        path(x, 1);
        thrown("none there", STATE, () -> marks(x, 0, 0, 1));
        thrown("marks before object", ARGUMENT, () -> marks(x, 0, 1, 1));
        thrown("agent before marks", BOUNDS, () -> marks(x, 4, 1, 1));
        thrown("agent under", BOUNDS, () -> marks(x, -1, 0, 1));
        x.put(0, GAUGE, 500);
        x.setMarks(0, 100, 200);
        thrown("low under", ARGUMENT, () -> marks(x, 0, -1, 900));
        thrown("low over", ARGUMENT, () -> marks(x, 0, 999, 1000));
        thrown("low far over", ARGUMENT, () -> marks(x, 0, HIGHEST, LOWEST));
        thrown("low far under", ARGUMENT, () -> marks(x, 0, LOWEST, 900));
        thrown("high over", ARGUMENT, () -> marks(x, 0, 500, 1000));
        thrown("high far over", ARGUMENT, () -> marks(x, 0, 500, HIGHEST));
        thrown("high as low", ARGUMENT, () -> marks(x, 0, 500, 500));
        thrown("high below low", ARGUMENT, () -> marks(x, 0, 500, 499));
        due("setting sends nothing", 0, x.traps());
        x.change(0, 200);
        due("at the high mark before", 1, x.traps());
        x.pass(10);
        x.setMarks(0, 0, 999);
        x.change(0, 998);
        due("below the new high mark", 1, x.traps());
        x.change(0, 999);
        due("armed when set, at the new one", 2, x.traps());
        x.pass(10);
        x.setMarks(0, 998, 999);
        x.change(0, 999);
        due("the highest marks, armed anew", 3, x.traps());
        x.pass(10);
        x.setMarks(0, 0, 1);
        x.change(0, 1);
        due("the lowest marks", 4, x.traps());
        x.put(1, GAUGE, 0);
        x.hide(1, HIDDEN);
        x.setMarks(1, 0, 1);
        x.change(1, 5);
        due("a hidden one's marks", 5, x.traps());
    }

    private static void marksArmAgain() {
        about("promise 16, marks arm again");
        Managetree x = new Managetree();
        path(x, 1);
        x.put(0, GAUGE, 0);
        x.setMarks(0, 100, 200);
        x.change(0, 199);
        due("below the high mark", 0, x.traps());
        x.change(0, 200);
        due("at it", 1, x.traps());
        x.pass(10);
        x.change(0, 999);
        due("armed no more", 1, x.traps());
        x.change(0, 101);
        x.change(0, 999);
        due("above the low mark does not arm", 1, x.traps());
        x.change(0, 100);
        due("arming sends nothing", 1, x.traps());
        x.change(0, 150);
        x.change(0, 201);
        due("at it does, and it stays armed between", 2, x.traps());
        x.change(0, 0);
        x.change(0, 300);
        due("a repeat", 1, x.repeats(1));
        x.change(0, 400);
        due("armed no more by a repeat", 1, x.repeats(1));
        x.put(1, COUNTER, 900);
        x.setMarks(1, 100, 950);
        x.change(1, 99);
        due("a counter", 3, x.traps());
        x.change(1, 101);
        x.pass(10);
        x.change(1, 850);
        due("armed by going round to the low mark", 4, x.traps());
    }

    private static void restart() {
        about("promise 17, restart");
        Managetree x = withSevenObjects();
        thrown("under", BOUNDS, () -> x.restart(-1));
        thrown("over", BOUNDS, () -> x.restart(4));
        thrown("far over", BOUNDS, () -> x.restart(HIGHEST));
        path(x, 1, 1, 9);
        x.setMarks(2, 5, 45);
        x.put(1, COUNTER, 8);
        x.change(2, 10);
        due("a trap", 1, x.traps());
        x.hide(2, HIDDEN);
        due("first", 1, x.restart(2));
        x.hide(2, NEITHER);
        due("a hidden counter too", 0, x.get(2));
        due("not another agent's", 8, x.get(1));
        due("nothing sent", 1, x.traps());
        x.change(2, 50);
        due("armed again", 1, x.repeats(0));
        int[] values = {10, 20, 30, 50, 0, 0, 70};
        x.wipe();
        for (int i = 0; i < values.length; i++) {
            due("counters are 0, gauges stay", values[i], x.next(2));
        }
        due("second", 2, x.restart(2));
        due("another agent", 1, x.restart(0));
        due("third", 3, x.restart(2));
        due("after the last", NONE, x.next(2));
        for (int i = 0; i < 20; i++) {
            path(x, i / 10, i % 10);
            x.put(3, COUNTER, 1 + i);
        }
        due("of an agent with 20 counters", 1, x.restart(3));
        for (int i = 0; i < 20; i++) {
            path(x, i / 10, i % 10);
            due("each of them is 0", 0, x.get(3));
        }
    }

    private static void pass() {
        about("promise 18, pass");
        Managetree x = new Managetree();
        thrown("none", ARGUMENT, () -> x.pass(0));
        thrown("under", ARGUMENT, () -> x.pass(-1));
        thrown("over", ARGUMENT, () -> x.pass(1001));
        thrown("far over", ARGUMENT, () -> x.pass(HIGHEST));
        thrown("far under", ARGUMENT, () -> x.pass(LOWEST));
        due("one", 1, x.pass(1));
        for (int i = 1; i <= 99; i++) {
            due("a thousand", 1 + 1000 * i, x.pass(1000));
        }
        thrown("above the end", STATE, () -> x.pass(1000));
        due("to one ahead of the end", 99999, x.pass(998));
        thrown("above the end", STATE, () -> x.pass(2));
        due("to the end", 100000, x.pass(1));
        thrown("above the end", STATE, () -> x.pass(1));
        thrown("minutes come first", ARGUMENT, () -> x.pass(1001));
        thrown("minutes come first", ARGUMENT, () -> x.pass(0));
        path(x, 1);
        x.put(0, GAUGE, 1);
        x.setMarks(0, 1, 2);
        x.change(0, 2);
        due("the clock stays", 100000, x.trapAt(0));
    }

    private static void traps() {
        about("promise 19, traps");
        Managetree x = new Managetree();
        due("none", 0, x.traps());
        path(x, 1);
        x.put(0, GAUGE, 0);
        x.put(1, GAUGE, 0);
        x.setMarks(0, 10, 20);
        x.setMarks(1, 10, 20);
        x.change(0, 20);
        due("one", 1, x.traps());
        x.change(1, 20);
        due("another agent's", 2, x.traps());
        path(x, 1, 0);
        x.put(0, GAUGE, 0);
        x.setMarks(0, 10, 20);
        x.change(0, 20);
        due("another path's", 3, x.traps());
        path(x, 1);
        x.change(0, 0);
        x.change(0, 20);
        due("not a repeat", 3, x.traps());
        x.remove(0);
        due("traps stay", 3, x.traps());
        x.put(0, COUNTER, 500);
        x.setMarks(0, 10, 20);
        x.change(0, 0);
        due("nor of a new object at the path", 3, x.traps());
        for (int i = 0; i < 100; i++) {
            x.pass(10);
            x.setMarks(0, 10, 20);
            x.change(0, 0);
        }
        due("many", 103, x.traps());
        due("the last", 1000, x.trapAt(102));
    }

    private static void trapOfAndTrapAt() {
        about("promise 20 and 21, trapOf and trapAt");
        Managetree x = new Managetree();
        thrown("none yet", BOUNDS, () -> x.trapOf(0));
        thrown("none yet", BOUNDS, () -> x.trapAt(0));
        path(x, 1);
        for (int agent = 3; agent >= 0; agent--) {
            x.put(agent, GAUGE, 0);
            x.setMarks(agent, 10, 20);
            x.change(agent, 20);
            x.pass(3);
        }
        for (int trap = 0; trap < 4; trap++) {
            due("agent of " + trap, 3 - trap, x.trapOf(trap));
            due("minute of " + trap, 3 * trap, x.trapAt(trap));
        }
        thrown("under", BOUNDS, () -> x.trapOf(-1));
        thrown("over", BOUNDS, () -> x.trapOf(4));
        thrown("far over", BOUNDS, () -> x.trapOf(HIGHEST));
        thrown("far under", BOUNDS, () -> x.trapOf(LOWEST));
        thrown("under", BOUNDS, () -> x.trapAt(-1));
        thrown("over", BOUNDS, () -> x.trapAt(4));
        thrown("far over", BOUNDS, () -> x.trapAt(HIGHEST));
        thrown("far under", BOUNDS, () -> x.trapAt(LOWEST));
    }

    private static void repeats() {
        about("promise 22, repeats");
        Managetree x = new Managetree();
        thrown("none yet", BOUNDS, () -> x.repeats(0));
        path(x, 1);
        x.put(0, GAUGE, 0);
        fire(x);
        due("at first", 0, x.repeats(0));
        fire(x);
        due("in the same minute", 1, x.repeats(0));
        x.pass(9);
        fire(x);
        due("9 minutes after", 2, x.repeats(0));
        due("the minute stays", 0, x.trapAt(0));
        x.pass(1);
        fire(x);
        due("10 minutes after the trap, 1 after its repeat", 2, x.traps());
        due("no more repeats", 2, x.repeats(0));
        due("none of the new one", 0, x.repeats(1));
        fire(x);
        due("the last one counts", 1, x.repeats(1));
        due("not the one before", 2, x.repeats(0));
        x.put(1, GAUGE, 0);
        x.setMarks(1, 0, 1);
        x.change(1, 1);
        fire(x);
        due("though another agent's is newer", 2, x.repeats(1));
        due("which counts none", 0, x.repeats(2));
        x.remove(0);
        x.put(0, COUNTER, 0);
        fire(x);
        due("of a new object at the path", 3, x.repeats(1));
        thrown("under", BOUNDS, () -> x.repeats(-1));
        thrown("over", BOUNDS, () -> x.repeats(3));
        thrown("far over", BOUNDS, () -> x.repeats(HIGHEST));
    }

    private static void setNeighbour() {
        about("promise 23, setNeighbour");
        Managetree x = new Managetree();
        thrown("agent under", BOUNDS, () -> x.setNeighbour(-1, 0, 1));
        thrown("agent over", BOUNDS, () -> x.setNeighbour(4, 0, 1));
        thrown("port under", BOUNDS, () -> x.setNeighbour(0, -1, 1));
        thrown("port over", BOUNDS, () -> x.setNeighbour(0, 4, 1));
        thrown("other under", BOUNDS, () -> x.setNeighbour(0, 0, -2));
        thrown("other over", BOUNDS, () -> x.setNeighbour(0, 0, 4));
        thrown("other far over", BOUNDS, () -> x.setNeighbour(0, 0, HIGHEST));
        thrown("itself", ARGUMENT, () -> x.setNeighbour(0, 0, 0));
        thrown("itself", ARGUMENT, () -> x.setNeighbour(3, 0, 3));
        thrown("the port comes first", BOUNDS, () -> x.setNeighbour(0, 4, 0));
        thrown("the agent comes first", BOUNDS, () -> x.setNeighbour(4, 0, 4));
        thrown("no agent is NONE", BOUNDS, () -> x.setNeighbour(-1, 0, -1));
        due("nothing was named", 0, x.halves());
        due("none", NONE, x.setNeighbour(0, 0, NONE));
        due("none", NONE, x.setNeighbour(0, 0, 3));
        due("at another port", NONE, x.setNeighbour(0, 3, 1));
        due("another agent", NONE, x.setNeighbour(3, 0, 0));
        due("before", 3, x.setNeighbour(0, 0, 2));
        thrown("itself", ARGUMENT, () -> x.setNeighbour(0, 0, 0));
        due("stays", 2, x.setNeighbour(0, 0, NONE));
        due("taken away", NONE, x.setNeighbour(0, 0, 1));
        due("port 3", 1, x.setNeighbour(0, 3, 1));
        due("an agent 0", 0, x.setNeighbour(3, 0, NONE));
    }

    private static void reach() {
        about("promise 24, reach");
        Managetree x = new Managetree();
        thrown("under", BOUNDS, () -> x.reach(-1));
        thrown("over", BOUNDS, () -> x.reach(4));
        thrown("far over", BOUNDS, () -> x.reach(HIGHEST));
        x.setNeighbour(3, 0, 1);
        due("named one way", 8, x.reach(3));
        due("named one way", 2, x.reach(1));
        x.setNeighbour(1, 3, 3);
        due("linked", 10, x.reach(3));
        due("linked", 10, x.reach(1));
        x.setNeighbour(0, 1, 2);
        x.setNeighbour(2, 2, 0);
        due("another link", 5, x.reach(2));
        x.setNeighbour(1, 1, 0);
        due("not over half a link", 10, x.reach(3));
        x.setNeighbour(0, 0, 1);
        for (int agent = 0; agent < 4; agent++) {
            due("the line 3 1 0 2", 15, x.reach(agent));
        }
        x.setNeighbour(0, 3, 1);
        x.setNeighbour(0, 0, NONE);
        due("still named at another port", 15, x.reach(3));
        x.setNeighbour(0, 3, NONE);
        due("not linked any more", 10, x.reach(3));
        due("not linked any more", 5, x.reach(0));
    }

    private static void halves() {
        about("promise 25, halves");
        Managetree x = new Managetree();
        x.setNeighbour(2, 0, 0);
        due("one names the other", 1, x.halves());
        x.setNeighbour(2, 1, 0);
        due("twice is one pair", 1, x.halves());
        x.setNeighbour(2, 2, 3);
        due("two pairs", 2, x.halves());
        x.setNeighbour(0, 3, 2);
        due("a link is none", 1, x.halves());
        x.setNeighbour(2, 0, NONE);
        due("still a link", 1, x.halves());
        x.setNeighbour(2, 1, NONE);
        due("half a link again", 2, x.halves());
        x.setNeighbour(0, 0, 1);
        x.setNeighbour(0, 1, 3);
        x.setNeighbour(1, 0, 2);
        x.setNeighbour(3, 0, 1);
        due("all six pairs", 6, x.halves());
        x.setNeighbour(1, 1, 3);
        due("five", 5, x.halves());
    }

    // ---- helpers

    private static void fire(Managetree x) {
        x.setMarks(0, 0, 1);
        x.change(0, 1);
    }

    private static int[] head(int length) {
        int[] numbers = new int[length];
        for (int i = 0; i < length; i++) {
            numbers[i] = i + 1;
        }
        return numbers;
    }
}

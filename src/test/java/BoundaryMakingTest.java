import java.util.Set;

/**
 * The boundary cases of the document up to promise 7: one test for each sentence (or part of one) that
 * names such a case; the remark above the test says which. No object is used for more than 512 calls.
 */
public final class BoundaryMakingTest {
    private static final int LEAST = Integer.MIN_VALUE;
    private static final int MOST = Integer.MAX_VALUE;

    private BoundaryMakingTest() {
    }

    public static void main(String[] args) {
        Check.test("calls512", BoundaryMakingTest::calls512);
        terms();
        equations();
        trees();
        exceptions();
        Check.test("newObject", BoundaryMakingTest::newObject);
        making();
        joining();
        levels();
        Check.end();
    }

    private static void terms() {
        Check.test("signs0To15", BoundaryMakingTest::signs0To15);
        Check.test("below0To3", BoundaryMakingTest::below0To3);
        Check.test("belowInOrder", BoundaryMakingTest::belowInOrder);
        Check.test("eachNumberAnotherSign", BoundaryMakingTest::eachNumberAnotherSign);
        Check.test("numbered300AtMost", BoundaryMakingTest::numbered300AtMost);
    }

    private static void equations() {
        Check.test("treesWithoutEnd", BoundaryMakingTest::treesWithoutEnd);
        Check.test("allBecomeTheSame", BoundaryMakingTest::allBecomeTheSame);
        Check.test("alwaysHoldTogether", BoundaryMakingTest::alwaysHoldTogether);
        Check.test("leafOfItsOwn", BoundaryMakingTest::leafOfItsOwn);
        Check.test("oneLeaf", BoundaryMakingTest::oneLeaf);
    }

    private static void trees() {
        Check.test("noWayWithoutEnd", BoundaryMakingTest::noWayWithoutEnd);
        Check.test("nodesAndLeaves", BoundaryMakingTest::nodesAndLeaves);
        Check.test("mostNodesOnAWay", BoundaryMakingTest::mostNodesOnAWay);
        Check.test("levels20AtMost", BoundaryMakingTest::levels20AtMost);
    }

    private static void exceptions() {
        Check.test("listedFirst", BoundaryMakingTest::listedFirst);
        Check.test("throwingChangesNothing", BoundaryMakingTest::throwingChangesNothing);
        Check.test("throwingChangesNothingWhenFull", BoundaryMakingTest::throwingChangesNothingWhenFull);
        Check.test("memoryItsOwn", BoundaryMakingTest::memoryItsOwn);
        Check.test("memoryMadeOnce", BoundaryMakingTest::memoryMadeOnce);
    }

    private static void making() {
        Check.test("variableNumber", BoundaryMakingTest::variableNumber);
        Check.test("variableWhenFull", BoundaryMakingTest::variableWhenFull);
        Check.test("signFirstN", BoundaryMakingTest::signFirstN);
        Check.test("signNewEachTime", BoundaryMakingTest::signNewEachTime);
        Check.test("signNoSuchSign", BoundaryMakingTest::signNoSuchSign);
        Check.test("signNNot0To3", BoundaryMakingTest::signNNot0To3);
        Check.test("signTermIsNone", BoundaryMakingTest::signTermIsNone);
        Check.test("signWhenFull", BoundaryMakingTest::signWhenFull);
    }

    private static void joining() {
        Check.test("joinComes", BoundaryMakingTest::joinComes);
        Check.test("joinDoesNotCome", BoundaryMakingTest::joinDoesNotCome);
        Check.test("joinNoSuchTerm", BoundaryMakingTest::joinNoSuchTerm);
        Check.test("allCallsNoSuchTerm", BoundaryMakingTest::allCallsNoSuchTerm);
        Check.test("couldComeAndDoesNot", BoundaryMakingTest::couldComeAndDoesNot);
        Check.test("couldNoSuchTerm", BoundaryMakingTest::couldNoSuchTerm);
    }

    private static void levels() {
        Check.test("markHowMany", BoundaryMakingTest::markHowMany);
        Check.test("markWhenFull", BoundaryMakingTest::markWhenFull);
        Check.test("undoEquationsGo", BoundaryMakingTest::undoEquationsGo);
        Check.test("undoTermsGo", BoundaryMakingTest::undoTermsGo);
        Check.test("undoSinceTheLatestLevel", BoundaryMakingTest::undoSinceTheLatestLevel);
        Check.test("undoLevelGoes", BoundaryMakingTest::undoLevelGoes);
        Check.test("undoHowManyWent", BoundaryMakingTest::undoHowManyWent);
        Check.test("undoWithoutLevel", BoundaryMakingTest::undoWithoutLevel);
    }

    /** What it is: "An object is used for at most 512 calls after it has been made". */
    private static void calls512() {
        TermForge x = new TermForge();
        x.variable();
        for (int call = 2; call <= 511; call++) {
            Check.due("call " + call, x.join(0, 0), true);
        }
        Check.due("call 512: equations", x.look(1), 510);

        TermForge y = new TermForge();
        y.mark();
        y.variable();
        for (int call = 3; call <= 511; call++) {
            y.join(0, 0);
        }
        Check.due("call 512: equations that went", y.undo(), 509);

        TermForge z = Build.variables(300);
        for (int call = 301; call <= 320; call++) {
            z.mark();
        }
        for (int call = 321; call <= 511; call++) {
            Check.due("call " + call, z.join(call - 321, call - 320), true);
        }
        Check.due("call 512: trees", z.look(3), 300 - 191);
    }

    /** Terms: "a SIGN (0 .. 15)". */
    private static void signs0To15() {
        TermForge x = new TermForge();
        for (int sign = 0; sign <= 15; sign++) {
            Check.due("sign " + sign, Build.constant(x, sign), sign);
        }
        Check.due("different trees", x.look(3), 16);
        Check.argument("sign -1", () -> Build.constant(x, -1));
        Check.argument("sign 16", () -> Build.constant(x, 16));
        Build.dueText(x, 0, "S0");
        Build.dueText(x, 15, "S15");
    }

    /** Terms: "with 0 to 3 terms BELOW it". */
    private static void below0To3() {
        TermForge x = new TermForge();
        x.variable();
        for (int n = 0; n <= 3; n++) {
            Check.due("size with " + n + " below", x.size(x.sign(9, n, 0, 0, 0)), n + 1);
        }
        Check.argument("-1 below", () -> x.sign(9, -1, 0, 0, 0));
        Check.argument("4 below", () -> x.sign(9, 4, 0, 0, 0));
    }

    /** Terms: "in order". */
    private static void belowInOrder() {
        TermForge x = Build.variables(3);
        int[][] orders = {{0, 1, 2}, {0, 2, 1}, {1, 0, 2}, {1, 2, 0}, {2, 0, 1}, {2, 1, 0}};
        for (int[] order : orders) {
            int term = Build.three(x, 1, order[0], order[1], order[2]);
            Build.dueText(x, term, "S1(V" + order[0] + ",V" + order[1] + ",V" + order[2] + ")");
        }
        Check.due("each order is another tree", x.look(3), 9);
        Build.two(x, 1, 0, 1);
        Build.two(x, 1, 1, 0);
        Check.due("each order of two is another tree", x.look(3), 11);
    }

    /** Terms: "(a sign may be used with any of these numbers: with each it is another one)". */
    private static void eachNumberAnotherSign() {
        for (int sign = 0; sign <= 15; sign++) {
            TermForge x = new TermForge();
            x.variable();
            for (int n = 0; n <= 3; n++) {
                x.sign(sign, n, 0, 0, 0);
            }
            for (int one = 0; one <= 3; one++) {
                for (int other = 0; other <= 3; other++) {
                    String name = "sign " + sign + " with " + one + " and with " + other + " below";
                    Check.due("same: " + name, x.same(1 + one, 1 + other), one == other);
                    Check.due("could: " + name, x.could(1 + one, 1 + other), one == other);
                    Check.due("instance: " + name, x.instance(1 + one, 1 + other), one == other);
                    Check.due("common: " + name, x.common(1 + one, 1 + other, 1), one == other && one == 0 ? 0 : 1);
                    boolean nodes = one == other && one > 0;
                    Check.due("common parts: " + name, x.common(1 + one, 1 + other, 0), nodes ? 2 : 1);
                }
            }
        }
    }

    /** Terms: "Terms are numbered 0, 1 .. as they are made, 300 at most." */
    private static void numbered300AtMost() {
        TermForge x = new TermForge();
        for (int k = 0; k < 300; k++) {
            int term = k % 3 == 0 ? x.variable() : k % 3 == 1 ? Build.constant(x, 1) : Build.two(x, 2, k - 1, 0);
            Check.due("number", term, k);
        }
        Check.due("terms", x.look(0), 300);
        Check.due("the last is a term", x.size(299), 3);
        Check.state("term 300", x::variable);
        Check.state("term 300", () -> Build.constant(x, 1));
        Check.due("terms", x.look(0), 300);
    }

    /** Terms: "They HOLD TOGETHER if there are trees, maybe without end, one for each variable". */
    private static void treesWithoutEnd() {
        TermForge x = Build.variables(2);
        int f0 = Build.one(x, 1, 0);
        int g1 = Build.three(x, 2, 1, 1, f0);
        Check.due("could come to itself", x.could(0, f0), true);
        Check.due("comes to itself", x.join(0, f0), true);
        Check.due("comes to itself in three places", x.join(1, g1), true);
        Check.due("without end", x.isFinite(0), false);
        int fff = Build.tower(x, 1, 3, x.variable());
        Check.due("a longer way round", x.join(fff, fff - 3), true);
        Check.due("two without end", x.join(fff, 0), true);
        Check.due("two without end of other signs", x.join(fff, 1), false);
    }

    /** Terms: "such that both terms of each equation become the same tree". */
    private static void allBecomeTheSame() {
        TermForge x = Build.variables(3);
        int a = Build.constant(x, 1);
        int b = Build.constant(x, 2);
        Check.due("0 and 1", x.join(0, 1), true);
        Check.due("1 and 2", x.join(1, 2), true);
        Check.due("2 and a", x.join(2, a), true);
        Check.due("0 and b by way of 1, 2 and a", x.join(0, b), false);
        int f0 = Build.one(x, 3, 0);
        int fb = Build.one(x, 3, b);
        Check.due("the same below one sign", x.join(f0, fb), false);
        Check.due("0 is a", x.same(0, a), true);
    }

    /** Terms: "Equations that were joined always hold together". */
    private static void alwaysHoldTogether() {
        TermForge x = Build.variables(2);
        int a = Build.constant(x, 1);
        int b = Build.constant(x, 2);
        int f = Build.three(x, 3, 0, 1, a);
        int g = Build.three(x, 3, b, a, b);
        Check.due("what fails at the last place", x.join(f, g), false);
        Check.due("its first place did not come", x.same(0, b), false);
        Check.due("its second place did not come", x.same(1, a), false);
        Check.due("another in its stead", x.join(0, a), true);
        Check.due("another in its stead", x.join(1, b), true);
        Check.due("equations", x.look(1), 2);
    }

    /** Terms: "a variable that may be anything is a leaf of its own". */
    private static void leafOfItsOwn() {
        TermForge x = Build.variables(3);
        int f = Build.three(x, 0, 0, 1, 2);
        Check.due("leaves", x.variables(f), 3);
        Check.due("no two are the same", x.same(0, 1) || x.same(0, 2) || x.same(1, 2), false);
        Check.due("join with itself", x.join(1, 1), true);
        Check.due("leaves", x.variables(f), 3);
        Check.due("size", x.size(1), 1);
        Check.due("depth", x.depth(1), 0);
    }

    /** Terms: "variables that must be the same are one leaf". */
    private static void oneLeaf() {
        TermForge x = Build.variables(4);
        int f = Build.two(x, 0, 0, 1);
        int g = Build.two(x, 0, 2, 2);
        Check.due("both are the third", x.join(f, g), true);
        Check.due("one leaf", x.variables(f), 1);
        Check.due("the same", x.same(0, 1), true);
        Check.due("three variables, one tree; one more; one sign", x.look(3), 3);
        Check.due("still a leaf", x.depth(0), 0);
    }

    /** Terms: "The TREE of a term is FINITE if no way down it goes on without end." */
    private static void noWayWithoutEnd() {
        for (int place = 0; place < 3; place++) {
            TermForge x = new TermForge();
            int a = Build.constant(x, 1);
            int e = Build.endless(x, 2);
            int f = Build.three(x, 3, place == 0 ? e : a, place == 1 ? e : a, place == 2 ? e : a);
            Check.due("one way without end, place " + place, x.isFinite(f), false);
            Check.due("none", x.isFinite(Build.three(x, 3, a, a, a)), true);
        }
        TermForge y = new TermForge();
        int shared = y.variable();
        for (int k = 1; k < 300; k++) {
            shared = Build.three(y, 3, shared, shared, shared);
        }
        Check.due("long ways that all end", y.isFinite(shared), true);
    }

    /** Terms: "Its SIZE: how many nodes and leaves it has". */
    private static void nodesAndLeaves() {
        TermForge x = Build.variables(1);
        int a = Build.constant(x, 1);
        Check.due("a leaf alone", x.size(0), 1);
        Check.due("a node alone", x.size(a), 1);
        int f = Build.three(x, 2, 0, a, 0);
        Check.due("a node, two nodes' places and a leaf twice", x.size(f), 4);
        Check.due("a tree that stands in three places", x.size(Build.three(x, 2, f, f, f)), 13);
    }

    /** Terms: "its DEPTH: the most nodes on a way down (0 for a leaf that is a variable, 1 for a sign with nothing below)". */
    private static void mostNodesOnAWay() {
        TermForge x = Build.variables(1);
        int a = Build.constant(x, 1);
        Check.due("a leaf that is a variable", x.depth(0), 0);
        Check.due("a sign with nothing below", x.depth(a), 1);
        Check.due("a sign above a leaf", x.depth(Build.one(x, 1, 0)), 1);
        Check.due("a sign above a sign", x.depth(Build.one(x, 1, a)), 2);
        int deep = Build.tower(x, 1, 4, a);
        for (int place = 0; place < 3; place++) {
            int f = Build.three(x, 2, place == 0 ? deep : a, place == 1 ? deep : 0, place == 2 ? deep : 0);
            Check.due("the longest way in place " + place, x.depth(f), 6);
        }
    }

    /** Terms: "LEVELS: how often mark() was called less how often undo() was, 20 at most." */
    private static void levels20AtMost() {
        TermForge x = new TermForge();
        Check.state("undo at 0", x::undo);
        Check.due("a call that throws does not count", x.look(2), 0);
        for (int k = 1; k <= 20; k++) {
            x.mark();
            Check.due("levels", x.look(2), k);
        }
        Check.state("mark at 20", x::mark);
        Check.due("a call that throws does not count", x.look(2), 20);
        x.undo();
        x.undo();
        x.mark();
        Check.due("18 and 1", x.look(2), 19);
    }

    /** Terms: "Of several exceptions that hold the one listed first is thrown". */
    private static void listedFirst() {
        TermForge x = Build.variables(300);
        Check.argument("no such sign, and 300 terms", () -> x.sign(16, 0, 0, 0, 0));
        Check.argument("no such sign, and 300 terms", () -> x.sign(-1, 3, 0, 0, 0));
        Check.argument("n 4, and 300 terms", () -> x.sign(0, 4, 0, 0, 0));
        Check.argument("n -1, and 300 terms", () -> x.sign(0, -1, 0, 0, 0));
        Check.argument("a is none, and 300 terms", () -> x.sign(0, 1, 300, 0, 0));
        Check.argument("b is none, and 300 terms", () -> x.sign(0, 2, 0, -1, 0));
        Check.argument("c is none, and 300 terms", () -> x.sign(0, 3, 0, 0, 300));
        Check.state("300 terms alone", () -> x.sign(15, 3, 0, 299, 0));
        Check.state("300 terms, and c is none but not asked for", () -> x.sign(15, 2, 0, 299, 300));
    }

    /** Terms: "a call that throws changes nothing." */
    private static void throwingChangesNothing() {
        TermForge x = Build.variables(2);
        int a = Build.constant(x, 5);
        Build.two(x, 6, 0, 1);
        x.mark();
        x.join(1, a);
        x.text(3);
        String before = Build.state(x);
        Check.argument("sign", () -> x.sign(16, 0, 0, 0, 0));
        Check.argument("sign", () -> x.sign(0, 4, 0, 0, 0));
        Check.argument("sign", () -> x.sign(0, 3, 0, 1, 4));
        Check.argument("join", () -> x.join(0, 4) ? 1 : 0);
        Check.argument("join", () -> x.join(-1, 0) ? 1 : 0);
        Check.argument("could", () -> x.could(0, 4) ? 1 : 0);
        Check.argument("text", () -> x.text(4));
        Check.argument("common", () -> x.common(0, 1, 2));
        Check.noElement("out", () -> x.out(10));
        Check.argument("look", () -> x.look(5));
        Check.due("state", Build.state(x), before);
        Check.due("the level is as it was", x.undo(), 1);
        String lower = Build.state(x);
        Check.state("undo", x::undo);
        Check.due("state", Build.state(x), lower);
        Check.due("the next term", x.variable(), 4);
    }

    /** Terms: "a call that throws changes nothing", of an object that is full. */
    private static void throwingChangesNothingWhenFull() {
        TermForge x = Build.variables(299);
        for (int k = 1; k <= 20; k++) {
            x.mark();
        }
        x.join(0, x.variable());
        String before = Build.counts(x);
        Check.state("variable", x::variable);
        Check.state("sign", () -> Build.constant(x, 0));
        Check.state("mark", x::mark);
        Check.due("counts", Build.counts(x), before);
        Check.due("the last is a variable still", x.depth(299), 0);
        x.join(1, 2);
        Check.due("and the same as the first", x.same(0, 299), true);
        Check.due("the level began before the equations still", x.undo(), 2);
        Check.due("and before the last term", x.look(0), 299);
    }

    /** Terms: "All memory is the class's own", so one object's calls do not reach another. */
    private static void memoryItsOwn() {
        TermForge x = Build.variables(2);
        TermForge y = Build.variables(2);
        x.mark();
        x.join(0, 1);
        x.text(Build.one(x, 1, 0));
        Check.due("the other", Build.state(y), "2,0,0,2,0,  1/0/1/1 1/0/1/1?");
        y.text(1);
        Build.dueText(x, 1, "V0");
        Check.due("the other's OUT", Build.written(y), "V1");
        Check.state("the other's levels", y::undo);
    }

    /** Terms: "All memory is the class's own, made once." */
    private static void memoryMadeOnce() {
        TermForge x = new TermForge();
        Set<Object> before = Held.by(x);
        int top = x.variable();
        for (int k = 1; k < 300; k++) {
            top = Build.two(x, 0, top, k - 1);
        }
        Check.due("a text", x.text(2), 23);
        Check.due("its first byte", x.out(0) & 0xff, 'S');
        for (int k = 0; k < 20; k++) {
            x.mark();
            x.join(k, top - 20 + k);
            x.could(2 * k, 3 * k);
        }
        for (int k = 0; k < 10; k++) {
            x.common(10 * k, top, k % 2);
            x.variant(k, top);
            x.text(k);
            x.parts(top);
            x.look(3);
            x.undo();
        }
        Set<Object> after = Held.by(x);
        boolean same = before.containsAll(after) && after.containsAll(before);
        Check.due("the same objects and arrays before and after", same, true);
    }

    /** Promise 1: "No terms, no equations, level 0; OUT is empty." */
    private static void newObject() {
        TermForge x = new TermForge();
        Check.due("terms", x.look(0), 0);
        Check.due("equations", x.look(1), 0);
        Check.due("levels", x.look(2), 0);
        Check.due("trees", x.look(3), 0);
        Check.due("bytes of OUT", x.look(4), 0);
        Check.argument("no term 0", () -> x.depth(0));
        Check.argument("no term 0 to be below", () -> x.sign(0, 1, 0, 0, 0));
        Check.state("no level", x::undo);
        Check.noElement("no byte 0", () -> x.out(0));
        Check.due("the first level", x.mark(), 1);
        Check.due("the first term", x.variable(), 0);
    }

    /** Promise 2: "A variable more: its number." */
    private static void variableNumber() {
        TermForge x = new TermForge();
        Check.due("the first", x.variable(), 0);
        Check.due("the second", x.variable(), 1);
        Build.constant(x, 0);
        Check.due("behind a sign", x.variable(), 3);
        Check.due("terms", x.look(0), 4);
        Check.due("one more leaf", x.variables(3), 1);
        x.mark();
        Check.due("of a level", x.variable(), 4);
        x.undo();
        Check.due("behind those that stayed", x.variable(), 4);
    }

    /** Promise 2: "Throws IllegalStateException when there are 300 terms." */
    private static void variableWhenFull() {
        TermForge x = Build.variables(299);
        x.mark();
        Check.due("the last", x.variable(), 299);
        Check.state("one more", x::variable);
        Check.state("again", x::variable);
        Check.due("terms", x.look(0), 300);
        x.undo();
        Check.due("room again", x.variable(), 299);
        Check.state("full again", x::variable);
    }

    /** Promise 3: "A sign with the first n of the terms a, b, c below it". */
    private static void signFirstN() {
        TermForge x = Build.variables(3);
        Build.dueText(x, x.sign(7, 0, -1, 300, LEAST), "S7");
        Build.dueText(x, x.sign(7, 1, 0, -1, MOST), "S7(V0)");
        Build.dueText(x, x.sign(7, 2, 0, 1, -1), "S7(V0,V1)");
        Build.dueText(x, x.sign(7, 3, 0, 1, 2), "S7(V0,V1,V2)");
        Build.dueText(x, x.sign(7, 2, 2, 2, 0), "S7(V2,V2)");
        TermForge y = new TermForge();
        Check.due("none below, of a new object", y.sign(7, 0, 0, 0, 0), 0);
    }

    /** Promise 3: "its number (a new one each time)". */
    private static void signNewEachTime() {
        TermForge x = new TermForge();
        Check.due("the first", Build.constant(x, 4), 0);
        Check.due("the same again", Build.constant(x, 4), 1);
        Check.due("above the one", Build.one(x, 4, 0), 2);
        Check.due("above the other", Build.one(x, 4, 1), 3);
        Check.due("terms", x.look(0), 4);
        Check.due("different trees", x.look(3), 2);
    }

    /** Promise 3: "Throws IllegalArgumentException when there is no such sign". */
    private static void signNoSuchSign() {
        TermForge x = Build.variables(1);
        int[] none = {-1, 16, 17, 63, 64, LEAST, MOST};
        for (int sign : none) {
            for (int n = 0; n <= 3; n++) {
                int below = n;
                Check.argument("sign " + sign + " with " + n, () -> x.sign(sign, below, 0, 0, 0));
            }
        }
        Check.due("terms", x.look(0), 1);
        Check.due("sign 0", x.sign(0, 3, 0, 0, 0), 1);
        Check.due("sign 15", x.sign(15, 3, 0, 0, 0), 2);
    }

    /** Promise 3: "n is not 0 .. 3". */
    private static void signNNot0To3() {
        TermForge x = Build.variables(1);
        int[] wrong = {-1, 4, 5, LEAST, MOST};
        for (int n : wrong) {
            Check.argument("n " + n, () -> x.sign(0, n, 0, 0, 0));
            Check.argument("n " + n, () -> x.sign(15, n, 0, 0, 0));
        }
        Check.due("terms", x.look(0), 1);
        Check.due("n 0", x.sign(0, 0, 0, 0, 0), 1);
        Check.due("n 3", x.sign(0, 3, 0, 0, 0), 2);
    }

    /** Promise 3: "or one of these terms is none". */
    private static void signTermIsNone() {
        for (int n = 1; n <= 3; n++) {
            int below = n;
            String with = " of " + n;
            Refusal.ofTerms("a" + with, (x, term) -> signOrFull(x, below, term, 0, 0));
            if (n > 1) {
                Refusal.ofTerms("b" + with, (x, term) -> signOrFull(x, below, 0, term, 0));
            }
            if (n > 2) {
                Refusal.ofTerms("c" + with, (x, term) -> signOrFull(x, below, 0, 0, term));
            }
        }
        TermForge y = Build.variables(2);
        Check.argument("a sign below itself", () -> y.sign(0, 1, 2, 0, 0));
        Check.argument("a sign below itself", () -> y.sign(0, 3, 0, 1, 2));
        Check.due("terms", y.look(0), 2);
    }

    /** A full object refuses right terms too, but by the other exception. */
    private static long signOrFull(TermForge x, int n, int a, int b, int c) {
        try {
            return x.sign(1, n, a, b, c);
        } catch (IllegalStateException e) {
            Check.due("terms", x.look(0), 300);
            return -1;
        }
    }

    /** Promise 3: "IllegalStateException when there are 300." */
    private static void signWhenFull() {
        TermForge x = Build.variables(299);
        x.mark();
        Check.due("the last", x.sign(3, 3, 0, 1, 298), 299);
        for (int n = 0; n <= 3; n++) {
            int below = n;
            Check.state("one more with " + n, () -> x.sign(3, below, 0, 1, 299));
        }
        Check.due("terms", x.look(0), 300);
        Check.due("the last is as it was", x.size(299), 4);
        x.undo();
        Check.due("room again", Build.constant(x, 0), 299);
        Check.state("full again", () -> Build.constant(x, 0));
    }

    /** Promise 4: "The equation of two terms comes to the others: true". */
    private static void joinComes() {
        TermForge x = Build.variables(3);
        int f = Build.two(x, 1, 0, 1);
        int g = Build.two(x, 1, 1, 2);
        Check.due("two signs", x.join(f, g), true);
        Check.due("below them", x.same(0, 1) && x.same(1, 2), true);
        Check.due("equations", x.look(1), 1);
        Check.due("the same once more", x.join(f, g), true);
        Check.due("the other way round", x.join(g, f), true);
        Check.due("what follows from it", x.join(0, 2), true);
        Check.due("a term with itself", x.join(0, 0), true);
        Check.due("equations", x.look(1), 5);
        Check.due("a variable and a sign", x.join(2, Build.constant(x, 2)), true);
        Check.due("all the same", x.size(f), 3);
        Check.due("no variable", x.variables(f), 0);
    }

    /** Promise 4: "false when all would not hold together (then it does not come)". */
    private static void joinDoesNotCome() {
        TermForge x = Build.variables(3);
        int a = Build.constant(x, 1);
        int b = Build.constant(x, 2);
        int f = Build.three(x, 3, 0, 1, a);
        int g = Build.three(x, 3, 1, 2, b);
        Check.due("another sign", x.join(a, b), false);
        Check.due("another number below", x.join(f, Build.two(x, 3, 0, 1)), false);
        Check.due("what was the same before the last place", x.join(f, g), false);
        Check.due("did not come", x.same(0, 1) || x.same(1, 2), false);
        Check.due("did not come", x.look(3), 8);
        Check.due("equations", x.look(1), 0);
        x.mark();
        Check.due("in a level", x.join(f, g), false);
        Check.due("none went", x.undo(), 0);
        Check.due("what it was", x.variables(f), 2);
    }

    /** Promise 4: "Throws IllegalArgumentException when there is no such term". */
    private static void joinNoSuchTerm() {
        Refusal.ofTerms("join(t, 0)", (x, term) -> x.join(term, 0) ? 1 : 0);
        Refusal.ofTerms("join(0, t)", (x, term) -> x.join(0, term) ? 1 : 0);
        Refusal.ofTerms("join(t, t)", (x, term) -> x.join(term, term) ? 1 : 0);
    }

    /** Promise 4: "(as all calls that name one do)". */
    private static void allCallsNoSuchTerm() {
        TermForge x = Build.variables(2);
        int[] none = {-1, 2, LEAST, MOST};
        for (int term : none) {
            Check.argument("sign", () -> x.sign(0, 1, term, 0, 0));
            Check.argument("join", () -> x.join(0, term) ? 1 : 0);
            Check.argument("could", () -> x.could(0, term) ? 1 : 0);
            Check.argument("same", () -> x.same(0, term) ? 1 : 0);
            Check.argument("isFinite", () -> x.isFinite(term) ? 1 : 0);
            Check.argument("size", () -> x.size(term));
            Check.argument("depth", () -> x.depth(term));
            Check.argument("variables", () -> x.variables(term));
            Check.argument("parts", () -> x.parts(term));
            Check.argument("instance", () -> x.instance(0, term) ? 1 : 0);
            Check.argument("variant", () -> x.variant(0, term) ? 1 : 0);
            Check.argument("common", () -> x.common(0, term, 0));
            Check.argument("text", () -> x.text(term));
        }
    }

    /** Promise 5: "Whether the equation could come." */
    private static void couldComeAndDoesNot() {
        TermForge x = Build.variables(2);
        int a = Build.constant(x, 1);
        int b = Build.constant(x, 2);
        int f = Build.two(x, 3, 0, 1);
        int g = Build.two(x, 3, a, b);
        String before = Build.state(x);
        Check.due("could", x.could(f, g), true);
        Check.due("could with itself", x.could(f, f), true);
        Check.due("could without end", x.could(0, f), true);
        Check.due("could not", x.could(a, b), false);
        Check.due("could not", x.could(a, g), false);
        Check.due("state", Build.state(x), before);
        x.join(0, b);
        Check.due("could not any more", x.could(f, g), false);
        Check.due("nor come", x.join(f, g), false);
        Check.due("equations", x.look(1), 1);
        Check.due("the second place did not come", x.same(1, b), false);
    }

    /** Promise 5: "Throws IllegalArgumentException." */
    private static void couldNoSuchTerm() {
        Refusal.ofTerms("could(t, 0)", (x, term) -> x.could(term, 0) ? 1 : 0);
        Refusal.ofTerms("could(0, t)", (x, term) -> x.could(0, term) ? 1 : 0);
        Refusal.ofTerms("could(t, t)", (x, term) -> x.could(term, term) ? 1 : 0);
    }

    /** Promise 6: "A level more: how many there are." */
    private static void markHowMany() {
        TermForge x = new TermForge();
        Check.due("the first", x.mark(), 1);
        Check.due("the second", x.mark(), 2);
        x.undo();
        Check.due("the second again", x.mark(), 2);
        x.undo();
        x.undo();
        Check.due("the first again", x.mark(), 1);
        Check.due("levels", x.look(2), 1);
    }

    /** Promise 6: "Throws IllegalStateException when there are 20." */
    private static void markWhenFull() {
        TermForge x = new TermForge();
        for (int k = 1; k <= 20; k++) {
            Check.due("mark", x.mark(), k);
        }
        Check.state("one more", x::mark);
        Check.state("again", x::mark);
        Check.due("levels", x.look(2), 20);
        x.undo();
        Check.due("room again", x.mark(), 20);
        Check.state("full again", x::mark);
    }

    /** Promise 7: "All equations [..] that came since the latest level began go", also those of older terms. */
    private static void undoEquationsGo() {
        TermForge x = Build.variables(3);
        int a = Build.constant(x, 1);
        int f = Build.two(x, 2, 0, 1);
        x.join(0, 1);
        String before = Build.state(x);
        x.mark();
        x.join(1, 2);
        x.join(2, a);
        Check.due("no variable", x.variables(f), 0);
        x.undo();
        Check.due("state", Build.state(x), before);
        x.mark();
        x.join(0, f);
        Check.due("without end", x.size(0), -1);
        x.undo();
        Check.due("state", Build.state(x), before);
        Check.due("what had come before stays", x.same(0, 1), true);
    }

    /** Promise 7: "terms that came since the latest level began go". */
    private static void undoTermsGo() {
        TermForge x = Build.variables(2);
        x.mark();
        Build.constant(x, 1);
        int f = Build.one(x, 2, 2);
        x.join(0, f);
        x.undo();
        Check.due("terms", x.look(0), 2);
        Check.due("trees", x.look(3), 2);
        Check.argument("one that went", () -> x.size(2));
        Check.argument("one that went", () -> x.sign(0, 1, 3, 0, 0));
        Check.due("the older one is a variable again", x.variables(0), 1);
        Check.due("the number again", x.variable(), 2);
        Check.due("and another term", x.depth(2), 0);
        x.mark();
        Check.due("a term at the end of a level", Build.constant(x, 5), 3);
        x.undo();
        x.mark();
        Check.due("no term in a level", x.undo(), 0);
        Check.due("terms", x.look(0), 3);
    }

    /** Promise 7: "since the latest level began", so what an older level holds stays. */
    private static void undoSinceTheLatestLevel() {
        TermForge x = Build.variables(20);
        for (int k = 1; k < 20; k++) {
            x.mark();
            x.join(k - 1, k);
            x.variable();
        }
        for (int k = 19; k >= 1; k--) {
            Check.due("levels", x.look(2), k);
            Check.due("terms", x.look(0), 20 + k);
            Check.due("trees", x.look(3), 20);
            Check.due("the latest", x.same(0, k), true);
            Check.due("went", x.undo(), 1);
            Check.due("gone", x.same(0, k), false);
            Check.due("the one before", x.same(0, k - 1), true);
            Check.due("equations", x.look(1), k - 1);
        }
    }

    /** Promise 7: "and the level". */
    private static void undoLevelGoes() {
        TermForge x = new TermForge();
        for (int k = 1; k <= 20; k++) {
            x.mark();
        }
        for (int k = 19; k >= 0; k--) {
            x.undo();
            Check.due("levels", x.look(2), k);
        }
        x.mark();
        x.variable();
        x.undo();
        Check.due("levels", x.look(2), 0);
        x.variable();
        Check.state("no level that what comes now belongs to", x::undo);
        Check.due("terms", x.look(0), 1);
    }

    /** Promise 7: "how many equations went". */
    private static void undoHowManyWent() {
        TermForge x = Build.variables(2);
        int a = Build.constant(x, 1);
        int b = Build.constant(x, 2);
        x.join(0, 0);
        x.mark();
        Check.due("none", x.undo(), 0);
        x.mark();
        x.join(0, a);
        x.join(0, b);
        x.could(1, b);
        x.join(a, 0);
        x.mark();
        x.join(1, 1);
        Check.due("those of the inner one", x.undo(), 1);
        Check.due("those that came, and no others", x.undo(), 2);
        Check.due("equations", x.look(1), 1);
        x.mark();
        x.variable();
        Check.due("terms are not counted", x.undo(), 0);
    }

    /** Promise 7: "Throws IllegalStateException when there is none." */
    private static void undoWithoutLevel() {
        TermForge x = new TermForge();
        Check.state("of a new object", x::undo);
        x.variable();
        x.join(0, 0);
        Check.state("with a term and an equation", x::undo);
        Check.due("equations", x.look(1), 1);
        Check.due("terms", x.look(0), 1);
        x.mark();
        x.undo();
        Check.state("behind the last", x::undo);
        Check.due("levels", x.look(2), 0);
        Check.due("mark", x.mark(), 1);
    }
}

import java.util.ArrayDeque;
import java.util.HashSet;
import java.util.NoSuchElementException;
import java.util.Random;
import java.util.Set;

/** The largest that an object holds: 300 terms, 20 levels, long chains and circles, many pairs, many calls. */
public final class LimitTest {
    private LimitTest() {
    }

    public static void main(String[] args) {
        longChain();
        chainOfVariables();
        longCircle();
        tailOfCircle();
        circlesOfTwoLengths();
        allPairs();
        mergeAll();
        manyDifferent();
        thirdPlaceAlone();
        manyHeads();
        deepLevels();
        room();
        callsBeyondTheLast();
        Check.end();
    }

    private static int one(TermForge x, int a) {
        return x.sign(0, 1, a, 0, 0);
    }

    private static int two(TermForge x, int a, int b) {
        return x.sign(1, 2, a, b, 0);
    }

    private static void longChain() {
        TermForge x = new TermForge();
        int t = x.variable();
        for (int k = 1; k < 300; k++) {
            t = one(x, t);
        }
        Check.due("depth", x.depth(t), 299);
        Check.due("size", x.size(t), 300);
        Check.due("parts", x.parts(t), 300);
        Check.due("trees", x.look(3), 300);
        Check.due("instance", x.instance(100, 299), true);
        Check.due("not back", x.instance(299, 100), false);
        Check.due("common", x.common(100, 299, 0), 101);
        Check.due("text", x.text(t), -1);
        Check.due("join the ends", x.join(0, 299), true);
        Check.due("parts", x.parts(t), 1);
        Check.due("trees", x.look(3), 1);
        Check.due("finite", x.isFinite(150), false);
    }

    /** Each variable is joined with a sign above the next one, so what is below was made later. */
    private static void chainOfVariables() {
        TermForge x = new TermForge();
        for (int k = 0; k < 150; k++) {
            x.variable();
        }
        for (int k = 1; k < 150; k++) {
            Check.due("join", x.join(k - 1, one(x, k)), true);
        }
        Check.due("depth", x.depth(0), 149);
        Check.due("trees", x.look(3), 150);
        Check.due("variables", x.variables(0), 1);
    }

    private static void longCircle() {
        TermForge x = new TermForge();
        int v = x.variable();
        int mark = x.sign(2, 0, 0, 0, 0);
        int other = x.sign(3, 0, 0, 0, 0);
        int t = two(x, mark, v);
        for (int k = 4; k < 300; k++) {
            t = two(x, other, t);
        }
        Check.due("join", x.join(v, t), true);
        Check.due("parts", x.parts(v), 299);
        Check.due("trees", x.look(3), 299);
        Check.due("size", x.size(v), -1);
        Check.due("variant of the next", x.variant(t, t - 1), false);
        Check.due("common with itself", x.common(t, t, 0), 299);
        // A circle of 297 against itself, one further: all of it, the two signs, and the two leaves where they differ.
        Check.due("common with the next", x.common(t, t - 1, 0), 297 + 1 + 2);
        Check.due("leaves", x.common(t, t - 1, 1), 2);
    }

    /** A circle of one and a long tail to it that differs at its very end. */
    private static void tailOfCircle() {
        TermForge x = new TermForge();
        int v = x.variable();
        int e = two(x, v, v);
        Check.due("join", x.join(v, e), true);
        int w = x.variable();
        int t = two(x, w, e);
        for (int k = 4; k < 300; k++) {
            t = two(x, e, t);
        }
        Check.due("trees", x.look(3), 299);
        Check.due("parts", x.parts(t), 299);
        Check.due("all of it becomes the circle", x.join(w, e), true);
        Check.due("trees", x.look(3), 1);
    }

    private static void circlesOfTwoLengths() {
        TermForge x = new TermForge();
        int a = x.sign(2, 0, 0, 0, 0);
        int b = x.sign(3, 0, 0, 0, 0);
        int one = circle(x, a, b, 148);
        int other = circle(x, a, b, 147);
        // 148 and 147 have no divisor in common; the signs meet in all four ways.
        Check.due("common", x.common(one, other, 0), 148 * 147 + 4);
        Check.due("leaves", x.common(one, other, 1), 2);
        Check.due("common again", x.common(one, other, 0), 148 * 147 + 4);
        Check.due("could", x.could(one, other), false);
        Check.due("instance", x.instance(one, other), false);
    }

    private static int circle(TermForge x, int mark, int rest, int length) {
        int v = x.variable();
        int t = two(x, mark, v);
        for (int k = 1; k < length; k++) {
            t = two(x, rest, t);
        }
        Check.due("join", x.join(v, t), true);
        return t;
    }

    /** 297 different nodes that all reach one another: nearly all pairs of them come up. */
    private static void allPairs() {
        TermForge x = new TermForge();
        int v = x.variable();
        int mark = x.sign(2, 0, 0, 0, 0);
        int rest = x.sign(3, 0, 0, 0, 0);
        int[] left = new int[300];
        int[] right = new int[300];
        for (int k = 3; k < 300; k++) {
            left[k] = k == 3 ? v : k - 1;
            right[k] = k == 3 ? v : 3 + (k * k / 3 + 7 * k) % (k - 3);
            x.sign(4, 3, k == 3 ? mark : rest, left[k], right[k]);
        }
        Check.due("join", x.join(v, 299), true);
        Check.due("trees", x.look(3), 299);
        for (int other : new int[] {298, 150, 3}) {
            int want = pairsFrom(299, other, left, right);
            Check.due("more than 85000 of " + want, want > 85000, true);
            // The two signs meet each other in both ways, and each itself.
            Check.due("pairs of 299 and " + other, x.common(299, other, 0), want + 4);
            Check.due("leaves of 299 and " + other, x.common(299, other, 1), 2);
        }
        Check.due("common with itself", x.common(v, 299, 0), 299);
    }

    /** Pairs of nodes alone; the variable is term 299. */
    private static int pairsFrom(int one, int other, int[] left, int[] right) {
        Set<Integer> seen = new HashSet<>();
        ArrayDeque<Integer> open = new ArrayDeque<>();
        seen.add(one * 300 + other);
        open.add(one * 300 + other);
        while (!open.isEmpty()) {
            int pair = open.remove();
            int p = pair / 300;
            int q = pair % 300;
            int[] next = {named(left[p]) * 300 + named(left[q]), named(right[p]) * 300 + named(right[q])};
            for (int to : next) {
                if (seen.add(to)) {
                    open.add(to);
                }
            }
        }
        return seen.size();
    }

    private static int named(int term) {
        return term == 0 ? 299 : term;
    }

    /** One equation that makes all others: 149 signs each, with three pairs below that come again and again. */
    private static void mergeAll() {
        TermForge x = new TermForge();
        int one = x.variable();
        int other = x.variable();
        for (int k = 0; k < 149; k++) {
            one = x.sign(5, 3, one, one, one);
            other = x.sign(5, 3, other, other, other);
        }
        Check.due("trees", x.look(3), 300);
        Check.due("could", x.could(one, other), true);
        Check.due("trees", x.look(3), 300);
        Check.due("join", x.join(one, other), true);
        Check.due("trees", x.look(3), 150);
        Check.due("size", x.size(one), 1000000000000L);
        Check.due("depth", x.depth(other), 149);
        Check.due("join the ends", x.join(other, 0), true);
        Check.due("trees", x.look(3), 1);
        Check.due("equations", x.look(1), 2);
    }

    /** Signs of the same number below that differ in one place alone, each made once and some twice. */
    private static void manyDifferent() {
        for (int place = 0; place < 3; place++) {
            TermForge x = new TermForge();
            for (int k = 0; k < 120; k++) {
                x.variable();
            }
            for (int k = 0; k < 170; k++) {
                int at = k % 120;
                x.sign(9, 3, place == 0 ? at : 60, place == 1 ? at : 60, place == 2 ? at : 60);
            }
            Check.due("trees that differ in place " + place, x.look(3), 240);
            Check.due("the same again", x.same(120, 240), true);
        }
        TermForge y = new TermForge();
        for (int k = 0; k < 6; k++) {
            y.variable();
        }
        for (int k = 0; k < 216; k++) {
            y.sign(3, 3, k / 36, k / 6 % 6, k % 6);
        }
        Check.due("all ways to put three of six", y.look(3), 222);
    }

    /** Whatever the sign and the first two below: a search that left the third out would seldom be wrong. */
    private static void thirdPlaceAlone() {
        for (int sign = 0; sign <= 15; sign++) {
            for (int first = 0; first < 250; first += 2) {
                TermForge x = Build.variables(250);
                for (int k = 0; k < 25; k++) {
                    Build.three(x, sign, first, first, k);
                    Build.three(x, sign, first, first, 249 - k);
                }
                Check.due("sign " + sign + " above " + first + " twice and each of 50", x.look(3), 300);
            }
        }
    }

    private static void manyHeads() {
        TermForge x = new TermForge();
        int v = x.variable();
        for (int again = 0; again < 2; again++) {
            for (int k = 0; k < 64; k++) {
                x.sign(k / 4, k % 4, v, v, v);
            }
        }
        Check.due("all signs with all numbers below", x.look(3), 65);
        for (int k = 1; k <= 64; k++) {
            Check.due("the same head", x.could(k, k + 64), true);
            Check.due("another head", x.could(k, 65 + k % 64), false);
        }
    }

    private static void deepLevels() {
        TermForge x = new TermForge();
        int bottom = x.variable();
        for (int k = 1; k <= 20; k++) {
            x.mark();
            int v = x.variable();
            for (int j = 0; j < k % 4; j++) {
                Check.due("join", x.join(v, k % 2 == 0 ? v : bottom), true);
            }
            one(x, v);
        }
        for (int k = 20; k >= 1; k--) {
            Check.due("terms", x.look(0), 1 + 2 * k);
            Check.due("undo", x.undo(), k % 4);
        }
        Check.due("terms", x.look(0), 1);
        Check.due("equations", x.look(1), 0);
    }

    /** Making an object is the dearest call: even a run of 512 of them stays within 7.3 million elements. */
    private static void room() {
        TermForge x = new TermForge();
        long elements = Held.elements(x);
        Check.due("512 times " + elements + " elements fit", 512 * elements <= 7300000, true);
        int objects = Held.by(x).size();
        Check.due("512 times " + objects + " objects fit", 512 * objects <= 600000, true);
    }

    /** What they answer is free, but they throw nothing but what the document names. */
    private static void callsBeyondTheLast() {
        Random random = new Random(7);
        for (int run = 0; run < 20; run++) {
            TermForge x = new TermForge();
            for (int call = 0; call < 5000; call++) {
                int kind = random.nextInt(run % 2 == 0 ? 17 : 60);
                try {
                    anyCall(x, kind, random);
                } catch (IllegalArgumentException | IllegalStateException | NoSuchElementException e) {
                    boolean own = e.getClass() == IllegalArgumentException.class
                        || e.getClass() == IllegalStateException.class || e.getClass() == NoSuchElementException.class;
                    Check.due("an exception of the document", own, true);
                }
            }
        }
    }

    private static void anyCall(TermForge x, int kind, Random random) {
        int a = random.nextInt(x.look(0) + 2) - 1;
        int b = random.nextInt(x.look(0) + 2) - 1;
        switch (kind) {
            case 0 -> x.mark();
            case 1 -> x.undo();
            case 2 -> x.join(a, b);
            case 3 -> x.could(a, b);
            case 4 -> x.same(a, b);
            case 5 -> x.isFinite(a);
            case 6 -> x.size(a);
            case 7 -> x.depth(a);
            case 8 -> x.variables(a);
            case 9 -> x.parts(a);
            case 10 -> x.instance(a, b);
            case 11 -> x.variant(a, b);
            case 12 -> x.common(a, b, random.nextInt(3));
            case 13 -> x.text(a);
            case 14 -> x.out(random.nextInt(220) - 10);
            case 15 -> x.look(random.nextInt(7) - 1);
            case 16 -> x.variable();
            default -> x.sign(random.nextInt(2), random.nextInt(4), a, b, a);
        }
    }
}

/**
 * The boundary cases of the document from promise 8 on: one test for each sentence (or part of one) that
 * names such a case; the remark above the test says which. No object is used for more than 512 calls.
 */
public final class BoundaryAskingTest {
    private static final long LARGE = 1000000000000L;
    private static final int LEAST = Integer.MIN_VALUE;
    private static final int MOST = Integer.MAX_VALUE;

    private BoundaryAskingTest() {
    }

    public static void main(String[] args) {
        whatTheyAre();
        howLarge();
        whatIsInThem();
        instances();
        common();
        text();
        out();
        Check.test("lookEach", BoundaryAskingTest::lookEach);
        Check.test("lookTrees", BoundaryAskingTest::lookTrees);
        Check.test("lookAnotherWhat", BoundaryAskingTest::lookAnotherWhat);
        Check.end();
    }

    private static void whatTheyAre() {
        Check.test("sameTree", BoundaryAskingTest::sameTree);
        Check.test("sameNoSuchTerm", BoundaryAskingTest::sameNoSuchTerm);
        Check.test("finiteTree", BoundaryAskingTest::finiteTree);
        Check.test("finiteNoSuchTerm", BoundaryAskingTest::finiteNoSuchTerm);
    }

    private static void howLarge() {
        Check.test("sizeSmall", BoundaryAskingTest::sizeSmall);
        Check.test("sizeNotFinite", BoundaryAskingTest::sizeNotFinite);
        Check.test("sizeAsLargeOrLarger", BoundaryAskingTest::sizeAsLargeOrLarger);
        Check.test("sizeNoSuchTerm", BoundaryAskingTest::sizeNoSuchTerm);
        Check.test("depthSmallAndLarge", BoundaryAskingTest::depthSmallAndLarge);
        Check.test("depthNotFinite", BoundaryAskingTest::depthNotFinite);
        Check.test("depthNoSuchTerm", BoundaryAskingTest::depthNoSuchTerm);
    }

    private static void whatIsInThem() {
        Check.test("variablesDifferent", BoundaryAskingTest::variablesDifferent);
        Check.test("variablesNoneAndMany", BoundaryAskingTest::variablesNoneAndMany);
        Check.test("variablesNoSuchTerm", BoundaryAskingTest::variablesNoSuchTerm);
        Check.test("partsDifferent", BoundaryAskingTest::partsDifferent);
        Check.test("partsItself", BoundaryAskingTest::partsItself);
        Check.test("partsNoSuchTerm", BoundaryAskingTest::partsNoSuchTerm);
    }

    private static void instances() {
        Check.test("instanceSecondOfTheFirst", BoundaryAskingTest::instanceSecondOfTheFirst);
        Check.test("instanceATreeForEachLeaf", BoundaryAskingTest::instanceATreeForEachLeaf);
        Check.test("instanceSameForSameLeaf", BoundaryAskingTest::instanceSameForSameLeaf);
        Check.test("instanceNoSuchTerm", BoundaryAskingTest::instanceNoSuchTerm);
        Check.test("variantButForNames", BoundaryAskingTest::variantButForNames);
        Check.test("variantEachOfTheOther", BoundaryAskingTest::variantEachOfTheOther);
        Check.test("variantNoSuchTerm", BoundaryAskingTest::variantNoSuchTerm);
    }

    private static void common() {
        Check.test("commonMostSpecial", BoundaryAskingTest::commonMostSpecial);
        Check.test("commonDifferentTrees", BoundaryAskingTest::commonDifferentTrees);
        Check.test("commonLeaves", BoundaryAskingTest::commonLeaves);
        Check.test("commonNoSuchTerm", BoundaryAskingTest::commonNoSuchTerm);
        Check.test("commonAnotherWhat", BoundaryAskingTest::commonAnotherWhat);
    }

    private static void text() {
        Check.test("textLeastNumber", BoundaryAskingTest::textLeastNumber);
        Check.test("textInDecimals", BoundaryAskingTest::textInDecimals);
        Check.test("textSigns", BoundaryAskingTest::textSigns);
        Check.test("textHowManyBytes", BoundaryAskingTest::textHowManyBytes);
        Check.test("textNotFinite", BoundaryAskingTest::textNotFinite);
        Check.test("textMoreThan200", BoundaryAskingTest::textMoreThan200);
        Check.test("textOutStays", BoundaryAskingTest::textOutStays);
        Check.test("textNoSuchTerm", BoundaryAskingTest::textNoSuchTerm);
    }

    private static void out() {
        Check.test("outLowestFirst", BoundaryAskingTest::outLowestFirst);
        Check.test("outBehindItsEnd", BoundaryAskingTest::outBehindItsEnd);
        Check.test("outNoByte", BoundaryAskingTest::outNoByte);
    }

    /** Promise 8: "Whether two terms have the same tree." */
    private static void sameTree() {
        TermForge x = Build.variables(2);
        Check.due("a term and itself", x.same(0, 0), true);
        Check.due("two variables", x.same(0, 1), false);
        int a = Build.constant(x, 1);
        Check.due("made twice", x.same(a, Build.constant(x, 1)), true);
        Check.due("a variable and a sign", x.same(0, a), false);
        Check.due("a sign and a variable", x.same(a, 1), false);
        int deep = Build.tower(x, 2, 100, 0);
        int other = Build.tower(x, 2, 100, 1);
        Check.due("they differ at the bottom", x.same(deep, other), false);
        x.join(0, 1);
        Check.due("not any more, and no equation was needed", x.same(deep, other), true);
        int e = Build.endless(x, 3);
        int period = x.variable();
        x.join(period, Build.tower(x, 3, 3, period));
        Check.due("without end, made by another circle", x.same(e, period), true);
        Check.due("without end and finite", x.same(e, Build.tower(x, 3, 9, a)), false);
    }

    /** Promise 8: "Throws IllegalArgumentException." */
    private static void sameNoSuchTerm() {
        Refusal.ofTerms("same(t, 0)", (x, term) -> x.same(term, 0) ? 1 : 0);
        Refusal.ofTerms("same(0, t)", (x, term) -> x.same(0, term) ? 1 : 0);
        Refusal.ofTerms("same(t, t)", (x, term) -> x.same(term, term) ? 1 : 0);
    }

    /** Promise 9: "Whether a term's tree is finite." */
    private static void finiteTree() {
        TermForge x = Build.variables(2);
        int a = Build.constant(x, 1);
        int f = Build.two(x, 2, 0, 1);
        Check.due("a variable", x.isFinite(0), true);
        Check.due("a sign with nothing below", x.isFinite(a), true);
        x.mark();
        x.join(0, Build.tower(x, 1, 100, f));
        Check.due("comes to itself after 101 signs", x.isFinite(0), false);
        Check.due("on the way", x.isFinite(f), false);
        Check.due("a leaf in it", x.isFinite(1), true);
        int above = Build.one(x, 5, f);
        Check.due("above one that is not", x.isFinite(above), false);
        x.undo();
        Check.due("when that was taken back", x.isFinite(0), true);
        Check.due("when that was taken back", x.isFinite(f), true);
        int t = Build.tower(x, 1, 295, a);
        Check.due("as deep as can be", x.isFinite(t - 1), true);
    }

    /** Promise 9: "Throws IllegalArgumentException." */
    private static void finiteNoSuchTerm() {
        Refusal.ofTerms("isFinite", (x, term) -> x.isFinite(term) ? 1 : 0);
    }

    /** Promise 10: "Its size", at its least. */
    private static void sizeSmall() {
        TermForge x = Build.variables(1);
        Check.due("a variable", x.size(0), 1);
        Check.due("a sign with nothing below", x.size(Build.constant(x, 0)), 1);
        Check.due("a sign above one", x.size(Build.one(x, 0, 0)), 2);
        Check.due("a sign above the same three times", x.size(Build.three(x, 0, 0, 0, 0)), 4);
        x.join(0, Build.two(x, 1, 1, 1));
        Check.due("a variable that is a sign now", x.size(0), 3);
    }

    /** Promise 10: "-1 when it is not finite". */
    private static void sizeNotFinite() {
        TermForge x = new TermForge();
        int e = Build.endless(x, 1);
        Check.due("without end", x.size(e), -1);
        Check.due("its variable", x.size(0), -1);
        int large = Build.ofSize(x, LARGE);
        Check.due("without end beside a large one", x.size(Build.two(x, 2, large, e)), -1);
        Check.due("a large one beside without end", x.size(Build.two(x, 2, e, large)), -1);
        Check.due("the large one", x.size(large), LARGE);
        Check.due("without end far below", x.size(Build.tower(x, 3, 100, e)), -1);
    }

    /** Promise 10: "1000000000000 when it is as large, or larger". */
    private static void sizeAsLargeOrLarger() {
        for (int off = -2; off <= 2; off++) {
            TermForge x = new TermForge();
            long want = off < 0 ? LARGE + off : LARGE;
            Check.due("1000000000000 and " + off, x.size(Build.ofSize(x, LARGE + off)), want);
        }
        TermForge y = Build.variables(1);
        int top = 0;
        long size = 1;
        for (int k = 1; k < 200; k++) {
            top = Build.three(y, 0, top, top, top);
            size = Math.min(3 * size + 1, LARGE);
            // Past every power of two at which a number could begin anew.
            Check.due("three times as large, " + k + " times", y.size(top), size);
        }
        TermForge z = new TermForge();
        int most = Build.ofSize(z, LARGE - 1);
        Check.due("one more", z.size(Build.one(z, 1, most)), LARGE);
        Check.due("three of them", z.size(Build.three(z, 1, most, most, most)), LARGE);
    }

    /** Promise 10: "Throws IllegalArgumentException." */
    private static void sizeNoSuchTerm() {
        Refusal.ofTerms("size", TermForge::size);
    }

    /** Promise 11: "Its depth", from the least to the most that 300 terms make. */
    private static void depthSmallAndLarge() {
        TermForge x = Build.variables(1);
        Check.due("a variable", x.depth(0), 0);
        Check.due("a sign above it", x.depth(Build.one(x, 0, 0)), 1);
        Check.due("signs above it", x.depth(Build.tower(x, 0, 298, 1)), 299);
        TermForge y = new TermForge();
        Check.due("a sign with nothing below", y.depth(Build.constant(y, 0)), 1);
        Check.due("signs above it", y.depth(Build.tower(y, 0, 299, 0)), 300);
    }

    /** Promise 11: "-1 when it is not finite". */
    private static void depthNotFinite() {
        TermForge x = new TermForge();
        int e = Build.endless(x, 1);
        int deep = Build.tower(x, 2, 50, Build.constant(x, 3));
        Check.due("without end", x.depth(e), -1);
        Check.due("its variable", x.depth(0), -1);
        Check.due("beside a deep one", x.depth(Build.two(x, 2, deep, e)), -1);
        Check.due("above one without end", x.depth(Build.three(x, 2, e, deep, deep)), -1);
        Check.due("the deep one", x.depth(deep), 51);
    }

    /** Promise 11: "Throws IllegalArgumentException." */
    private static void depthNoSuchTerm() {
        Refusal.ofTerms("depth", TermForge::depth);
    }

    /** Promise 12: "How many different leaves of variables the tree has." */
    private static void variablesDifferent() {
        TermForge x = Build.variables(3);
        int f = Build.three(x, 0, 0, 1, 0);
        int g = Build.three(x, 0, f, 2, f);
        Check.due("a variable", x.variables(0), 1);
        Check.due("one of them twice", x.variables(f), 2);
        Check.due("all, in several places", x.variables(g), 3);
        x.mark();
        x.join(0, 1);
        Check.due("two of them one leaf", x.variables(g), 2);
        x.join(1, Build.constant(x, 5));
        Check.due("no leaf any more", x.variables(g), 1);
        x.undo();
        int e = x.variable();
        x.join(e, Build.three(x, 1, 0, e, 2));
        Check.due("without end", x.variables(e), 2);
        x.join(0, 2);
        Check.due("without end, the two made one", x.variables(e), 1);
    }

    /** Promise 12: "How many different leaves of variables", none and as many as can be in one tree. */
    private static void variablesNoneAndMany() {
        TermForge x = new TermForge();
        int a = Build.constant(x, 0);
        Check.due("a sign with nothing below", x.variables(a), 0);
        Check.due("signs alone", x.variables(Build.three(x, 1, a, a, a)), 0);
        Check.due("signs alone without end", x.variables(Build.endless(x, 2)), 0);
        TermForge y = Build.variables(199);
        int top = 0;
        for (int k = 1; k < 199; k += 2) {
            top = Build.three(y, 0, top, k, k + 1);
        }
        Check.due("199 of them", y.variables(top), 199);
        y.join(0, top);
        Check.due("one of them comes to itself", y.variables(top), 198);
    }

    /** Promise 12: "Throws IllegalArgumentException." */
    private static void variablesNoSuchTerm() {
        Refusal.ofTerms("variables", TermForge::variables);
    }

    /** Promise 13: "How many different trees there are in it". */
    private static void partsDifferent() {
        TermForge x = Build.variables(2);
        int f = Build.one(x, 0, 0);
        int again = Build.one(x, 0, 0);
        int g = Build.one(x, 0, 1);
        Check.due("made twice", x.parts(Build.two(x, 1, f, again)), 3);
        int top = Build.two(x, 1, f, g);
        Check.due("of other leaves", x.parts(top), 5);
        x.join(0, 1);
        Check.due("of one leaf", x.parts(top), 3);
        int e = Build.endless(x, 2);
        int other = Build.endless(x, 2);
        Check.due("without end", x.parts(e), 1);
        Check.due("without end, twice the same", x.parts(Build.two(x, 3, e, other)), 2);
        int p = x.variable();
        x.join(p, Build.one(x, 2, Build.one(x, 4, p)));
        Check.due("a circle of two", x.parts(p), 2);
        Check.due("a circle of two, twice round", x.parts(Build.one(x, 2, Build.one(x, 4, p))), 2);
    }

    /** Promise 13: "itself, and all below", from one to 300. */
    private static void partsItself() {
        TermForge x = Build.variables(1);
        Check.due("a leaf is itself", x.parts(0), 1);
        int top = Build.tower(x, 0, 299, 0);
        Check.due("300", x.parts(top), 300);
        Check.due("299 below", x.parts(top - 1), 299);
        x.join(0, top);
        Check.due("all of them one", x.parts(top), 1);
        TermForge y = new TermForge();
        Check.due("a sign with nothing below is itself", y.parts(Build.constant(y, 0)), 1);
    }

    /** Promise 13: "Throws IllegalArgumentException." */
    private static void partsNoSuchTerm() {
        Refusal.ofTerms("parts", TermForge::parts);
    }

    /** Promise 14: "Whether the second tree is an INSTANCE of the first one". */
    private static void instanceSecondOfTheFirst() {
        TermForge x = Build.variables(2);
        int a = Build.constant(x, 1);
        int f = Build.two(x, 2, 0, a);
        int e = Build.endless(x, 3);
        int[][] oneWay = {{0, a}, {1, f}, {0, e}, {f, Build.two(x, 2, e, a)}, {Build.one(x, 3, 0), e}};
        for (int[] pair : oneWay) {
            Check.due("the second of the first", x.instance(pair[0], pair[1]), true);
            Check.due("the first of the second", x.instance(pair[1], pair[0]), false);
        }
        int[] all = {0, a, f, e};
        for (int term : all) {
            Check.due("a tree of itself", x.instance(term, term), true);
        }
    }

    /** Promise 14: "it comes of that by putting a tree for each leaf of a variable". */
    private static void instanceATreeForEachLeaf() {
        TermForge x = Build.variables(2);
        int a = Build.constant(x, 1);
        int e = Build.endless(x, 2);
        int f01 = Build.two(x, 3, 0, 1);
        Check.due("itself", x.instance(f01, f01), true);
        Check.due("anything of a leaf", x.instance(0, f01), true);
        Check.due("one without end of a leaf", x.instance(0, e), true);
        Check.due("a leaf of a leaf", x.instance(0, 1), true);
        Check.due("no leaf of a sign", x.instance(a, 0), false);
        Check.due("a sign with nothing below of itself", x.instance(a, Build.constant(x, 1)), true);
        Check.due("leaves changed about", x.instance(f01, Build.two(x, 3, 1, 0)), true);
        Check.due("a leaf put into itself", x.instance(f01, Build.two(x, 3, f01, e)), true);
        Check.due("not the other way", x.instance(Build.two(x, 3, a, 1), f01), false);
        Check.due("another sign", x.instance(Build.two(x, 4, 0, 1), f01), false);
        Check.due("another number below", x.instance(Build.three(x, 3, 0, 1, 1), f01), false);
        Check.due("without end of a finite one", x.instance(Build.one(x, 2, 0), e), true);
        Check.due("no finite one of one without end", x.instance(e, Build.one(x, 2, 0)), false);
    }

    /** Promise 14: "(always the same one for the same leaf)". */
    private static void instanceSameForSameLeaf() {
        TermForge x = Build.variables(2);
        int a = Build.constant(x, 1);
        int b = Build.constant(x, 2);
        int f00 = Build.two(x, 3, 0, 0);
        int f01 = Build.two(x, 3, 0, 1);
        Check.due("the same", x.instance(f00, Build.two(x, 3, a, a)), true);
        Check.due("the same, made twice", x.instance(f00, Build.two(x, 3, a, Build.constant(x, 1))), true);
        Check.due("two for one", x.instance(f00, Build.two(x, 3, a, b)), false);
        Check.due("two leaves for one", x.instance(f00, f01), false);
        Check.due("one for two", x.instance(f01, f00), true);
        int far = Build.two(x, 4, f01, Build.one(x, 5, 0));
        int right = Build.two(x, 4, Build.two(x, 3, a, b), Build.one(x, 5, a));
        int wrong = Build.two(x, 4, Build.two(x, 3, a, b), Build.one(x, 5, b));
        Check.due("the same in places far from each other", x.instance(far, right), true);
        Check.due("two in places far from each other", x.instance(far, wrong), false);
        Check.due("a leaf itself and another", x.instance(f00, Build.two(x, 3, 0, a)), false);
        x.join(0, 1);
        Check.due("two variables of one leaf", x.instance(f01, Build.two(x, 3, a, b)), false);
    }

    /** Promise 14: "Throws IllegalArgumentException." */
    private static void instanceNoSuchTerm() {
        Refusal.ofTerms("instance(t, 0)", (x, term) -> x.instance(term, 0) ? 1 : 0);
        Refusal.ofTerms("instance(0, t)", (x, term) -> x.instance(0, term) ? 1 : 0);
        Refusal.ofTerms("instance(t, t)", (x, term) -> x.instance(term, term) ? 1 : 0);
    }

    /** Promise 15: "Whether two trees are the same but for the names of variables' leaves". */
    private static void variantButForNames() {
        TermForge x = Build.variables(4);
        int f01 = Build.two(x, 1, 0, 1);
        Check.due("itself", x.variant(f01, f01), true);
        Check.due("two leaves", x.variant(0, 3), true);
        Check.due("other names", x.variant(f01, Build.two(x, 1, 2, 3)), true);
        Check.due("names changed about", x.variant(f01, Build.two(x, 1, 1, 0)), true);
        Check.due("one name in both", x.variant(f01, Build.two(x, 1, 1, 2)), true);
        int a = Build.constant(x, 2);
        Check.due("no names at all", x.variant(a, Build.constant(x, 2)), true);
        Check.due("another sign", x.variant(a, Build.constant(x, 3)), false);
        Check.due("another number below", x.variant(a, Build.one(x, 2, 0)), false);
        int p = x.variable();
        int q = x.variable();
        x.join(p, Build.two(x, 4, 0, p));
        x.join(q, Build.two(x, 4, 1, Build.two(x, 4, 1, q)));
        Check.due("without end", x.variant(p, q), true);
    }

    /** Promise 15: "(each is an instance of the other)". */
    private static void variantEachOfTheOther() {
        TermForge x = Build.variables(2);
        int a = Build.constant(x, 1);
        int f01 = Build.two(x, 2, 0, 1);
        int f00 = Build.two(x, 2, 0, 0);
        int faa = Build.two(x, 2, a, a);
        int[][] oneWay = {{0, a}, {f01, f00}, {f00, faa}, {f01, faa}, {1, f01}};
        for (int[] pair : oneWay) {
            Check.due("an instance", x.instance(pair[0], pair[1]), true);
            Check.due("but not back", x.variant(pair[0], pair[1]), false);
            Check.due("nor the other way round", x.variant(pair[1], pair[0]), false);
        }
        int e = Build.endless(x, 3);
        Check.due("a leaf and one without end", x.variant(0, e), false);
        Check.due("one without end and a leaf", x.variant(e, 0), false);
        x.join(0, 1);
        Check.due("one leaf now", x.variant(f01, f00), true);
    }

    /** Promise 15: "Throws IllegalArgumentException." */
    private static void variantNoSuchTerm() {
        Refusal.ofTerms("variant(t, 0)", (x, term) -> x.variant(term, 0) ? 1 : 0);
        Refusal.ofTerms("variant(0, t)", (x, term) -> x.variant(0, term) ? 1 : 0);
        Refusal.ofTerms("variant(t, t)", (x, term) -> x.variant(term, term) ? 1 : 0);
    }

    private static void dueCommon(String name, TermForge x, int a, int b, int trees, int leaves) {
        Check.due("trees of " + name, x.common(a, b, 0), trees);
        Check.due("leaves of " + name, x.common(a, b, 1), leaves);
        Check.due("trees the other way round of " + name, x.common(b, a, 0), trees);
        Check.due("leaves the other way round of " + name, x.common(b, a, 1), leaves);
    }

    /** Promise 16: "Of the most special tree that both are instances of". */
    private static void commonMostSpecial() {
        TermForge x = Build.variables(2);
        int a = Build.constant(x, 1);
        int b = Build.constant(x, 2);
        int fab = Build.two(x, 3, a, b);
        dueCommon("a sign and itself", x, a, a, 1, 0);
        dueCommon("two signs", x, a, b, 1, 1);
        dueCommon("a leaf and itself", x, 0, 0, 1, 1);
        dueCommon("two leaves", x, 0, 1, 1, 1);
        dueCommon("a leaf and a tree", x, 0, fab, 1, 1);
        dueCommon("a tree and itself", x, fab, fab, 3, 0);
        dueCommon("a tree and a part of it", x, fab, a, 1, 1);
        dueCommon("another number below", x, fab, Build.three(x, 3, a, b, b), 1, 1);
        int f01 = Build.two(x, 3, 0, 1);
        dueCommon("a tree and an instance of it", x, f01, fab, 3, 2);
        dueCommon("one place the same", x, fab, Build.two(x, 3, a, a), 3, 1);
        int e = Build.endless(x, 4);
        dueCommon("without end and itself", x, e, e, 1, 0);
        dueCommon("without end and finite", x, e, Build.tower(x, 4, 2, a), 3, 1);
        dueCommon("without end and a leaf", x, e, 0, 1, 1);
    }

    /** Promise 16: "how many different trees are in it (0)". */
    private static void commonDifferentTrees() {
        TermForge x = Build.variables(1);
        int a = Build.constant(x, 1);
        int b = Build.constant(x, 2);
        int faa = Build.two(x, 3, a, a);
        int fbb = Build.two(x, 3, b, b);
        dueCommon("the same leaf twice", x, faa, fbb, 2, 1);
        dueCommon("the same node twice", x, Build.two(x, 4, faa, faa), Build.two(x, 4, fbb, fbb), 3, 1);
        int mixed = Build.two(x, 4, Build.two(x, 3, a, a), faa);
        dueCommon("made twice", x, mixed, Build.two(x, 4, fbb, fbb), 3, 1);
        TermForge y = Build.variables(1);
        int top = Build.tower(y, 0, 299, 0);
        Check.due("300", y.common(top, top, 0), 300);
        Check.due("one sign less", y.common(top - 1, top, 0), 299);
        Check.due("the leaf alone", y.common(0, top, 0), 1);
    }

    /** Promise 16: "how many leaves of variables (1)"; the same leaf in several places is one, as in promise 12. */
    private static void commonLeaves() {
        TermForge x = Build.variables(2);
        int a = Build.constant(x, 1);
        int b = Build.constant(x, 2);
        int fab = Build.two(x, 3, a, b);
        dueCommon("the same two in both places", x, Build.two(x, 3, a, a), Build.two(x, 3, b, b), 2, 1);
        dueCommon("the same two, changed about", x, fab, Build.two(x, 3, b, a), 3, 2);
        dueCommon("none", x, fab, Build.two(x, 3, a, b), 3, 0);
        int f01 = Build.two(x, 3, 0, 1);
        dueCommon("leaves of both", x, f01, f01, 3, 2);
        dueCommon("one leaf against two", x, Build.two(x, 3, 0, 0), f01, 3, 2);
        x.join(0, 1);
        dueCommon("one leaf", x, f01, Build.two(x, 3, 1, 0), 2, 1);
        int p = x.variable();
        int q = x.variable();
        x.join(p, Build.two(x, 5, a, p));
        x.join(q, Build.two(x, 5, b, q));
        dueCommon("a leaf in places without end", x, p, q, 2, 1);
    }

    /** Promise 16: "Throws IllegalArgumentException" for terms that are none. */
    private static void commonNoSuchTerm() {
        for (int what = 0; what <= 1; what++) {
            int asked = what;
            Refusal.ofTerms("common(t, 0, " + what + ")", (x, term) -> x.common(term, 0, asked));
            Refusal.ofTerms("common(0, t, " + what + ")", (x, term) -> x.common(0, term, asked));
            Refusal.ofTerms("common(t, t, " + what + ")", (x, term) -> x.common(term, term, asked));
        }
    }

    /** Promise 16: "Throws IllegalArgumentException also for another what." */
    private static void commonAnotherWhat() {
        TermForge x = Build.variables(2);
        int[] others = {-1, 2, 3, LEAST, MOST};
        for (int what : others) {
            Check.argument("what " + what, () -> x.common(0, 1, what));
            Check.argument("what " + what + " of a term and itself", () -> x.common(0, 0, what));
            Check.argument("what " + what + " and no such term", () -> x.common(0, 2, what));
        }
        Check.due("what 0", x.common(0, 1, 0), 1);
        Check.due("what 1", x.common(0, 1, 1), 1);
    }

    /** Promise 17: "V and the least number of a variable that is this leaf". */
    private static void textLeastNumber() {
        TermForge x = Build.variables(5);
        Build.dueText(x, 0, "V0");
        Build.dueText(x, 4, "V4");
        x.join(4, 2);
        Build.dueText(x, 4, "V2");
        x.mark();
        x.join(3, 4);
        x.join(1, 3);
        Build.dueText(x, 4, "V1");
        Build.dueText(x, 2, "V1");
        x.undo();
        Build.dueText(x, 4, "V2");
        Build.dueText(x, 3, "V3");
        x.join(0, Build.constant(x, 6));
        Build.dueText(x, 0, "S6");
        x.mark();
        int late = x.variable();
        x.join(late, 1);
        Build.dueText(x, late, "V1");
        x.undo();
        Check.due("a sign where the variable was", Build.two(x, 7, 4, 0), late);
        Build.dueText(x, late, "S7(V2,S6)");
    }

    /** Promise 17: "in decimals", at every number of them. */
    private static void textInDecimals() {
        TermForge x = Build.variables(300);
        int[] numbers = {0, 9, 10, 11, 90, 99, 100, 101, 109, 110, 199, 200, 290, 299};
        for (int number : numbers) {
            Build.dueText(x, number, "V" + number);
        }
        TermForge y = new TermForge();
        for (int sign = 0; sign <= 15; sign++) {
            Build.dueText(y, Build.constant(y, sign), "S" + sign);
        }
    }

    /** Promise 17: "S and the sign's number, and with terms below ( , , )". */
    private static void textSigns() {
        TermForge x = Build.variables(1);
        int a = Build.constant(x, 15);
        Build.dueText(x, a, "S15");
        Build.dueText(x, Build.one(x, 0, a), "S0(S15)");
        Build.dueText(x, Build.two(x, 1, a, 0), "S1(S15,V0)");
        int f = Build.three(x, 10, 0, a, 0);
        Build.dueText(x, f, "S10(V0,S15,V0)");
        Build.dueText(x, Build.three(x, 2, f, a, f), "S2(S10(V0,S15,V0),S15,S10(V0,S15,V0))");
        x.join(0, Build.two(x, 3, a, a));
        Build.dueText(x, f, "S10(S3(S15,S15),S15,S3(S15,S15))");
    }

    /** Promise 17: "OUT becomes the text of a finite term [..]: how many bytes". */
    private static void textHowManyBytes() {
        TermForge x = Build.variables(1);
        int a = Build.constant(x, 12);
        Check.due("least", x.text(0), 2);
        Check.due("bytes of OUT", x.look(4), 2);
        Check.due("longer", x.text(Build.three(x, 1, a, 0, a)), 14);
        Check.due("bytes of OUT", x.look(4), 14);
        Check.due("shorter again", x.text(a), 3);
        Check.due("bytes of OUT", x.look(4), 3);
        Check.due("nothing is left of the longer one", x.out(0), 'S' | '1' << 8 | '2' << 16);
    }

    /** Promise 17: "-1 when it is not finite". */
    private static void textNotFinite() {
        TermForge x = new TermForge();
        int e = Build.endless(x, 1);
        int a = Build.constant(x, 2);
        Check.due("without end", x.text(e), -1);
        Check.due("its variable", x.text(0), -1);
        Check.due("without end behind a finite one", x.text(Build.two(x, 3, a, e)), -1);
        Check.due("without end before a finite one", x.text(Build.two(x, 3, e, a)), -1);
        Check.due("OUT is empty still", x.look(4), 0);
    }

    /** Promise 17: "or these would be more than 200". */
    private static void textMoreThan200() {
        // Levels of S0( ) take 4 bytes each: 47 of them 188, 48 of them 192.
        dueTower(47, "S2(S1,S10)", 198);
        dueTower(47, "S2(S11,S10)", 199);
        dueTower(47, "S2(S1,S1,S1)", 200);
        dueTower(47, "S2(S1,S1,S10)", -1);
        dueTower(47, "S2(S1,S11,S10)", -1);
        dueTower(48, "S2(S1,S10)", -1);
        dueTower(48, "S2(S1)", 198);
        dueTower(49, "S10", 199);
        dueTower(50, "S1", -1);
        dueComb(2, 200);
        dueComb(3, -1);
        TermForge x = Build.variables(1);
        int top = 0;
        for (int k = 0; k < 100; k++) {
            top = Build.three(x, 1, top, top, top);
        }
        Check.due("far more", x.text(top), -1);
        TermForge y = Build.variables(1);
        Check.due("far deeper", y.text(Build.tower(y, 1, 299, 0)), -1);
    }

    /** The text of signs 0 above one another with, at their bottom, S2 above constants, or one constant. */
    private static void dueTower(int levels, String inside, int want) {
        TermForge x = new TermForge();
        String[] names = inside.replace("S2(", "").replace(")", "").replace("S", "").split(",");
        int[] below = {-1, -1, -1};
        for (int k = 0; k < names.length; k++) {
            below[k] = Build.constant(x, Integer.parseInt(names[k]));
        }
        int bottom = inside.startsWith("S2(") ? x.sign(2, names.length, below[0], below[1], below[2]) : below[0];
        String whole = "S0(".repeat(levels) + inside + ")".repeat(levels);
        Check.due("text of " + whole.length() + " bytes", x.text(Build.tower(x, 0, levels, bottom)), want);
        Check.due("OUT", Build.written(x), want < 0 ? "" : whole);
    }

    /** 19 signs with three below, of which two are leaves, take 192 bytes; levels of S1( ) are put above them. */
    private static void dueComb(int levels, int want) {
        TermForge x = Build.variables(1);
        int top = 0;
        String whole = "V0";
        for (int k = 0; k < 19; k++) {
            top = Build.three(x, 1, top, 0, 0);
            whole = "S1(" + whole + ",V0,V0)";
        }
        whole = "S1(".repeat(levels) + whole + ")".repeat(levels);
        Check.due("text of " + whole.length() + " bytes", x.text(Build.tower(x, 1, levels, top)), want);
        Check.due("OUT", Build.written(x), want < 0 ? "" : whole);
    }

    /** Promise 17: "(OUT stays)". */
    private static void textOutStays() {
        TermForge x = new TermForge();
        int e = Build.endless(x, 1);
        int a = Build.constant(x, 14);
        int fits = Build.tower(x, 13, 37, Build.two(x, 12, a, a));
        int tooLong = Build.one(x, 0, fits);
        Build.dueText(x, a, "S14");
        Check.due("without end", x.text(e), -1);
        Check.due("OUT", Build.written(x), "S14");
        Check.due("too long by one", x.text(tooLong), -1);
        Check.due("OUT", Build.written(x), "S14");
        String whole = "S13(".repeat(37) + "S12(S14,S14)" + ")".repeat(37);
        Build.dueText(x, fits, whole);
        Check.due("too long by one", x.text(tooLong), -1);
        Check.due("OUT", Build.written(x), whole);
        Check.due("without end", x.text(0), -1);
        Check.due("OUT", Build.written(x), whole);
        Check.argument("no such term", () -> x.text(300));
        Check.due("OUT", Build.written(x), whole);
    }

    /** Promise 17: "Throws IllegalArgumentException." */
    private static void textNoSuchTerm() {
        Refusal.ofTerms("text", TermForge::text);
    }

    /** Eight bytes of a text from a place on as the document tells them. */
    private static long eight(String text, int k) {
        long eight = 0;
        for (int at = 0; at < 8 && k + at < text.length(); at++) {
            eight |= (long) text.charAt(k + at) << (8 * at);
        }
        return eight;
    }

    /** Promise 18: "Eight bytes of OUT from k on, lowest first". */
    private static void outLowestFirst() {
        TermForge x = Build.variables(1);
        int a = Build.constant(x, 15);
        Check.due("bytes", x.text(Build.two(x, 1, a, 0)), 10);
        // S 1 ( S 1 5 , V, and one further, behind which stand two more.
        Check.due("out(0)", x.out(0), 0x562c3531_53283153L);
        Check.due("out(1)", x.out(1), 0x30562c35_31532831L);
        Check.due("out(2)", x.out(2), 0x2930562c_35315328L);
    }

    /** Promise 18: "(0 behind its end)". */
    private static void outBehindItsEnd() {
        TermForge x = Build.variables(1);
        int a = Build.constant(x, 15);
        String[] texts = {"S9(S1(S15,V0),S15,S1(S15,V0))", "S1(S15,V0)", "S15", "V0"};
        int f = Build.two(x, 1, a, 0);
        int[] terms = {Build.three(x, 9, f, a, f), f, a, 0};
        for (int t = 0; t < terms.length; t++) {
            Check.due("text of " + texts[t], x.text(terms[t]), texts[t].length());
            // The longer text before must not show behind the end of this one.
            for (int k = 0; k < texts[t].length(); k++) {
                Check.due("out(" + k + ") of " + texts[t], x.out(k), eight(texts[t], k));
            }
        }
        Check.due("the last byte alone", x.out(1), '0');
        TermForge y = new TermForge();
        String whole = "S0(".repeat(47) + "S2(S1,S1,S1)" + ")".repeat(47);
        int b = Build.constant(y, 1);
        Check.due("200 bytes", y.text(Build.tower(y, 0, 47, Build.three(y, 2, b, b, b))), 200);
        for (int k = 190; k < 200; k++) {
            Check.due("out(" + k + ") of 200", y.out(k), eight(whole, k));
        }
    }

    /** Promise 18: "Throws NoSuchElementException when there is no byte k." */
    private static void outNoByte() {
        TermForge x = Build.variables(1);
        int[] none = {-1, 0, 1, 7, 199, 200, LEAST, MOST};
        for (int k : none) {
            Check.noElement("out(" + k + ") of an empty OUT", () -> x.out(k));
        }
        x.text(0);
        Check.due("the last byte", x.out(1), '0');
        int[] behind = {-1, -8, 2, 3, 199, 200, 256, LEAST, MOST};
        for (int k : behind) {
            Check.noElement("out(" + k + ") of two bytes", () -> x.out(k));
        }
        int a = Build.constant(x, 1);
        Check.due("200 bytes", x.text(Build.tower(x, 0, 47, Build.three(x, 2, a, a, a))), 200);
        Check.due("the last byte", x.out(199), ')');
        Check.noElement("out(200) of 200 bytes", () -> x.out(200));
        Check.noElement("out(-1) of 200 bytes", () -> x.out(-1));
        x.text(0);
        Check.noElement("out(2) of two bytes again", () -> x.out(2));
    }

    /** Promise 19: "0 terms, 1 equations, 2 levels, [..] 4 bytes of OUT". */
    private static void lookEach() {
        TermForge x = Build.variables(3);
        Check.due("of three variables", Build.counts(x), "3,0,0,3,0,");
        x.mark();
        x.mark();
        x.join(0, 0);
        x.text(0);
        Check.due("with two levels, an equation and a text", Build.counts(x), "3,1,2,3,2,");
        x.variable();
        x.join(0, 1);
        x.join(2, 3);
        Check.due("with a term and two equations more", Build.counts(x), "4,3,2,2,2,");
        x.undo();
        Check.due("with a level less", Build.counts(x), "3,0,1,3,2,");
        x.undo();
        Check.due("with none", Build.counts(x), "3,0,0,3,2,");
    }

    /** Promise 19: "3 different trees of all terms". */
    private static void lookTrees() {
        TermForge x = new TermForge();
        Check.due("no terms", x.look(3), 0);
        int u = x.variable();
        int v = x.variable();
        int f = Build.one(x, 0, u);
        int g = Build.one(x, 0, v);
        Check.due("four", x.look(3), 4);
        Build.one(x, 0, u);
        Check.due("one made twice", x.look(3), 4);
        x.mark();
        x.join(f, g);
        Check.due("two and two the same", x.look(3), 2);
        x.join(u, g);
        Check.due("all the same without end", x.look(3), 1);
        x.undo();
        Check.due("four again", x.look(3), 4);
        Build.tower(x, 1, 295, u);
        Check.due("of 300 terms", x.look(3), 299);
    }

    /** Promise 19: "Throws IllegalArgumentException for another what." */
    private static void lookAnotherWhat() {
        TermForge x = Build.variables(1);
        int[] others = {-1, 5, 6, 8, LEAST, MOST};
        for (int what : others) {
            Check.argument("look(" + what + ")", () -> x.look(what));
        }
        Check.due("counts", Build.counts(x), "1,0,0,1,0,");
    }
}

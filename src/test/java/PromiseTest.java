/** One method for each promise: ordinary inputs, the edges that the document names, wrong inputs. */
public final class PromiseTest {
    private static final long LARGE = 1000000000000L;

    private PromiseTest() {
    }

    public static void main(String[] args) {
        newObject();
        variable();
        sign();
        signOrder();
        join();
        joinEndless();
        could();
        mark();
        undo();
        undoRestores();
        same();
        isFinite();
        size();
        depth();
        variables();
        parts();
        instance();
        instanceEndless();
        variant();
        common();
        commonEndless();
        text();
        textLength();
        out();
        look();
        noSuchTerm();
        throwingChangesNothing();
        Check.end();
    }

    private static void newObject() {
        TermForge x = new TermForge();
        for (int what = 0; what <= 4; what++) {
            Check.due("new: look(" + what + ")", x.look(what), 0);
        }
        Check.argument("new: size(0)", () -> x.size(0));
        Check.noElement("new: out(0)", () -> x.out(0));
        Check.state("new: undo()", x::undo);
        TermForge y = new TermForge();
        x.variable();
        Check.due("another object's terms", y.look(0), 0);
    }

    private static void variable() {
        TermForge x = new TermForge();
        for (int k = 0; k < 300; k++) {
            Check.due("variable", x.variable(), k);
        }
        Check.state("variable 300", x::variable);
        Check.due("terms", x.look(0), 300);
        Check.due("trees", x.look(3), 300);
        Check.due("size of the last", x.size(299), 1);
    }

    private static void sign() {
        TermForge x = new TermForge();
        Check.due("sign 0", Build.constant(x, 0), 0);
        Check.due("sign 0 again is a new term", Build.constant(x, 0), 1);
        Check.due("sign 15", x.sign(15, 3, 0, 1, 0), 2);
        Check.due("terms not asked for do not matter", x.sign(15, 2, 0, 1, 77), 3);
        Check.due("terms not asked for do not matter", x.sign(15, 1, 0, -5, 77), 4);
        Check.due("terms not asked for do not matter", x.sign(15, 0, 99, -5, 77), 5);
        Build.dueText(x, 2, "S15(S0,S0,S0)");
        Build.dueText(x, 3, "S15(S0,S0)");
        Build.dueText(x, 4, "S15(S0)");
        Build.dueText(x, 5, "S15");
        Check.argument("sign -1", () -> x.sign(-1, 0, 0, 0, 0));
        Check.argument("sign 16", () -> x.sign(16, 0, 0, 0, 0));
        Check.argument("n -1", () -> x.sign(0, -1, 0, 0, 0));
        Check.argument("n 4", () -> x.sign(0, 4, 0, 0, 0));
        Check.argument("sign least", () -> x.sign(Integer.MIN_VALUE, 0, 0, 0, 0));
        Check.argument("n most", () -> x.sign(0, Integer.MAX_VALUE, 0, 0, 0));
        Check.argument("a none", () -> x.sign(0, 1, 6, 0, 0));
        Check.argument("a below 0", () -> x.sign(0, 1, -1, 0, 0));
        Check.argument("b none", () -> x.sign(0, 2, 0, 6, 0));
        Check.argument("b below 0", () -> x.sign(0, 2, 0, -1, 0));
        Check.argument("c none", () -> x.sign(0, 3, 0, 0, 6));
        Check.argument("c below 0", () -> x.sign(0, 3, 0, 0, -1));
        Check.argument("a none of three", () -> x.sign(0, 3, Integer.MAX_VALUE, 0, 0));
        Check.due("terms", x.look(0), 6);
    }

    private static void signOrder() {
        TermForge x = new TermForge();
        for (int k = 0; k < 300; k++) {
            Build.constant(x, k % 16);
        }
        Check.state("sign when full", () -> x.sign(0, 0, 0, 0, 0));
        Check.state("sign when full", () -> x.sign(0, 3, 299, 0, 1));
        Check.argument("wrong sign when full", () -> x.sign(16, 0, 0, 0, 0));
        Check.argument("wrong n when full", () -> x.sign(0, 4, 0, 0, 0));
        Check.argument("wrong term when full", () -> x.sign(0, 3, 0, 0, 300));
        Check.due("terms", x.look(0), 300);
        Check.due("trees", x.look(3), 16);
    }

    private static void join() {
        TermForge x = new TermForge();
        int u = x.variable();
        int v = x.variable();
        int a = Build.constant(x, 0);
        int b = Build.constant(x, 1);
        int fuv = Build.two(x, 2, u, v);
        int fab = Build.two(x, 2, a, b);
        int faa = Build.two(x, 2, a, a);
        int fa = Build.one(x, 2, a);
        Check.due("other signs", x.join(a, b), false);
        Check.due("the same sign with another number below", x.join(fab, fa), false);
        Check.due("signs below that are others", x.join(fab, faa), false);
        Check.due("equations", x.look(1), 0);
        Check.due("with variables below", x.join(fuv, fab), true);
        Check.due("the first below", x.same(u, a), true);
        Check.due("the second below", x.same(v, b), true);
        Check.due("not the first with the second", x.same(u, v), false);
        Check.due("what does not hold with the others", x.join(u, v), false);
        Check.due("what does not hold with the others", x.join(fuv, faa), false);
        Check.due("equations", x.look(1), 1);
        Check.due("an equation again comes too", x.join(fuv, fab), true);
        Check.due("a term with itself comes too", x.join(a, a), true);
        Check.due("equations", x.look(1), 3);
    }

    private static void joinEndless() {
        TermForge x = new TermForge();
        int v = x.variable();
        int w = x.variable();
        int fv = Build.one(x, 0, v);
        int ffw = Build.one(x, 0, Build.one(x, 0, w));
        int gw = Build.one(x, 1, w);
        Check.due("a variable with a sign above it", x.join(v, fv), true);
        Check.due("another way round", x.join(w, ffw), true);
        Check.due("the same without end", x.same(v, w), true);
        Check.due("two without end", x.join(v, w), true);
        Check.due("another sign without end", x.join(gw, v), false);
        Check.due("another sign without end is not below", x.could(w, gw), false);
        Check.due("equations", x.look(1), 3);

        TermForge y = new TermForge();
        int p = y.variable();
        int q = y.variable();
        int a = Build.constant(y, 3);
        int b = Build.constant(y, 4);
        Check.due("p = f(p, a)", y.join(p, Build.two(y, 0, p, a)), true);
        Check.due("q = f(q, b)", y.join(q, Build.two(y, 0, q, b)), true);
        Check.due("they differ far to the right", y.join(p, q), false);
        Check.due("a failed join leaves no trace", y.same(p, q), false);
        Check.due("a failed join leaves no trace", y.look(3), 4);
    }

    private static void could() {
        TermForge x = new TermForge();
        int u = x.variable();
        int a = Build.constant(x, 0);
        int b = Build.constant(x, 1);
        int fu = Build.one(x, 2, u);
        int fa = Build.one(x, 2, a);
        Check.due("could", x.could(fu, fa), true);
        Check.due("could changes nothing", x.same(u, a), false);
        Check.due("could changes nothing", x.look(1), 0);
        Check.due("could changes nothing", x.look(3), 5);
        Check.due("could itself", x.could(u, u), true);
        Check.due("could come to itself", x.could(u, fu), true);
        Check.due("and does not", x.isFinite(u), true);
        Check.due("could not", x.could(a, b), false);
        Check.due("join", x.join(u, b), true);
        Check.due("could not with the others", x.could(fu, fa), false);
        Check.due("could not a sign with more below", x.could(fa, Build.two(x, 2, a, a)), false);
    }

    private static void mark() {
        TermForge x = new TermForge();
        for (int k = 1; k <= 20; k++) {
            Check.due("mark", x.mark(), k);
        }
        Check.state("mark 21", x::mark);
        Check.due("levels", x.look(2), 20);
        Check.due("undo", x.undo(), 0);
        Check.due("mark after undo", x.mark(), 20);
        Check.state("mark 21", x::mark);
        for (int k = 19; k >= 0; k--) {
            x.undo();
            Check.due("levels", x.look(2), k);
        }
        Check.state("undo without level", x::undo);
        Check.due("levels", x.look(2), 0);
    }

    private static void undo() {
        TermForge x = new TermForge();
        int u = x.variable();
        int v = x.variable();
        x.join(u, u);
        x.mark();
        x.mark();
        int a = Build.constant(x, 0);
        Check.due("join", x.join(u, a), true);
        Check.due("join", x.join(v, a), true);
        Check.due("join again", x.join(v, u), true);
        Check.due("join that fails", x.join(v, Build.constant(x, 1)), false);
        Check.due("equations that went", x.undo(), 3);
        Check.due("terms", x.look(0), 2);
        Check.due("equations", x.look(1), 1);
        Check.due("levels", x.look(2), 1);
        Check.due("not the same any more", x.same(u, v), false);
        Check.argument("a term that went", () -> x.size(a));
        Check.due("the number comes again", x.variable(), 2);
        Check.due("and is a variable now", x.variables(2), 1);
        Check.due("join", x.join(u, v), true);
        Check.due("equations that went", x.undo(), 1);
        Check.due("terms", x.look(0), 2);
        Check.state("undo without level", x::undo);
        Check.due("equations before a level stay", x.look(1), 1);
    }

    private static void undoRestores() {
        TermForge x = new TermForge();
        int u = x.variable();
        int fu = Build.one(x, 0, u);
        int v = x.variable();
        Check.due("join", x.join(v, fu), true);
        x.mark();
        Check.due("join", x.join(u, v), true);
        Check.due("endless", x.isFinite(v), false);
        x.mark();
        int w = x.variable();
        Check.due("an old variable in a new class", x.join(w, u), true);
        Check.due("size", x.size(w), -1);
        Check.due("undo", x.undo(), 1);
        Check.due("an older level's equation stays", x.isFinite(u), false);
        Check.due("undo", x.undo(), 1);
        Build.dueText(x, v, "S0(V0)");
        Check.due("undone levels keep OUT", x.mark(), 1);
        Build.dueText(x, u, "V0");
        x.undo();
        Check.due("OUT", Build.written(x), "V0");
    }

    private static void same() {
        TermForge x = new TermForge();
        int u = x.variable();
        int v = x.variable();
        int fu = Build.one(x, 0, u);
        int fu2 = Build.one(x, 0, u);
        int fv = Build.one(x, 0, v);
        Check.due("itself", x.same(u, u), true);
        Check.due("two variables", x.same(u, v), false);
        Check.due("made twice", x.same(fu, fu2), true);
        Check.due("other variables below", x.same(fu, fv), false);
        Check.due("another number below", x.same(Build.constant(x, 0), Build.one(x, 0, u)), false);
        Check.due("another order below", x.same(Build.two(x, 1, u, v), Build.two(x, 1, v, u)), false);
        x.join(u, v);
        Check.due("now the same below", x.same(fu, fv), true);
        int e = Build.endless(x, 5);
        int e2 = Build.endless(x, 5);
        int e3 = Build.endless(x, 6);
        Check.due("without end", x.same(e, e2), true);
        Check.due("without end, one more above", x.same(e, Build.one(x, 5, Build.one(x, 5, e2))), true);
        Check.due("without end, another sign", x.same(e, e3), false);
        Check.due("without end, a period of two", x.same(Build.two(x, 7, e, e3), Build.two(x, 7, e3, e)), false);
        Check.due("same is no equation", x.look(1), 4);
    }

    private static void isFinite() {
        TermForge x = new TermForge();
        int u = x.variable();
        int v = x.variable();
        int fuv = Build.two(x, 0, u, v);
        int gf = Build.one(x, 1, fuv);
        int a = Build.constant(x, 2);
        Check.due("variable", x.isFinite(u), true);
        Check.due("sign", x.isFinite(a), true);
        Check.due("signs", x.isFinite(gf), true);
        x.join(u, a);
        Check.due("with a sign in it", x.isFinite(gf), true);
        x.join(v, gf);
        Check.due("comes to itself", x.isFinite(v), false);
        Check.due("comes to itself", x.isFinite(gf), false);
        Check.due("comes to itself", x.isFinite(fuv), false);
        Check.due("not this one", x.isFinite(u), true);
        Check.due("above one without end", x.isFinite(Build.two(x, 3, a, fuv)), false);
    }

    private static void size() {
        TermForge x = new TermForge();
        int u = x.variable();
        Check.due("variable", x.size(u), 1);
        int a = Build.constant(x, 0);
        Check.due("sign", x.size(a), 1);
        int f = Build.three(x, 1, u, a, u);
        Check.due("each place counts", x.size(f), 4);
        Check.due("each place counts", x.size(Build.two(x, 1, f, f)), 9);
        x.join(u, Build.one(x, 2, a));
        Check.due("variables that became larger", x.size(f), 6);
        int e = Build.endless(x, 4);
        Check.due("without end", x.size(e), -1);
        Check.due("above one without end", x.size(Build.two(x, 0, a, e)), -1);
        Check.due("trees beside one without end", x.size(f), 6);

        TermForge y = new TermForge();
        int t = y.variable();
        long size = 1;
        for (int k = 0; k < 60; k++) {
            t = Build.two(y, 0, t, t);
            size = Math.min(2 * size + 1, LARGE);
            Check.due("doubled " + k, y.size(t), size);
        }
        for (int k = 0; k < 60; k++) {
            t = Build.three(y, 1, t, t, t);
            Check.due("large", y.size(t), LARGE);
        }
        dueNearLarge(-1);
        dueNearLarge(0);
        dueNearLarge(1);
    }

    private static void dueNearLarge(int off) {
        TermForge x = new TermForge();
        Check.due("LARGE and " + off, x.size(Build.ofSize(x, LARGE + off)), LARGE + Math.min(off, 0));
    }

    private static void depth() {
        TermForge x = new TermForge();
        int u = x.variable();
        int a = Build.constant(x, 0);
        Check.due("variable", x.depth(u), 0);
        Check.due("sign", x.depth(a), 1);
        Check.due("sign above a variable", x.depth(Build.one(x, 1, u)), 1);
        Check.due("the deepest counts", x.depth(Build.three(x, 1, u, Build.one(x, 1, a), a)), 3);
        Check.due("the deepest counts first", x.depth(Build.two(x, 1, Build.one(x, 1, a), u)), 3);
        x.join(u, Build.one(x, 2, a));
        Check.due("a variable that is a sign now", x.depth(u), 2);
        int e = Build.endless(x, 4);
        Check.due("without end", x.depth(e), -1);
        Check.due("above one without end", x.depth(Build.two(x, 0, a, e)), -1);

        TermForge y = new TermForge();
        int t = Build.constant(y, 0);
        for (int k = 1; k < 300; k++) {
            t = Build.one(y, 0, t);
        }
        Check.due("300 deep", y.depth(t), 300);
    }

    private static void variables() {
        TermForge x = new TermForge();
        int u = x.variable();
        int v = x.variable();
        int w = x.variable();
        int a = Build.constant(x, 0);
        Check.due("variable", x.variables(u), 1);
        Check.due("sign", x.variables(a), 0);
        int f = Build.three(x, 1, u, v, w);
        Check.due("three", x.variables(f), 3);
        Check.due("one twice", x.variables(Build.two(x, 1, u, u)), 1);
        x.join(u, v);
        Check.due("one leaf", x.variables(f), 2);
        x.join(u, a);
        Check.due("no variable any more", x.variables(f), 1);
        x.join(w, Build.two(x, 2, w, f));
        Check.due("without end", x.variables(f), 0);
        int p = x.variable();
        int q = x.variable();
        x.join(p, Build.two(x, 2, q, p));
        Check.due("without end, with a leaf", x.variables(p), 1);
    }

    private static void parts() {
        TermForge x = new TermForge();
        int u = x.variable();
        int v = x.variable();
        Check.due("variable", x.parts(u), 1);
        int fu = Build.one(x, 0, u);
        int fu2 = Build.one(x, 0, u);
        int fv = Build.one(x, 0, v);
        Check.due("two", x.parts(fu), 2);
        Check.due("made twice", x.parts(Build.two(x, 1, fu, fu2)), 3);
        int g = Build.three(x, 1, fu, fv, fu2);
        Check.due("different leaves", x.parts(g), 5);
        x.join(u, v);
        Check.due("one leaf", x.parts(g), 3);
        int e = Build.endless(x, 5);
        int e2 = Build.endless(x, 5);
        Check.due("without end", x.parts(e), 1);
        Check.due("without end, one more above", x.parts(Build.one(x, 5, e2)), 1);
        Check.due("above two the same without end", x.parts(Build.two(x, 6, e, e2)), 2);
        int p = x.variable();
        x.join(p, Build.one(x, 7, Build.one(x, 8, p)));
        Check.due("a period of two", x.parts(p), 2);
    }

    private static void instance() {
        TermForge x = new TermForge();
        int u = x.variable();
        int v = x.variable();
        int a = Build.constant(x, 0);
        int b = Build.constant(x, 1);
        int fuv = Build.two(x, 2, u, v);
        int fuu = Build.two(x, 2, u, u);
        int faa = Build.two(x, 2, a, a);
        int fab = Build.two(x, 2, a, b);
        int fvu = Build.two(x, 2, v, u);
        Check.due("of a variable", x.instance(u, fab), true);
        Check.due("a variable of a sign", x.instance(a, u), false);
        Check.due("of itself", x.instance(fab, fab), true);
        Check.due("f(u,v) f(a,b)", x.instance(fuv, fab), true);
        Check.due("f(u,v) f(u,u)", x.instance(fuv, fuu), true);
        Check.due("f(u,u) f(u,v)", x.instance(fuu, fuv), false);
        Check.due("f(u,u) f(a,a)", x.instance(fuu, faa), true);
        Check.due("f(u,u) f(a,b)", x.instance(fuu, fab), false);
        Check.due("f(a,b) f(u,v)", x.instance(fab, fuv), false);
        Check.due("names do not matter", x.instance(fuv, fvu), true);
        Check.due("a leaf in what is put for it", x.instance(Build.two(x, 2, u, v), Build.two(x, 2, fuv, u)), true);
        Check.due("the same tree made twice", x.instance(fuu, Build.two(x, 2, Build.one(x, 3, v), Build.one(x, 3, v))), true);
        Check.due("another number below", x.instance(Build.one(x, 2, u), fuv), false);
        Check.due("another sign", x.instance(Build.two(x, 3, u, v), fuv), false);
        Check.due("sides count", x.instance(fab, Build.two(x, 2, b, a)), false);
        x.join(u, v);
        Check.due("now one leaf", x.instance(fuv, fab), false);
        Check.due("now one leaf", x.instance(fuu, fuv), true);
    }

    private static void instanceEndless() {
        TermForge x = new TermForge();
        int u = x.variable();
        int e = x.variable();
        x.join(e, Build.two(x, 0, u, e));
        int a = Build.constant(x, 1);
        int b = Build.constant(x, 2);
        int p = x.variable();
        x.join(p, Build.two(x, 0, a, p));
        int q = x.variable();
        x.join(q, Build.two(x, 0, a, Build.two(x, 0, b, q)));
        Check.due("all the same leaf", x.instance(e, p), true);
        Check.due("not two for one leaf", x.instance(e, q), false);
        Check.due("not back", x.instance(p, e), false);
        Check.due("a finite one above", x.instance(Build.two(x, 0, u, x.variable()), q), true);
        Check.due("a finite one is none", x.instance(e, Build.two(x, 0, u, u)), false);
        int r = x.variable();
        int v = x.variable();
        x.join(r, Build.two(x, 0, u, Build.two(x, 0, v, r)));
        Check.due("two leaves, two signs", x.instance(r, q), true);
        Check.due("two leaves, one sign", x.instance(r, p), true);
        Check.due("two leaves, one leaf", x.instance(r, e), true);
        Check.due("one leaf, two leaves", x.instance(e, r), false);
    }

    private static void variant() {
        TermForge x = new TermForge();
        int u = x.variable();
        int v = x.variable();
        int w = x.variable();
        int a = Build.constant(x, 0);
        int fuv = Build.two(x, 1, u, v);
        int fvw = Build.two(x, 1, v, w);
        int fuu = Build.two(x, 1, u, u);
        Check.due("variables", x.variant(u, v), true);
        Check.due("a variable and a sign", x.variant(u, a), false);
        Check.due("a sign and a variable", x.variant(a, u), false);
        Check.due("names", x.variant(fuv, fvw), true);
        Check.due("crossed", x.variant(fuv, Build.two(x, 1, v, u)), true);
        Check.due("fewer leaves", x.variant(fuv, fuu), false);
        Check.due("more leaves", x.variant(fuu, fuv), false);
        Check.due("the same sign", x.variant(a, Build.constant(x, 0)), true);
        Check.due("another sign", x.variant(a, Build.constant(x, 2)), false);
        int p = x.variable();
        int q = x.variable();
        x.join(p, Build.two(x, 1, u, p));
        x.join(q, Build.two(x, 1, v, Build.two(x, 1, v, q)));
        Check.due("without end", x.variant(p, q), true);
        int r = x.variable();
        x.join(r, Build.two(x, 1, u, Build.two(x, 1, v, r)));
        Check.due("without end, more leaves", x.variant(p, r), false);
        x.join(v, w);
        Check.due("fewer leaves now", x.variant(fuv, fvw), false);
    }

    private static void dueCommon(TermForge x, int a, int b, int trees, int leaves) {
        Check.due("common(" + a + ", " + b + ", 0)", x.common(a, b, 0), trees);
        Check.due("common(" + a + ", " + b + ", 1)", x.common(a, b, 1), leaves);
    }

    private static void common() {
        TermForge x = new TermForge();
        int u = x.variable();
        int v = x.variable();
        int a = Build.constant(x, 0);
        int b = Build.constant(x, 1);
        dueCommon(x, u, u, 1, 1);
        dueCommon(x, u, v, 1, 1);
        dueCommon(x, u, a, 1, 1);
        dueCommon(x, a, b, 1, 1);
        dueCommon(x, a, a, 1, 0);
        dueCommon(x, a, Build.constant(x, 0), 1, 0);
        int fab = Build.two(x, 2, a, b);
        int fba = Build.two(x, 2, b, a);
        int faa = Build.two(x, 2, a, a);
        int fbb = Build.two(x, 2, b, b);
        dueCommon(x, fab, fab, 3, 0);
        dueCommon(x, fab, fba, 3, 2);
        dueCommon(x, faa, fbb, 2, 1);
        dueCommon(x, fab, fbb, 3, 1);
        dueCommon(x, fab, Build.one(x, 2, a), 1, 1);
        dueCommon(x, Build.three(x, 3, fab, a, u), Build.three(x, 3, fbb, b, u), 5, 2);
        int fuv = Build.two(x, 2, u, v);
        int fvu = Build.two(x, 2, v, u);
        dueCommon(x, fuv, fvu, 3, 2);
        dueCommon(x, Build.two(x, 2, u, u), fuv, 3, 2);
        x.join(u, v);
        dueCommon(x, fuv, fvu, 2, 1);
        Check.argument("common 2", () -> x.common(a, b, 2));
        Check.argument("common -1", () -> x.common(a, b, -1));
        Check.argument("common most", () -> x.common(a, b, Integer.MAX_VALUE));
    }

    private static void commonEndless() {
        TermForge x = new TermForge();
        int a = Build.constant(x, 1);
        int b = Build.constant(x, 2);
        int p = x.variable();
        x.join(p, Build.two(x, 0, a, p));
        int q = x.variable();
        x.join(q, Build.two(x, 0, a, Build.two(x, 0, b, q)));
        int r = x.variable();
        x.join(r, Build.two(x, 0, a, Build.two(x, 0, a, Build.two(x, 0, b, r))));
        dueCommon(x, p, p, 2, 0);
        // f(a, f(z, itself)): two nodes, a, and the leaf of a and b.
        dueCommon(x, p, q, 4, 1);
        // A period of six, a-a, b-a, a-b, b-a, a-a, b-b: six nodes, the leaves a-b and b-a, and a and b where they meet.
        dueCommon(x, q, r, 10, 2);
        dueCommon(x, p, a, 1, 1);
    }

    private static void text() {
        TermForge x = new TermForge();
        int u = x.variable();
        int v = x.variable();
        int w = x.variable();
        int a = Build.constant(x, 10);
        Build.dueText(x, v, "V1");
        Build.dueText(x, a, "S10");
        int f = Build.three(x, 15, w, Build.one(x, 0, a), v);
        Build.dueText(x, f, "S15(V2,S0(S10),V1)");
        x.join(w, v);
        Build.dueText(x, f, "S15(V1,S0(S10),V1)");
        x.mark();
        x.join(v, u);
        Build.dueText(x, f, "S15(V0,S0(S10),V0)");
        x.join(u, a);
        Build.dueText(x, f, "S15(S10,S0(S10),S10)");
        x.undo();
        Build.dueText(x, f, "S15(V1,S0(S10),V1)");
        int e = Build.endless(x, 3);
        Check.due("without end", x.text(e), -1);
        Check.due("above one without end", x.text(Build.two(x, 0, a, e)), -1);
        Check.due("OUT stays", Build.written(x), "S15(V1,S0(S10),V1)");

        TermForge z = new TermForge();
        int early = z.variable();
        z.join(early, Build.constant(z, 1));
        int late = z.variable();
        Build.dueText(z, Build.two(z, 2, late, early), "S2(V2,S1)");

        TermForge y = new TermForge();
        for (int k = 0; k < 300; k++) {
            y.variable();
        }
        Build.dueText(y, 9, "V9");
        Build.dueText(y, 10, "V10");
        Build.dueText(y, 99, "V99");
        Build.dueText(y, 100, "V100");
        Build.dueText(y, 205, "V205");
        Build.dueText(y, 299, "V299");
        y.join(299, 205);
        Build.dueText(y, 299, "V205");
    }

    private static void textLength() {
        TermForge x = new TermForge();
        int t = Build.constant(x, 0);
        for (int k = 0; k < 49; k++) {
            t = Build.one(x, 1, t);
        }
        // 4 bytes a level and 2 for the constant.
        Check.due("198 bytes", x.text(t), 198);
        int longer = Build.one(x, 1, t);
        Check.due("202 bytes", x.text(longer), -1);
        Check.due("OUT stays", x.look(4), 198);

        TermForge y = new TermForge();
        for (int k = 0; k < 16; k++) {
            Build.constant(y, k);
        }
        // 47 levels are 188 bytes.
        dueTower(y, 47, Build.two(y, 2, 1, 10), "S2(S1,S10)", 198);
        dueTower(y, 47, Build.two(y, 2, 11, 10), "S2(S11,S10)", 199);
        dueTower(y, 47, Build.three(y, 2, 1, 1, 1), "S2(S1,S1,S1)", 200);
        String whole = Build.written(y);
        Check.due("the last of 200 bytes", y.out(199), ')');
        Check.noElement("no byte 200", () -> y.out(200));
        dueTower(y, 47, Build.three(y, 2, 1, 1, 10), "S2(S1,S1,S10)", -1);
        dueTower(y, 48, Build.three(y, 2, 1, 1, 1), "S2(S1,S1,S1)", -1);
        Check.due("OUT stays", Build.written(y), whole);
    }

    /** The text of a term below so many levels of S0( .. ). */
    private static void dueTower(TermForge x, int levels, int below, String inside, int want) {
        x.mark();
        int t = below;
        StringBuilder whole = new StringBuilder(inside);
        for (int k = 0; k < levels; k++) {
            t = Build.one(x, 0, t);
            whole.insert(0, "S0(").append(')');
        }
        Check.due("text of " + whole, x.text(t), want);
        if (want >= 0) {
            Check.due("OUT", Build.written(x), whole.toString());
        }
        x.undo();
    }

    private static void out() {
        TermForge x = new TermForge();
        int a = Build.constant(x, 0);
        Check.noElement("out of nothing", () -> x.out(0));
        x.text(Build.one(x, 12, Build.two(x, 3, a, a)));
        String want = "S12(S3(S0,S0))";
        Check.due("OUT", Build.written(x), want);
        for (int k = 0; k < want.length(); k++) {
            long eight = 0;
            for (int at = 0; at < 8 && k + at < want.length(); at++) {
                eight |= (long) want.charAt(k + at) << (8 * at);
            }
            Check.due("out(" + k + ")", x.out(k), eight);
        }
        Check.noElement("out behind the end", () -> x.out(14));
        Check.noElement("out below 0", () -> x.out(-1));
        Check.noElement("out least", () -> x.out(Integer.MIN_VALUE));
        Check.noElement("out most", () -> x.out(Integer.MAX_VALUE));
        x.text(a);
        Check.due("a shorter text leaves nothing of the longer one", x.out(0), 'S' | '0' << 8);
        Check.noElement("out behind the end", () -> x.out(2));
    }

    private static void look() {
        TermForge x = new TermForge();
        int u = x.variable();
        int v = x.variable();
        int fu = Build.one(x, 0, u);
        int fv = Build.one(x, 0, v);
        x.mark();
        Check.due("terms", x.look(0), 4);
        Check.due("equations", x.look(1), 0);
        Check.due("levels", x.look(2), 1);
        Check.due("trees", x.look(3), 4);
        Check.due("bytes", x.look(4), 0);
        x.text(fu);
        x.join(u, v);
        Check.due("terms", x.look(0), 4);
        Check.due("equations", x.look(1), 1);
        Check.due("trees", x.look(3), 2);
        Check.due("bytes", x.look(4), 6);
        x.join(u, fv);
        Check.due("trees", x.look(3), 1);
        x.undo();
        Check.due("trees", x.look(3), 4);
        Check.due("levels", x.look(2), 0);
        Check.due("bytes", x.look(4), 6);
        Check.argument("look 5", () -> x.look(5));
        Check.argument("look -1", () -> x.look(-1));
        Check.argument("look most", () -> x.look(Integer.MAX_VALUE));
    }

    private static void noSuchTerm() {
        TermForge x = new TermForge();
        x.variable();
        Build.constant(x, 0);
        int[] none = {-1, 2, 300, 299, Integer.MIN_VALUE, Integer.MAX_VALUE};
        for (int no : none) {
            Check.argument("join a", () -> x.join(no, 0) ? 1 : 0);
            Check.argument("join b", () -> x.join(0, no) ? 1 : 0);
            Check.argument("could a", () -> x.could(no, 0) ? 1 : 0);
            Check.argument("could b", () -> x.could(0, no) ? 1 : 0);
            Check.argument("same a", () -> x.same(no, 0) ? 1 : 0);
            Check.argument("same b", () -> x.same(0, no) ? 1 : 0);
            Check.argument("same both", () -> x.same(no, no) ? 1 : 0);
            Check.argument("isFinite", () -> x.isFinite(no) ? 1 : 0);
            Check.argument("size", () -> x.size(no));
            Check.argument("depth", () -> x.depth(no));
            Check.argument("variables", () -> x.variables(no));
            Check.argument("parts", () -> x.parts(no));
            Check.argument("instance a", () -> x.instance(no, 0) ? 1 : 0);
            Check.argument("instance b", () -> x.instance(0, no) ? 1 : 0);
            Check.argument("variant a", () -> x.variant(no, 1) ? 1 : 0);
            Check.argument("variant b", () -> x.variant(1, no) ? 1 : 0);
            Check.argument("common a", () -> x.common(no, 0, 0));
            Check.argument("common b", () -> x.common(0, no, 1));
            Check.argument("text", () -> x.text(no));
        }
        Check.due("terms", x.look(0), 2);
        Check.due("equations", x.look(1), 0);
    }

    private static void throwingChangesNothing() {
        TermForge x = new TermForge();
        int u = x.variable();
        int a = Build.constant(x, 7);
        x.mark();
        x.join(u, a);
        x.text(u);
        Check.argument("sign", () -> x.sign(0, 2, u, 9, a));
        Check.argument("join", () -> x.join(u, 9) ? 1 : 0);
        Check.argument("text", () -> x.text(9));
        Check.argument("common", () -> x.common(u, a, 3));
        Check.noElement("out", () -> x.out(2));
        Check.due("terms", x.look(0), 2);
        Check.due("equations", x.look(1), 1);
        Check.due("levels", x.look(2), 1);
        Check.due("trees", x.look(3), 1);
        Check.due("OUT", Build.written(x), "S7");
        Check.due("undo", x.undo(), 1);
        Check.state("undo", x::undo);
        Check.due("terms", x.look(0), 2);
        Check.due("trees", x.look(3), 2);
    }
}

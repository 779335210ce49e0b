/** That a call refuses every number that names no term, in every kind of state, and changes nothing then. */
final class Refusal {
    /** A call that names a term; the other terms that it names are 0. */
    interface Naming {
        long answer(TermForge x, int term);
    }

    private Refusal() {
    }

    static void ofTerms(String name, Naming call) {
        ofNewObject(name, call);
        ofSomeTerms(name, call);
        ofTermThatWent(name, call);
        ofFullObject(name, call);
    }

    private static void ofNewObject(String name, Naming call) {
        TermForge x = new TermForge();
        refuses(name + " of a new object", call, x, 0);
        refuses(name + " of a new object", call, x, -1);
        Check.due(name + " changed a new object", Build.counts(x), "0,0,0,0,0,");
    }

    private static void ofSomeTerms(String name, Naming call) {
        TermForge x = some();
        String before = Build.state(x);
        int[] none = {-1, 4, 5, 299, 300, 301, Integer.MIN_VALUE, Integer.MAX_VALUE};
        for (int term : none) {
            refuses(name, call, x, term);
        }
        Check.due("state after " + name, Build.state(x), before);
        call.answer(x, 0);
        call.answer(x, 3);
    }

    private static void ofTermThatWent(String name, Naming call) {
        TermForge x = some();
        x.mark();
        int went = x.variable();
        call.answer(x, went);
        x.undo();
        refuses(name + " of a term that went", call, x, went);
    }

    private static void ofFullObject(String name, Naming call) {
        TermForge x = Build.variables(300);
        refuses(name + " of a full object", call, x, 300);
        refuses(name + " of a full object", call, x, -1);
        call.answer(x, 299);
    }

    /** Four terms, an equation, a level, a text: something of everything to be spoilt. */
    private static TermForge some() {
        TermForge x = new TermForge();
        int u = x.variable();
        int a = Build.constant(x, 3);
        int v = x.variable();
        Build.two(x, 4, u, v);
        x.mark();
        x.join(v, a);
        x.text(v);
        return x;
    }

    private static void refuses(String name, Naming call, TermForge x, int term) {
        Check.argument(name + " with " + term, () -> call.answer(x, term));
    }
}

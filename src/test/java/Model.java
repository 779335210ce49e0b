import java.math.BigInteger;
import java.util.ArrayList;
import java.util.HashMap;
import java.util.LinkedHashMap;
import java.util.List;
import java.util.Map;

/**
 * The document's promises by plain definitions, without thought of speed: equality of all pairs of terms
 * closed step by step, trees told apart pair by pair, what is common built and then counted. It keeps
 * the equations themselves and works all of it out anew whenever they change.
 */
final class Model {
    /** What a call throws, by the number of its place in the document's lists. */
    static final class Thrown extends RuntimeException {
        private static final long serialVersionUID = 1L;

        Thrown(String name) {
            super(name);
        }
    }

    private record Term(int sign, int[] below) {
        boolean isVariable() {
            return sign < 0;
        }

        boolean hasHeadOf(Term other) {
            return sign == other.sign && below.length == other.below.length;
        }
    }

    private record Pair(int one, int other) {
    }

    private final List<Term> terms = new ArrayList<>();
    private final List<Pair> equations = new ArrayList<>();
    private final List<Pair> levels = new ArrayList<>();
    private String text = "";
    private boolean[][] equal;
    private boolean[][] same;

    int variable() {
        if (terms.size() == 300) {
            throw new Thrown("IllegalStateException");
        }
        terms.add(new Term(-1, new int[0]));
        changed();
        return terms.size() - 1;
    }

    int sign(int sign, int n, int a, int b, int c) {
        if (sign < 0 || sign > 15 || n < 0 || n > 3) {
            throw new Thrown("IllegalArgumentException");
        }
        int[] all = {a, b, c};
        int[] below = new int[n];
        for (int k = 0; k < n; k++) {
            need(all[k]);
            below[k] = all[k];
        }
        if (terms.size() == 300) {
            throw new Thrown("IllegalStateException");
        }
        terms.add(new Term(sign, below));
        changed();
        return terms.size() - 1;
    }

    boolean join(int a, int b) {
        if (!could(a, b)) {
            return false;
        }
        equations.add(new Pair(a, b));
        changed();
        return true;
    }

    boolean could(int a, int b) {
        need(a);
        need(b);
        List<Pair> all = new ArrayList<>(equations);
        all.add(new Pair(a, b));
        return holdTogether(closure(all));
    }

    int mark() {
        if (levels.size() == 20) {
            throw new Thrown("IllegalStateException");
        }
        levels.add(new Pair(terms.size(), equations.size()));
        return levels.size();
    }

    int undo() {
        if (levels.isEmpty()) {
            throw new Thrown("IllegalStateException");
        }
        Pair level = levels.remove(levels.size() - 1);
        int went = equations.size() - level.other();
        equations.subList(level.other(), equations.size()).clear();
        terms.subList(level.one(), terms.size()).clear();
        changed();
        return went;
    }

    boolean same(int a, int b) {
        need(a);
        need(b);
        return sameTrees()[a][b];
    }

    boolean isFinite(int a) {
        need(a);
        return !goesDeeper(a, terms.size() + 1, new boolean[terms.size() + 2][terms.size()]);
    }

    long size(int a) {
        if (!isFinite(a)) {
            return -1;
        }
        return bigSize(a, new HashMap<>()).min(BigInteger.TEN.pow(12)).longValueExact();
    }

    int depth(int a) {
        if (!isFinite(a)) {
            return -1;
        }
        int depth = 0;
        while (goesDeeper(a, depth + 1, new boolean[depth + 2][terms.size()])) {
            depth++;
        }
        return depth;
    }

    int variables(int a) {
        need(a);
        int count = 0;
        for (int tree : trees(a)) {
            if (shape(tree) < 0) {
                count++;
            }
        }
        return count;
    }

    int parts(int a) {
        need(a);
        return trees(a).size();
    }

    /** Every pair of places is walked; only leaves are asked whether they always meet the same tree. */
    boolean instance(int a, int b) {
        need(a);
        need(b);
        Map<Integer, Integer> put = new HashMap<>();
        for (Pair pair : pairs(a, b)) {
            int shape = shape(pair.one());
            if (shape < 0) {
                Integer old = put.putIfAbsent(leafName(pair.one()), pair.other());
                if (old != null && !sameTrees()[old][pair.other()]) {
                    return false;
                }
            } else if (!sameHeads(pair)) {
                return false;
            }
        }
        return true;
    }

    /** By names: each leaf stands for one leaf, and no two for the same. */
    boolean variant(int a, int b) {
        need(a);
        need(b);
        Map<Integer, Integer> there = new HashMap<>();
        Map<Integer, Integer> back = new HashMap<>();
        for (Pair pair : pairs(a, b)) {
            boolean oneLeaf = shape(pair.one()) < 0;
            boolean otherLeaf = shape(pair.other()) < 0;
            if (oneLeaf != otherLeaf || !oneLeaf && !sameHeads(pair)) {
                return false;
            }
            if (oneLeaf) {
                int one = leafName(pair.one());
                int other = leafName(pair.other());
                Integer oldOther = there.putIfAbsent(one, other);
                Integer oldOne = back.putIfAbsent(other, one);
                if (oldOther != null && oldOther != other || oldOne != null && oldOne != one) {
                    return false;
                }
            }
        }
        return true;
    }

    /** Builds the common tree as a graph and counts what of it is different by telling nodes apart. */
    int common(int a, int b, int what) {
        need(a);
        need(b);
        if (what != 0 && what != 1) {
            throw new Thrown("IllegalArgumentException");
        }
        List<Pair> nodes = pairs(a, b);
        Map<Pair, Integer> number = new HashMap<>();
        for (Pair node : nodes) {
            number.put(node, number.size());
        }
        boolean[][] alike = new boolean[nodes.size()][nodes.size()];
        for (int i = 0; i < nodes.size(); i++) {
            for (int j = 0; j < nodes.size(); j++) {
                alike[i][j] = mayBeAlike(nodes.get(i), nodes.get(j));
            }
        }
        while (tellApart(nodes, number, alike)) {
            continue;
        }
        int count = 0;
        for (int i = 0; i < nodes.size(); i++) {
            boolean first = true;
            for (int j = 0; j < i; j++) {
                first &= !alike[i][j];
            }
            if (first && (what == 0 || !sameHeads(nodes.get(i)))) {
                count++;
            }
        }
        return count;
    }

    int text(int a) {
        if (!isFinite(a)) {
            return -1;
        }
        StringBuilder whole = new StringBuilder();
        write(a, whole);
        if (whole.length() > 200) {
            return -1;
        }
        text = whole.toString();
        return text.length();
    }

    long out(int k) {
        if (k < 0 || k >= text.length()) {
            throw new Thrown("NoSuchElementException");
        }
        long eight = 0;
        for (int at = 0; at < 8; at++) {
            long octet = k + at < text.length() ? text.charAt(k + at) : 0;
            eight += octet << (8 * at);
        }
        return eight;
    }

    int look(int what) {
        return switch (what) {
            case 0 -> terms.size();
            case 1 -> equations.size();
            case 2 -> levels.size();
            case 3 -> differentTerms();
            case 4 -> text.length();
            default -> throw new Thrown("IllegalArgumentException");
        };
    }

    private void need(int term) {
        if (term < 0 || term >= terms.size()) {
            throw new Thrown("IllegalArgumentException");
        }
    }

    private void changed() {
        equal = null;
        same = null;
    }

    /** Which terms the equations make the same: reflexive, symmetric, transitive, and down into signs. */
    private boolean[][] closure(List<Pair> all) {
        int n = terms.size();
        boolean[][] eq = new boolean[n][n];
        for (int i = 0; i < n; i++) {
            eq[i][i] = true;
        }
        for (Pair pair : all) {
            eq[pair.one()][pair.other()] = true;
            eq[pair.other()][pair.one()] = true;
        }
        boolean more = true;
        while (more) {
            more = closeOver(eq);
            more |= closeDown(eq);
        }
        return eq;
    }

    private boolean closeOver(boolean[][] eq) {
        boolean more = false;
        for (int k = 0; k < eq.length; k++) {
            for (int i = 0; i < eq.length; i++) {
                for (int j = 0; eq[i][k] && j < eq.length; j++) {
                    if (eq[k][j] && !eq[i][j]) {
                        eq[i][j] = true;
                        more = true;
                    }
                }
            }
        }
        return more;
    }

    private boolean closeDown(boolean[][] eq) {
        boolean more = false;
        for (int i = 0; i < eq.length; i++) {
            for (int j = 0; j < eq.length; j++) {
                Term one = terms.get(i);
                Term other = terms.get(j);
                if (!eq[i][j] || one.isVariable() || !one.hasHeadOf(other)) {
                    continue;
                }
                for (int k = 0; k < one.below().length; k++) {
                    if (!eq[one.below()[k]][other.below()[k]]) {
                        eq[one.below()[k]][other.below()[k]] = true;
                        more = true;
                    }
                }
            }
        }
        return more;
    }

    private boolean holdTogether(boolean[][] eq) {
        for (int i = 0; i < eq.length; i++) {
            for (int j = 0; j < eq.length; j++) {
                boolean signs = !terms.get(i).isVariable() && !terms.get(j).isVariable();
                if (eq[i][j] && signs && !terms.get(i).hasHeadOf(terms.get(j))) {
                    return false;
                }
            }
        }
        return true;
    }

    private boolean[][] equalTerms() {
        if (equal == null) {
            equal = closure(equations);
        }
        return equal;
    }

    /** A term with a sign that this one equals, or -1. */
    private int shape(int term) {
        for (int i = 0; i < terms.size(); i++) {
            if (equalTerms()[term][i] && !terms.get(i).isVariable()) {
                return i;
            }
        }
        return -1;
    }

    private int[] below(int term) {
        int shape = shape(term);
        return shape < 0 ? new int[0] : terms.get(shape).below();
    }

    private int leafName(int term) {
        for (int i = 0; i < term; i++) {
            if (equalTerms()[term][i]) {
                return i;
            }
        }
        return term;
    }

    private boolean sameHeads(Pair pair) {
        int one = shape(pair.one());
        int other = shape(pair.other());
        return one >= 0 && other >= 0 && terms.get(one).hasHeadOf(terms.get(other));
    }

    private boolean[][] sameTrees() {
        if (same != null) {
            return same;
        }
        int n = terms.size();
        same = new boolean[n][n];
        for (int i = 0; i < n; i++) {
            for (int j = 0; j < n; j++) {
                same[i][j] = equalTerms()[i][j] || sameHeads(new Pair(i, j));
            }
        }
        boolean more = true;
        while (more) {
            more = false;
            for (int i = 0; i < n; i++) {
                for (int j = 0; j < n; j++) {
                    if (same[i][j] && !sameBelow(i, j)) {
                        same[i][j] = false;
                        more = true;
                    }
                }
            }
        }
        return same;
    }

    private boolean sameBelow(int i, int j) {
        int[] one = below(i);
        int[] other = below(j);
        for (int k = 0; k < one.length; k++) {
            if (!same[one[k]][other[k]]) {
                return false;
            }
        }
        return true;
    }

    private int differentTerms() {
        int count = 0;
        for (int i = 0; i < terms.size(); i++) {
            boolean first = true;
            for (int j = 0; j < i; j++) {
                first &= !sameTrees()[i][j];
            }
            count += first ? 1 : 0;
        }
        return count;
    }

    /** Whether a way down has this many nodes; what was refuted once is not tried again. */
    private boolean goesDeeper(int term, int nodes, boolean[][] refuted) {
        if (nodes == 0) {
            return true;
        }
        if (shape(term) < 0 || refuted[nodes][term]) {
            return false;
        }
        if (nodes == 1) {
            return true;
        }
        for (int next : below(term)) {
            if (goesDeeper(next, nodes - 1, refuted)) {
                return true;
            }
        }
        refuted[nodes][term] = true;
        return false;
    }

    private BigInteger bigSize(int term, Map<Integer, BigInteger> known) {
        BigInteger old = known.get(term);
        if (old != null) {
            return old;
        }
        BigInteger sum = BigInteger.ONE;
        for (int next : below(term)) {
            sum = sum.add(bigSize(next, known));
        }
        known.put(term, sum);
        return sum;
    }

    /** A term for each different tree in a tree. */
    private List<Integer> trees(int top) {
        List<Integer> found = new ArrayList<>(List.of(top));
        for (int at = 0; at < found.size(); at++) {
            for (int next : below(found.get(at))) {
                boolean old = false;
                for (int tree : found) {
                    old |= sameTrees()[tree][next];
                }
                if (!old) {
                    found.add(next);
                }
            }
        }
        return found;
    }

    /** All pairs of terms at the same places of two trees, as far down as the signs are the same. */
    private List<Pair> pairs(int a, int b) {
        Map<Pair, Boolean> found = new LinkedHashMap<>();
        List<Pair> list = new ArrayList<>(List.of(new Pair(a, b)));
        found.put(list.get(0), true);
        for (int at = 0; at < list.size(); at++) {
            Pair pair = list.get(at);
            if (!sameHeads(pair)) {
                continue;
            }
            int[] one = below(pair.one());
            int[] other = below(pair.other());
            for (int k = 0; k < one.length; k++) {
                Pair next = new Pair(one[k], other[k]);
                if (found.putIfAbsent(next, true) == null) {
                    list.add(next);
                }
            }
        }
        return list;
    }

    private boolean mayBeAlike(Pair one, Pair other) {
        if (sameHeads(one) != sameHeads(other)) {
            return false;
        }
        if (!sameHeads(one)) {
            return sameTrees()[one.one()][other.one()] && sameTrees()[one.other()][other.other()];
        }
        return sameHeads(new Pair(one.one(), other.one()));
    }

    private boolean tellApart(List<Pair> nodes, Map<Pair, Integer> number, boolean[][] alike) {
        boolean more = false;
        for (int i = 0; i < nodes.size(); i++) {
            for (int j = 0; j < nodes.size(); j++) {
                if (!alike[i][j] || !sameHeads(nodes.get(i))) {
                    continue;
                }
                int n = below(nodes.get(i).one()).length;
                for (int k = 0; k < n; k++) {
                    if (!alike[number.get(pairBelow(nodes.get(i), k))][number.get(pairBelow(nodes.get(j), k))]) {
                        alike[i][j] = false;
                        more = true;
                    }
                }
            }
        }
        return more;
    }

    private Pair pairBelow(Pair pair, int k) {
        return new Pair(below(pair.one())[k], below(pair.other())[k]);
    }

    private void write(int term, StringBuilder whole) {
        if (whole.length() > 200) {
            return;
        }
        int shape = shape(term);
        if (shape < 0) {
            whole.append('V').append(leafName(term));
            return;
        }
        whole.append('S').append(terms.get(shape).sign());
        int[] below = terms.get(shape).below();
        for (int k = 0; k < below.length; k++) {
            whole.append(k == 0 ? "(" : ",");
            write(below[k], whole);
        }
        whole.append(below.length > 0 ? ")" : "");
    }
}

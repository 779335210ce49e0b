import java.util.Arrays;
import java.util.NoSuchElementException;

/**
 * A forge of terms: variables and signs with terms below them, joined to be the same level by level
 * and taken back, and asked what trees they are then.
 *
 * <p>Trees may be without end, so nothing here follows a way down a tree: every walk is over the
 * different trees (or pairs of them), of which there are no more than terms.
 */
public final class TermForge {
    private static final int MOST_TERMS = 300;
    private static final int MOST_LEVELS = 20;
    private static final int MOST_BELOW = 3;
    private static final int MOST_BYTES = 200;
    private static final int SIGNS = 16;
    private static final long LARGE = 1000000000000L;
    private static final int NONE = -1;

    private final Terms terms;
    private final Classes classes;
    private final Levels levels;
    private final Trees trees;
    private final Finder finder;
    private final Reach reach;
    private final Matching matching;
    private final Pairs pairs;
    private final Writing writing;
    private int equations;

    public TermForge() {
        terms = new Terms();
        classes = new Classes(terms);
        levels = new Levels();
        trees = new Trees();
        finder = new Finder(terms, classes, trees);
        reach = new Reach(trees);
        matching = new Matching(trees);
        pairs = new Pairs(trees);
        writing = new Writing(trees);
        equations = 0;
    }

    public int variable() throws IllegalStateException {
        needRoom();
        return newTerm(terms.add(NONE, 0, 0, 0));
    }

    public int sign(int sign, int n, int a, int b, int c) throws IllegalArgumentException, IllegalStateException {
        if (sign < 0 || sign >= SIGNS) {
            throw new IllegalArgumentException("no such sign");
        }
        if (n < 0 || n > MOST_BELOW) {
            throw new IllegalArgumentException("not 0 to 3 terms below");
        }
        if (n > 0) {
            needTerm(a);
        }
        if (n > 1) {
            needTerm(b);
        }
        if (n > 2) {
            needTerm(c);
        }
        needRoom();
        return newTerm(terms.add(headOf(sign, n), a, b, c));
    }

    public boolean join(int a, int b) throws IllegalArgumentException {
        needTerms(a, b);
        int before = classes.merges;
        if (!classes.unify(a, b)) {
            classes.goBack(before);
            return false;
        }
        equations++;
        if (classes.merges > before) {
            finder.forget();
        }
        return true;
    }

    public boolean could(int a, int b) throws IllegalArgumentException {
        needTerms(a, b);
        int before = classes.merges;
        boolean held = classes.unify(a, b);
        classes.goBack(before);
        return held;
    }

    public int mark() throws IllegalStateException {
        if (levels.count >= MOST_LEVELS) {
            throw new IllegalStateException("20 levels");
        }
        levels.begin(terms.count, equations, classes.merges);
        return levels.count;
    }

    public int undo() throws IllegalStateException {
        if (levels.count <= 0) {
            throw new IllegalStateException("no level");
        }
        levels.end();
        int went = equations - levels.equationsBefore();
        equations = levels.equationsBefore();
        classes.goBack(levels.mergesBefore());
        terms.count = levels.termsBefore();
        finder.forget();
        return went;
    }

    public boolean same(int a, int b) throws IllegalArgumentException {
        needTerms(a, b);
        return finder.treeOf(a) == finder.treeOf(b);
    }

    public boolean isFinite(int a) throws IllegalArgumentException {
        needTerm(a);
        return trees.hasEnd(finder.treeOf(a));
    }

    public long size(int a) throws IllegalArgumentException {
        needTerm(a);
        int tree = finder.treeOf(a);
        return trees.hasEnd(tree) ? trees.sizes[tree] : -1L;
    }

    public int depth(int a) throws IllegalArgumentException {
        needTerm(a);
        int tree = finder.treeOf(a);
        return trees.hasEnd(tree) ? trees.depths[tree] : -1;
    }

    public int variables(int a) throws IllegalArgumentException {
        needTerm(a);
        reach.walk(finder.treeOf(a));
        return reach.leaves();
    }

    public int parts(int a) throws IllegalArgumentException {
        needTerm(a);
        reach.walk(finder.treeOf(a));
        return reach.count;
    }

    public boolean instance(int a, int b) throws IllegalArgumentException {
        needTerms(a, b);
        return matching.matches(finder.treeOf(a), finder.treeOf(b));
    }

    public boolean variant(int a, int b) throws IllegalArgumentException {
        needTerms(a, b);
        int one = finder.treeOf(a);
        int other = finder.treeOf(b);
        return matching.matches(one, other) && matching.matches(other, one);
    }

    public int common(int a, int b, int what) throws IllegalArgumentException {
        needTerms(a, b);
        if (what != 0 && what != 1) {
            throw new IllegalArgumentException("nothing else is told of what is common");
        }
        pairs.walk(finder.treeOf(a), finder.treeOf(b));
        return what == 0 ? pairs.count : pairs.leaves;
    }

    public int text(int a) throws IllegalArgumentException {
        needTerm(a);
        int tree = finder.treeOf(a);
        if (!trees.hasEnd(tree) || !writing.write(tree)) {
            return -1;
        }
        return writing.length;
    }

    public long out(int k) throws NoSuchElementException {
        if (k < 0 || k >= writing.length) {
            throw new NoSuchElementException("no such byte");
        }
        return writing.eightFrom(k);
    }

    public int look(int what) throws IllegalArgumentException {
        switch (what) {
            case 0:
                return terms.count;
            case 1:
                return equations;
            case 2:
                return levels.count;
            case 3:
                return finder.allTrees();
            case 4:
                return writing.length;
            default:
                throw new IllegalArgumentException("nothing else to look at");
        }
    }

    private int newTerm(int term) {
        classes.begin(term);
        finder.forget();
        return term;
    }

    private void needRoom() {
        if (terms.count >= MOST_TERMS) {
            throw new IllegalStateException("300 terms");
        }
    }

    private void needTerm(int term) {
        if (term < 0 || term >= terms.count) {
            throw new IllegalArgumentException("no such term");
        }
    }

    private void needTerms(int a, int b) {
        needTerm(a);
        needTerm(b);
    }

    /** A sign with another number below is another one, so the two are kept as one number: the head. */
    private static int headOf(int sign, int n) {
        return sign * (MOST_BELOW + 1) + n;
    }

    private static int signOf(int head) {
        return head / (MOST_BELOW + 1);
    }

    /** How many are below a head; a variable's head is NONE. */
    private static int countBelow(int head) {
        return head == NONE ? 0 : head % (MOST_BELOW + 1);
    }

    /** The terms as they were made. */
    private static final class Terms {
        int count = 0;
        final int[] heads = new int[MOST_TERMS];
        /** Three places a term, of which the first ones that its head counts are used. */
        final int[] below = new int[MOST_TERMS * MOST_BELOW];

        /** The caller has seen that there is room. */
        int add(int head, int a, int b, int c) {
            int term = count;
            heads[term] = head;
            below[term * MOST_BELOW] = a;
            below[term * MOST_BELOW + 1] = b;
            below[term * MOST_BELOW + 2] = c;
            count++;
            return term;
        }
    }

    /** What was there when each level began. */
    private static final class Levels {
        int count = 0;
        private final int[] terms = new int[MOST_LEVELS];
        private final int[] equations = new int[MOST_LEVELS];
        private final int[] merges = new int[MOST_LEVELS];

        /** The caller has seen that there is room. */
        void begin(int termsNow, int equationsNow, int mergesNow) {
            terms[count] = termsNow;
            equations[count] = equationsNow;
            merges[count] = mergesNow;
            count++;
        }

        /** The caller has seen that there is a level; what it kept can be asked until the next begins. */
        void end() {
            count--;
        }

        int termsBefore() {
            return terms[count];
        }

        int equationsBefore() {
            return equations[count];
        }

        int mergesBefore() {
            return merges[count];
        }
    }

    /**
     * Classes of terms that the equations make the same. No path is shortened when a root is looked
     * for, so that a merge is taken back by cutting one link; the lighter class goes below the
     * heavier one, which keeps the paths short all the same.
     */
    private static final class Classes {
        private static final int MOST_WAITING = 1 + MOST_TERMS * MOST_BELOW;

        int merges = 0;
        private final Terms terms;
        private final int[] parent = new int[MOST_TERMS];
        private final int[] weight = new int[MOST_TERMS];
        private final int[] shape = new int[MOST_TERMS];
        private final int[] merged = new int[MOST_TERMS];
        private final int[] waitingOne = new int[MOST_WAITING];
        private final int[] waitingOther = new int[MOST_WAITING];
        private int waiting = 0;

        Classes(Terms terms) {
            this.terms = terms;
        }

        void begin(int term) {
            parent[term] = term;
            weight[term] = 1;
            shape[term] = terms.heads[term] == NONE ? NONE : term;
        }

        int rootOf(int term) {
            int at = term;
            for (int step = 0; step < MOST_TERMS && parent[at] != at; step++) {
                at = parent[at];
            }
            return at;
        }

        /** A term with a sign in the root's class, or NONE if it has variables alone. */
        int shapeOf(int root) {
            return shape[root];
        }

        /** Merges all that an equation makes the same; where it answers false the caller goes back. */
        boolean unify(int a, int b) {
            waiting = 0;
            await(a, b);
            for (int at = 0; at < waiting && at < MOST_WAITING; at++) {
                if (!mergeTwo(rootOf(waitingOne[at]), rootOf(waitingOther[at]))) {
                    return false;
                }
            }
            return true;
        }

        /** Cuts the latest merges off, the latest first; a shape that both classes show came with the merge. */
        void goBack(int mergesBefore) {
            for (int at = merges - 1; at >= mergesBefore; at--) {
                int light = merged[at];
                int heavy = parent[light];
                parent[light] = light;
                weight[heavy] -= weight[light];
                if (shape[heavy] == shape[light]) {
                    shape[heavy] = NONE;
                }
            }
            merges = mergesBefore;
        }

        /** Each merge takes a class away, so no more than three pairs a term ever wait. */
        private void await(int a, int b) {
            if (waiting < MOST_WAITING) {
                waitingOne[waiting] = a;
                waitingOther[waiting] = b;
                waiting++;
            }
        }

        private boolean mergeTwo(int one, int other) {
            if (one == other) {
                return true;
            }
            int oneShape = shape[one];
            int otherShape = shape[other];
            if (oneShape != NONE && otherShape != NONE) {
                if (terms.heads[oneShape] != terms.heads[otherShape]) {
                    return false;
                }
                awaitBelow(oneShape, otherShape);
            }
            if (weight[one] < weight[other]) {
                attach(one, other);
            } else {
                attach(other, one);
            }
            return true;
        }

        private void awaitBelow(int one, int other) {
            int n = countBelow(terms.heads[one]);
            for (int k = 0; k < n; k++) {
                await(terms.below[one * MOST_BELOW + k], terms.below[other * MOST_BELOW + k]);
            }
        }

        private void attach(int light, int heavy) {
            parent[light] = heavy;
            weight[heavy] += weight[light];
            if (shape[heavy] == NONE) {
                shape[heavy] = shape[light];
            }
            merged[merges] = light;
            merges++;
        }
    }

    /**
     * The different trees, each once: the finite ones first, then those without end. Each is the tree of
     * some class of terms, so there are never more of them than terms.
     */
    private static final class Trees {
        private static final int BUCKETS = 512;

        int count = 0;
        private int finite = 0;
        final int[] heads = new int[MOST_TERMS];
        final int[] least = new int[MOST_TERMS];
        final long[] sizes = new long[MOST_TERMS];
        final int[] depths = new int[MOST_TERMS];
        private final int[] below = new int[MOST_TERMS * MOST_BELOW];
        private final int[] firstIn = new int[BUCKETS];
        private final int[] nextIn = new int[MOST_TERMS];
        private final int[] bucketOf = new int[MOST_TERMS];

        void clear() {
            count = 0;
            finite = 0;
            Arrays.fill(firstIn, NONE);
        }

        boolean hasEnd(int tree) {
            return tree < finite;
        }

        int below(int tree, int k) {
            return below[tree * MOST_BELOW + k];
        }

        int addLeaf(int variable) {
            int tree = count;
            heads[tree] = NONE;
            least[tree] = variable;
            sizes[tree] = 1L;
            depths[tree] = 0;
            count++;
            return tree;
        }

        /** The tree of a head and trees below it (NONE where there is none): an old one, or one more. */
        int find(int head, int a, int b, int c) {
            int mixed = ((head * 31 + a) * 37 + b) * 41 + c;
            int bucket = (mixed ^ (mixed >>> 9)) & (BUCKETS - 1);
            int tree = firstIn[bucket];
            for (int step = 0; step < count && tree != NONE; step++) {
                int at = tree * MOST_BELOW;
                if (heads[tree] == head && below[at] == a && below[at + 1] == b && below[at + 2] == c) {
                    return tree;
                }
                tree = nextIn[tree];
            }
            tree = count;
            heads[tree] = head;
            below[tree * MOST_BELOW] = a;
            below[tree * MOST_BELOW + 1] = b;
            below[tree * MOST_BELOW + 2] = c;
            bucketOf[tree] = bucket;
            nextIn[tree] = firstIn[bucket];
            firstIn[bucket] = tree;
            count++;
            return tree;
        }

        void measure(int tree) {
            long sum = 1L;
            int deepest = 0;
            int n = countBelow(heads[tree]);
            for (int k = 0; k < n; k++) {
                sum += sizes[below(tree, k)];
                deepest = Math.max(deepest, depths[below(tree, k)]);
            }
            sizes[tree] = Math.min(sum, LARGE);
            depths[tree] = deepest + 1;
        }

        /** All trees so far are finite, and all that come later are not. */
        void closeFinite() {
            finite = count;
        }

        int countEndless() {
            return count - finite;
        }

        /** The latest stands first in its bucket, so taking them away from the end needs no search. */
        void dropEndless() {
            for (int tree = count - 1; tree >= finite; tree--) {
                firstIn[bucketOf[tree]] = nextIn[tree];
            }
            count = finite;
        }
    }

    /** Finds the tree of each class, when it is asked for and only if something changed since. */
    private static final class Finder {
        private final Terms terms;
        private final Classes classes;
        private final Trees trees;
        private final int[] roots = new int[MOST_TERMS];
        private final int[] ofClass = new int[MOST_TERMS];
        private final int[] open = new int[MOST_TERMS];
        private final int[] fresh = new int[MOST_TERMS];
        private int openCount = 0;
        private boolean found = false;

        Finder(Terms terms, Classes classes, Trees trees) {
            this.terms = terms;
            this.classes = classes;
            this.trees = trees;
        }

        void forget() {
            found = false;
        }

        int treeOf(int term) {
            findAll();
            return ofClass[roots[term]];
        }

        int allTrees() {
            findAll();
            return trees.count;
        }

        private void findAll() {
            if (found) {
                return;
            }
            trees.clear();
            findLeaves();
            findFinite();
            findEndless();
            found = true;
        }

        /** Goes up by number, so that a leaf is named by the least of its variables. */
        private void findLeaves() {
            Arrays.fill(ofClass, NONE);
            openCount = 0;
            for (int term = 0; term < terms.count; term++) {
                int root = classes.rootOf(term);
                roots[term] = root;
                if (classes.shapeOf(root) != NONE) {
                    if (root == term) {
                        open[openCount] = root;
                        openCount++;
                    }
                } else if (ofClass[root] == NONE) {
                    ofClass[root] = trees.addLeaf(term);
                }
            }
        }

        /** A tree is finite if all below it are; what stays open when no more is found is not. */
        private void findFinite() {
            boolean more = true;
            for (int sweep = 0; sweep <= MOST_TERMS && more; sweep++) {
                more = sweepOpen();
            }
            trees.closeFinite();
        }

        private boolean sweepOpen() {
            int kept = 0;
            for (int at = 0; at < openCount; at++) {
                int root = open[at];
                if (knowsBelow(root)) {
                    int tree = findTree(root);
                    trees.measure(tree);
                    ofClass[root] = tree;
                } else {
                    open[kept] = root;
                    kept++;
                }
            }
            boolean more = kept < openCount;
            openCount = kept;
            return more;
        }

        /**
         * Trees without end are taken to be all the same first and told apart by what is below them,
         * round by round, until a round tells no more apart. Trees are numbered as they come up, so
         * in the last round the numbers below are those that it gives itself.
         */
        private void findEndless() {
            for (int at = 0; at < openCount; at++) {
                ofClass[open[at]] = trees.count;
            }
            int before = NONE;
            for (int round = 0; round <= MOST_TERMS + 1 && trees.countEndless() != before; round++) {
                before = trees.countEndless();
                refine();
            }
        }

        private void refine() {
            trees.dropEndless();
            for (int at = 0; at < openCount; at++) {
                fresh[at] = findTree(open[at]);
            }
            for (int at = 0; at < openCount; at++) {
                ofClass[open[at]] = fresh[at];
            }
        }

        private boolean knowsBelow(int root) {
            int term = classes.shapeOf(root);
            int n = countBelow(terms.heads[term]);
            for (int k = 0; k < n; k++) {
                if (treeBelow(term, k) == NONE) {
                    return false;
                }
            }
            return true;
        }

        private int findTree(int root) {
            int term = classes.shapeOf(root);
            int head = terms.heads[term];
            int n = countBelow(head);
            int a = n > 0 ? treeBelow(term, 0) : NONE;
            int b = n > 1 ? treeBelow(term, 1) : NONE;
            int c = n > 2 ? treeBelow(term, 2) : NONE;
            return trees.find(head, a, b, c);
        }

        private int treeBelow(int term, int k) {
            return ofClass[roots[terms.below[term * MOST_BELOW + k]]];
        }
    }

    /** All different trees in one. */
    private static final class Reach {
        int count = 0;
        private final Trees trees;
        private final int[] list = new int[MOST_TERMS];
        private final byte[] listed = new byte[MOST_TERMS];

        Reach(Trees trees) {
            this.trees = trees;
        }

        void walk(int top) {
            Arrays.fill(listed, (byte) 0);
            count = 0;
            add(top);
            for (int at = 0; at < count && at < MOST_TERMS; at++) {
                int tree = list[at];
                int n = countBelow(trees.heads[tree]);
                for (int k = 0; k < n; k++) {
                    add(trees.below(tree, k));
                }
            }
        }

        /** How many of those that the latest walk came to are leaves of variables. */
        int leaves() {
            int leaves = 0;
            for (int at = 0; at < count; at++) {
                if (trees.heads[list[at]] == NONE) {
                    leaves++;
                }
            }
            return leaves;
        }

        private void add(int tree) {
            if (listed[tree] == 0) {
                listed[tree] = 1;
                list[count] = tree;
                count++;
            }
        }
    }

    /**
     * Whether a tree is an instance of another. What is put for the leaves settles what each tree in
     * the general one becomes, not only each leaf, so every one of them is met with one partner.
     */
    private static final class Matching {
        private final Trees trees;
        private final int[] partner = new int[MOST_TERMS];
        private final int[] list = new int[MOST_TERMS];
        private int count = 0;

        Matching(Trees trees) {
            this.trees = trees;
        }

        boolean matches(int general, int special) {
            Arrays.fill(partner, NONE);
            count = 0;
            pair(general, special);
            for (int at = 0; at < count && at < MOST_TERMS; at++) {
                if (!matchesBelow(list[at])) {
                    return false;
                }
            }
            return true;
        }

        private boolean matchesBelow(int tree) {
            int head = trees.heads[tree];
            if (head == NONE) {
                return true;
            }
            int other = partner[tree];
            if (head != trees.heads[other]) {
                return false;
            }
            int n = countBelow(head);
            for (int k = 0; k < n; k++) {
                if (!pair(trees.below(tree, k), trees.below(other, k))) {
                    return false;
                }
            }
            return true;
        }

        private boolean pair(int tree, int other) {
            if (partner[tree] == NONE) {
                partner[tree] = other;
                list[count] = tree;
                count++;
            }
            return partner[tree] == other;
        }
    }

    /**
     * The most special tree that two are instances of, as pairs of a tree of the one and a tree of
     * the other that stand at the same place. A pair with the same head is a node, any other a leaf.
     * Both trees of a pair come back if the leaves are put back, so different pairs are different
     * trees, and counting pairs is enough.
     *
     * <p>There may be as many as 90000 pairs, so each is a bit: a row of them for each tree of the
     * one. Rows wait to be visited, not pairs, which keeps what waits short too.
     */
    private static final class Pairs {
        private static final int MOST_PAIRS = MOST_TERMS * MOST_TERMS;
        private static final int BITS = 64;
        private static final int WORDS = MOST_TERMS / BITS + 1;

        int count = 0;
        int leaves = 0;
        private final Trees trees;
        private final long[] met = new long[MOST_TERMS * WORDS];
        private final long[] open = new long[MOST_TERMS * WORDS];
        private final int[] rows = new int[MOST_TERMS];
        private final byte[] waits = new byte[MOST_TERMS];
        private int waiting = 0;

        Pairs(Trees trees) {
            this.trees = trees;
        }

        /** A row comes to wait only with a pair that was not met before, so no more rows than pairs do. */
        void walk(int one, int other) {
            Arrays.fill(met, 0L);
            count = 0;
            leaves = 0;
            add(one, other);
            for (int step = 0; step < MOST_PAIRS && waiting > 0; step++) {
                waiting--;
                int row = rows[waiting];
                waits[row] = 0;
                visitRow(row);
            }
        }

        private void visitRow(int row) {
            for (int word = 0; word < WORDS; word++) {
                long bits = open[row * WORDS + word];
                open[row * WORDS + word] = 0L;
                for (int step = 0; step < BITS && bits != 0L; step++) {
                    visit(row, word * BITS + placeOfLowest(bits));
                    bits &= bits - 1L;
                }
            }
        }

        private static int placeOfLowest(long bits) {
            return Long.bitCount((bits & -bits) - 1L);
        }

        private void visit(int one, int other) {
            int head = trees.heads[one];
            if (head == NONE || head != trees.heads[other]) {
                leaves++;
                return;
            }
            int n = countBelow(head);
            for (int k = 0; k < n; k++) {
                add(trees.below(one, k), trees.below(other, k));
            }
        }

        private void add(int one, int other) {
            int at = one * WORDS + other / BITS;
            long bit = 1L << (other % BITS);
            if ((met[at] & bit) != 0L) {
                return;
            }
            met[at] |= bit;
            open[at] |= bit;
            count++;
            if (waits[one] == 0) {
                waits[one] = 1;
                rows[waiting] = one;
                waiting++;
            }
        }
    }

    /** OUT, and the draft that becomes OUT if it is not too long. */
    private static final class Writing {
        /** A step begins with no more waiting than bytes fit, takes one away and leaves at most six. */
        private static final int MOST_WAITING = MOST_BYTES + 5;

        int length = 0;
        private final Trees trees;
        private final byte[] bytes = new byte[MOST_BYTES];
        private final byte[] draft = new byte[MOST_BYTES];
        private int draftLength = 0;
        private final int[] waiting = new int[MOST_WAITING];
        private int waitingCount = 0;

        Writing(Trees trees) {
            this.trees = trees;
        }

        /** All that waits writes a byte or more, so the steps end when the draft must become too long. */
        boolean write(int top) {
            draftLength = 0;
            waitingCount = 0;
            await(top);
            for (int step = 0; step < MOST_BYTES && mayFit() && waitingCount > 0; step++) {
                waitingCount--;
                writeNext(waiting[waitingCount]);
            }
            if (!mayFit()) {
                return false;
            }
            System.arraycopy(draft, 0, bytes, 0, draftLength);
            length = draftLength;
            return true;
        }

        long eightFrom(int k) {
            long eight = 0L;
            for (int at = 7; at >= 0; at--) {
                eight = (eight << 8) | (k + at < length ? bytes[k + at] & 0xffL : 0L);
            }
            return eight;
        }

        private boolean mayFit() {
            return draftLength + waitingCount <= MOST_BYTES;
        }

        /** What waits is a tree's number, or a byte below zero. */
        private void writeNext(int next) {
            if (next < 0) {
                put(-next);
            } else if (trees.heads[next] == NONE) {
                put('V');
                putNumber(trees.least[next]);
            } else {
                put('S');
                putNumber(signOf(trees.heads[next]));
                writeBelow(next, countBelow(trees.heads[next]));
            }
        }

        private void writeBelow(int tree, int n) {
            if (n == 0) {
                return;
            }
            put('(');
            await(-')');
            for (int k = n - 1; k >= 0; k--) {
                await(trees.below(tree, k));
                if (k > 0) {
                    await(-',');
                }
            }
        }

        private void await(int next) {
            if (waitingCount < MOST_WAITING) {
                waiting[waitingCount] = next;
                waitingCount++;
            }
        }

        private void putNumber(int number) {
            if (number >= 100) {
                put('0' + number / 100);
            }
            if (number >= 10) {
                put('0' + number / 10 % 10);
            }
            put('0' + number % 10);
        }

        private void put(int character) {
            if (draftLength < MOST_BYTES) {
                draft[draftLength] = (byte) character;
            }
            draftLength++;
        }
    }
}

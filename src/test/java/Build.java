/** Terms and states that several tests build. */
final class Build {
    private Build() {
    }

    static int constant(TermForge x, int sign) {
        return x.sign(sign, 0, -1, -1, -1);
    }

    static int one(TermForge x, int sign, int a) {
        return x.sign(sign, 1, a, -1, -1);
    }

    static int two(TermForge x, int sign, int a, int b) {
        return x.sign(sign, 2, a, b, -1);
    }

    static int three(TermForge x, int sign, int a, int b, int c) {
        return x.sign(sign, 3, a, b, c);
    }

    /** A variable joined with a sign above it. */
    static int endless(TermForge x, int sign) {
        int v = x.variable();
        int top = one(x, sign, v);
        Check.due("join of a variable and a sign above it", x.join(v, top), true);
        return top;
    }

    /** So many signs above a term, each with the one before below it. */
    static int tower(TermForge x, int sign, int levels, int below) {
        int top = below;
        for (int k = 0; k < levels; k++) {
            top = one(x, sign, top);
        }
        return top;
    }

    /** A finite term of so many nodes, from few terms. */
    static int ofSize(TermForge x, long size) {
        if (size == 1) {
            return constant(x, 0);
        }
        if (size % 2 == 0) {
            return one(x, 1, ofSize(x, size - 1));
        }
        int half = ofSize(x, (size - 1) / 2);
        return two(x, 2, half, half);
    }

    /** An object with so many variables and nothing else. */
    static TermForge variables(int count) {
        TermForge x = new TermForge();
        for (int k = 0; k < count; k++) {
            x.variable();
        }
        return x;
    }

    /** OUT, read eight bytes at a time. */
    static String written(TermForge x) {
        int length = x.look(4);
        StringBuilder text = new StringBuilder();
        for (int k = 0; k < length; k += 8) {
            long eight = x.out(k);
            for (int at = k; at < k + 8 && at < length; at++) {
                text.append((char) (eight >>> (8 * (at - k)) & 0xff));
            }
        }
        return text.toString();
    }

    static void dueText(TermForge x, int term, String want) {
        Check.due("text of " + want, x.text(term), want.length());
        Check.due("OUT", written(x), want);
    }

    /** All that can be asked of an object of few terms without changing it. */
    static String state(TermForge x) {
        StringBuilder all = new StringBuilder(counts(x)).append(' ').append(written(x));
        int terms = x.look(0);
        for (int a = 0; a < terms; a++) {
            all.append(' ').append(x.size(a)).append('/').append(x.depth(a)).append('/').append(x.variables(a));
            all.append('/').append(x.parts(a));
            for (int b = 0; b < a; b++) {
                all.append(x.same(a, b) ? '=' : x.could(a, b) ? '?' : '#');
            }
        }
        return all.toString();
    }

    static String counts(TermForge x) {
        StringBuilder all = new StringBuilder();
        for (int what = 0; what <= 4; what++) {
            all.append(x.look(what)).append(',');
        }
        return all.toString();
    }
}

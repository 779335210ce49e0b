import java.util.NoSuchElementException;
import java.util.Random;

/** Runs of random calls of fixed seeds, each answered by the class and by the model alike. */
public final class ModelTest {
    private static final int RUNS = 1500;
    private static final int KINDS = 18;

    private final TermForge forge = new TermForge();
    private final Model model = new Model();
    private final Random random;
    private final StringBuilder story = new StringBuilder();
    private final int signs;
    private final int mostTerms;
    /** Terms first, few equations then: larger trees than where equations come all the time. */
    private final boolean large;
    private int kind;
    private int a;
    private int b;
    private int c;
    private int d;
    private int e;

    private ModelTest(int seed) {
        random = new Random(seed);
        signs = 1 + random.nextInt(3);
        large = seed % 2 == 1;
        mostTerms = large ? 12 + random.nextInt(12) : 4 + random.nextInt(10);
    }

    public static void main(String[] args) {
        for (int seed = 0; seed < RUNS && Check.wrong() == 0; seed++) {
            new ModelTest(seed).run(seed);
        }
        Check.end();
    }

    private void run(int seed) {
        int calls = 20 + random.nextInt(100);
        for (int call = 0; call < calls && Check.wrong() == 0; call++) {
            choose();
            String got = forgeAnswer();
            String want = modelAnswer();
            story.append(kind).append(' ').append(a).append(' ').append(b).append(' ').append(c).append(' ').append(d)
                .append(' ').append(e).append(" -> ").append(got).append('\n');
            Check.due("seed " + seed + ", call " + call + ", kind " + kind, got, want);
        }
        if (Check.wrong() != 0) {
            System.out.println(story);
        }
    }

    private void choose() {
        int terms = model.look(0);
        chooseKind(terms);
        if (kind == 1) {
            chooseSign(terms);
        } else if (kind == 16) {
            a = random.nextInt(40) - 2;
        } else if (kind == 17) {
            a = random.nextInt(7) - 1;
        } else {
            a = term(terms);
            b = term(terms);
            c = random.nextInt(10) == 0 ? random.nextInt(5) - 2 : random.nextInt(2);
        }
    }

    private void chooseKind(int terms) {
        kind = random.nextInt(KINDS);
        if (terms < 3 || large && terms < mostTerms) {
            kind = random.nextInt(4) == 0 ? 0 : 1;
        } else if (large) {
            kind = kind < 2 ? 2 : kind == 5 && random.nextInt(3) > 0 ? 4 : kind;
        } else if (random.nextInt(3) == 0) {
            kind = random.nextInt(5);
        }
        if (terms >= mostTerms && kind < 2) {
            kind = random.nextInt(4) == 0 ? 5 : 2;
        }
    }

    private void chooseSign(int terms) {
        a = random.nextInt(40) == 0 ? random.nextInt(40) - 10 : random.nextInt(signs);
        b = random.nextInt(40) == 0 ? random.nextInt(10) - 3 : terms == 0 ? 0 : random.nextInt(8) == 0 ? random.nextInt(4) : 1 + a % 3;
        c = term(terms);
        d = term(terms);
        e = term(terms);
    }

    private int term(int terms) {
        if (terms == 0 || random.nextInt(60) == 0) {
            return random.nextInt(terms + 6) - 3;
        }
        return large && random.nextInt(3) > 0 ? terms - 1 - random.nextInt(Math.min(terms, 6)) : random.nextInt(terms);
    }

    private String forgeAnswer() {
        try {
            return switch (kind) {
                case 0 -> "" + forge.variable();
                case 1 -> "" + forge.sign(a, b, c, d, e);
                case 2 -> "" + forge.join(a, b);
                case 3 -> "" + forge.could(a, b);
                case 4 -> "" + forge.mark();
                case 5 -> "" + forge.undo();
                case 6 -> "" + forge.same(a, b);
                case 7 -> "" + forge.isFinite(a);
                case 8 -> "" + forge.size(a);
                case 9 -> "" + forge.depth(a);
                case 10 -> "" + forge.variables(a);
                case 11 -> "" + forge.parts(a);
                case 12 -> "" + forge.instance(a, b);
                case 13 -> "" + forge.variant(a, b);
                case 14 -> "" + forge.common(a, b, c);
                case 15 -> "" + forge.text(a);
                case 16 -> "" + forge.out(a);
                default -> "" + forge.look(a);
            };
        } catch (IllegalArgumentException | IllegalStateException | NoSuchElementException thrown) {
            return thrown.getClass().getSimpleName();
        }
    }

    private String modelAnswer() {
        try {
            return switch (kind) {
                case 0 -> "" + model.variable();
                case 1 -> "" + model.sign(a, b, c, d, e);
                case 2 -> "" + model.join(a, b);
                case 3 -> "" + model.could(a, b);
                case 4 -> "" + model.mark();
                case 5 -> "" + model.undo();
                case 6 -> "" + model.same(a, b);
                case 7 -> "" + model.isFinite(a);
                case 8 -> "" + model.size(a);
                case 9 -> "" + model.depth(a);
                case 10 -> "" + model.variables(a);
                case 11 -> "" + model.parts(a);
                case 12 -> "" + model.instance(a, b);
                case 13 -> "" + model.variant(a, b);
                case 14 -> "" + model.common(a, b, c);
                case 15 -> "" + model.text(a);
                case 16 -> "" + model.out(a);
                default -> "" + model.look(a);
            };
        } catch (Model.Thrown thrown) {
            return thrown.getMessage();
        }
    }
}

import java.lang.management.ManagementFactory;
import java.util.function.Consumer;

/**
 * All calls of one run live in one room of some 600,000 objects and 7.3 million fields and elements: what 512 calls of the
 * dearest sort make stays far below that, as bytes of this machine. Each call ends soon, on the most that there can be.
 */
public final class RoomTests extends Checks {
    private static final int CALLS = 512;
    /** Some 7.3 million elements are 29 million bytes at least; a tenth of that is enough for any run. */
    private static final long MOST_BYTES = 2_900_000;
    private static final long MOST_MILLISECONDS = 60_000;

    private static int wrong;

    private static long made() {
        return ((com.sun.management.ThreadMXBean) ManagementFactory.getThreadMXBean())
                .getThreadAllocatedBytes(Thread.currentThread().getId());
    }

    /** Nine ANSWERS, eight long LEGS, RULES with many conditions that don't hold; no ROW of four ARRIVES. */
    private static NotYetSaid dearest() {
        NotYetSaid x = new NotYetSaid();
        for (int a = 0; a < 9; a++) {
            x.answer(1 + a % 5, 20 + a, a % 3, 4);
        }
        for (int k = 0; k < 8; k++) {
            x.leg(99, k % 3);
        }
        feed(x, "answer if 1=2or 2=3or 3=4or 5=6or 6=7or 8=9or 1=2or 2=3or 3=4or 5=6or 6=7or 8=9or 1=2or 2=3or 3=4or 5=6"
                + "or 6=7or 8=9or 1=2or 2=3or 3=4or 5=6or 6=7or 8=9or not 1=1or not 2=2nil;");
        if (x.rules() != 1) {
            throw new IllegalStateException("the RULES of this test can't be read");
        }
        for (int r = 0; r < 6; r++) {
            x.report(0, 10 + r, 1);
        }
        x.sheet(0, 0, 40);
        x.shelf(0, 0, 2);
        x.keep();
        return x;
    }

    private static void of(String name, Consumer<NotYetSaid> call) {
        NotYetSaid warm = dearest();
        call.accept(warm);
        NotYetSaid x = dearest();
        long began = System.currentTimeMillis();
        long before = made();
        for (int k = 0; k < CALLS; k++) {
            call.accept(x);
        }
        long bytes = made() - before;
        long took = System.currentTimeMillis() - began;
        if (bytes > MOST_BYTES || took > MOST_MILLISECONDS) {
            wrong++;
            System.out.println(CALLS + " of " + name + " made " + bytes + " bytes in " + took + " ms");
        }
    }

    public static void main(String[] args) {
        of("rules()", NotYetSaid::rules);
        of("feed(), rules()", x -> {
            feed(x, "song nil;");
            x.rules();
        });
        of("remake()", x -> x.remake(3, 5));
        of("keep(), again()", x -> {
            x.keep();
            x.again();
        });
        of("sheet()", x -> x.sheet(1, 3, 40));
        of("act()", x -> x.act(0, 3, 5));
        of("more()", NotYetSaid::more);
        of("needs()", NotYetSaid::needs);
        of("beliefFor()", x -> x.beliefFor(3));
        of("fewest()", NotYetSaid::fewest);
        of("kindly()", x -> x.kindly(4, 3));
        of("ways()", x -> x.ways(4));
        of("far()", x -> x.far(4));
        of("game()", x -> x.game(4));
        of("play()", x -> x.play(4));
        of("often()", x -> x.often(60));
        of("prove()", NotYetSaid::prove);
        of("judge()", NotYetSaid::judge);
        of("liar()", NotYetSaid::liar);
        of("wouldCost()", x -> x.wouldCost(0, 0, 20));
        of("tellAll()", x -> x.tellAll(0, 0, 20));
        of("draw()", NotYetSaid::draw);
        System.out.println(wrong == 0 ? "there is room enough" : wrong + " calls are too dear");
        if (wrong != 0) {
            System.exit(1);
        }
    }
}

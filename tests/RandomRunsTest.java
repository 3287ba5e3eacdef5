/** Drawn runs on the program, each answer compared with that of the plain model. */
public final class RandomRunsTest {
    private RandomRunsTest() {
    }

    public static void main(String[] args) {
        Check check = new Check();
        long first = args.length > 0 ? Long.parseLong(args[0]) : 1;
        for (long seed = first; seed < first + 400 && !check.failed(); seed++) {
            new Player(seed, check).play(250);
        }
        for (long seed = first; seed < first + 40 && !check.failed(); seed++) {
            new Player(seed, check).playTexts(100);
        }
        for (long seed = first; seed < first + 30 && !check.failed(); seed++) {
            new Player(seed, check).playLong();
        }
        check.finish("RandomRunsTest");
    }
}

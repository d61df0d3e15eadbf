/** Promises 25 and 26: after, walk. */
final class StepsTest {
    private static final String PATH = "walk 4;edge 0 1 1;edge 1 2 2;cost weight*10+to;";

    public static void main(String[] args) {
        promise25After();
        promise25AfterRounds();
        promise26Walk();
        promise26WalkDraws();
        promise26WalkThrows();
        Checks.end("StepsTest");
    }

    private static void promise25After() {
        RandomWalks x = Checks.loaded(PATH + "absorb 1;");
        Checks.same("after(0, 0, 0)", x.after(0, 0, 0), 1.0f);
        Checks.same("after(0, 1, 0)", x.after(0, 1, 0), 0.0f);
        Checks.same("after(0, 1, 1)", x.after(0, 1, 1), 1.0f);
        Checks.same("after(0, 0, 2)", x.after(0, 0, 2), 1.0f / 3.0f);
        Checks.same("after(0, 2, 2)", x.after(0, 2, 2), 2.0f / 3.0f);
        Checks.same("after(0, 3, 100)", x.after(0, 3, 100), 0.0f);
        Checks.same("after(3, 3, 100)", x.after(3, 3, 100), 1.0f);
        Checks.noIndex("after(4, 0, 1)", () -> (long) x.after(4, 0, 1));
        Checks.noIndex("after(0, 4, 101)", () -> (long) x.after(0, 4, 101));
        Checks.noIndex("after(0, -1, 1)", () -> (long) x.after(0, -1, 1));
        Checks.noArgument("after(0, 0, 101)", () -> (long) x.after(0, 0, 101));
        Checks.noArgument("after(0, 0, -1)", () -> (long) x.after(0, 0, -1));
    }

    /** The sums are rounded in the order of the vertices. */
    private static void promise25AfterRounds() {
        RandomWalks x = Checks.loaded("walk 3;edge 0 1 1;edge 1 2 2;edge 2 0 4;");
        float[] now = {1.0f, 0.0f, 0.0f};
        for (int steps = 1; steps <= 100; steps++) {
            float at0 = 0.0f + now[1] * (1.0f / 3.0f) + now[2] * (2.0f / 3.0f);
            float at1 = 0.0f + now[0] * (1.0f / 5.0f) + now[2] * (1.0f / 3.0f);
            float at2 = 0.0f + now[0] * (4.0f / 5.0f) + now[1] * (2.0f / 3.0f);
            now = new float[] {at0, at1, at2};
            for (int v = 0; v < 3; v++) {
                Checks.same("after(0, " + v + ", " + steps + ")", x.after(0, v, steps), now[v]);
            }
        }
    }

    private static void promise26Walk() {
        RandomWalks x = Checks.loaded(PATH + "absorb 2;");
        Checks.same("a walk of no steps ends", x.walk(1, 0, 7, 0), 1);
        Checks.same("a walk of no steps has been", x.walk(1, 0, 7, 1), 2);
        Checks.same("a walk of no steps costs", x.walk(1, 0, 7, 2), 0);
        Checks.same("a walk of no steps is not absorbed", x.walk(1, 0, 7, 3), -1);
        Checks.same("a walk that begins at an absorbing vertex", x.walk(2, 9, 7, 3), 0);
        Checks.same("a vertex without edges", x.walk(3, 1000, 7, 0), 3);
        Checks.same("a vertex without edges has been", x.walk(3, 1000, 7, 1), 8);
        Checks.same("a vertex without edges costs", x.walk(3, 1000, 7, 2), 0);
        Checks.same("a vertex without edges is not absorbed", x.walk(3, 1000, 7, 3), -1);
        x.setAbsorbing(3, true);
        Checks.same("a vertex without edges is absorbed", x.walk(3, 1000, 7, 3), 0);
        long sum = x.checksum();
        x.walk(0, 1000, 1, 0);
        Checks.same("checksum", x.checksum(), sum);
    }

    /** The draws with the seed 1 are 16838, 5758, 10113, 17515, 31051 (modulo 32768). */
    private static void promise26WalkDraws() {
        long s = 1;
        int place = 0;
        int seen = 1;
        int cost = 0;
        int absorbed = -1;
        RandomWalks x = Checks.loaded(PATH + "absorb 2;");
        for (int steps = 1; steps <= 1000; steps++) {
            s = (s * 1103515245L + 12345L) % (1L << 31);
            int to = place == 1 ? (s / 65536 % 3 < 1 ? 0 : 2) : 1;
            cost += (place + to == 1 ? 10 : 20) + to;
            place = to;
            seen |= 1 << to;
            absorbed = absorbed < 0 && to == 2 ? steps : absorbed;
            Checks.same("end after " + steps, x.walk(0, steps, 1, 0), place);
            Checks.same("set after " + steps, x.walk(0, steps, 1, 1), seen);
            Checks.same("cost after " + steps, x.walk(0, steps, 1, 2), cost);
            Checks.same("absorbed after " + steps, x.walk(0, steps, 1, 3), absorbed);
        }
        RandomWalks star = Checks.loaded("walk 6;edge 5 0 1;edge 4 0 2;edge 3 0 9;edge 2 0 1;edge 1 0 2;");
        // 16838 modulo 15 is 8: 1 takes 0 to 1, 2 takes 2, 3 takes 3 to 11.
        Checks.same("the first draw", star.walk(0, 1, 1, 0), 3);
        // 2147483647 * 1103515245 + 12345 is 1043980748 modulo 2^31; 15929 modulo 15 is 14.
        Checks.same("the largest seed", star.walk(0, 1, 2147483647, 0), 5);
        Checks.same("the seed 0 draws 0", star.walk(0, 1, 0, 0), 1);
    }

    private static void promise26WalkThrows() {
        RandomWalks x = Checks.loaded(PATH);
        Checks.noIndex("walk(4, ..)", () -> x.walk(4, 1001, -1, 4));
        Checks.noIndex("walk(-1, ..)", () -> x.walk(-1, 1, 1, 0));
        Checks.noArgument("steps 1001", () -> x.walk(0, 1001, 1, 0));
        Checks.noArgument("steps -1", () -> x.walk(0, -1, 1, 0));
        Checks.noArgument("seed -1", () -> x.walk(0, 1, -1, 0));
        Checks.noArgument("what 4", () -> x.walk(0, 1, 1, 4));
        Checks.noArgument("what -1", () -> x.walk(0, 1, 1, -1));
    }
}

/** Promises 11 to 18: hitting times and costs, commute times, resistances, trees, absorption. */
final class MeansTest {
    private static final String PATH = "walk 4;edge 0 1 1;edge 1 2 2;cost weight*10+to;";

    public static void main(String[] args) {
        promise11HittingTime();
        promise12HittingCost();
        promise13CommuteTime();
        promise14Resistance();
        promise15Trees();
        promise16Absorbing();
        promise17Absorption();
        promise18AbsorptionTime();
        Checks.end("MeansTest");
    }

    private static void promise11HittingTime() {
        RandomWalks x = Checks.loaded(PATH);
        Checks.fraction("hittingTime(0, 2)", below -> x.hittingTime(0, 2, below), 3, 1);
        Checks.fraction("hittingTime(2, 0)", below -> x.hittingTime(2, 0, below), 6, 1);
        Checks.fraction("hittingTime(1, 2)", below -> x.hittingTime(1, 2, below), 2, 1);
        Checks.fraction("hittingTime(1, 1)", below -> x.hittingTime(1, 1, below), 0, 1);
        Checks.fraction("hittingTime(3, 3)", below -> x.hittingTime(3, 3, below), 0, 1);
        Checks.noState("hittingTime(0, 3)", () -> x.hittingTime(0, 3, false));
        Checks.noState("hittingTime(3, 0)", () -> x.hittingTime(3, 0, false));
        Checks.noIndex("hittingTime(0, 4)", () -> x.hittingTime(0, 4, false));
        Checks.noIndex("hittingTime(-1, 0)", () -> x.hittingTime(-1, 0, false));
        RandomWalks full = Checks.loaded(Checks.full(9));
        Checks.fraction("hittingTime(5, 2)", below -> full.hittingTime(5, 2, below), 5, 1);
        RandomWalks triangle = Checks.loaded("walk 3;edge 0 1 1;edge 1 2 2;edge 2 0 3;");
        Checks.fraction("hittingTime(0, 1)", below -> triangle.hittingTime(0, 1, below), 35, 11);
        Checks.fraction("hittingTime(1, 0)", below -> triangle.hittingTime(1, 0, below), 25, 11);
        x.setAbsorbing(1, true);
        Checks.fraction("hittingTime past an absorbing vertex", below -> x.hittingTime(0, 2, below), 3, 1);
    }

    private static void promise12HittingCost() {
        RandomWalks x = Checks.loaded(PATH);
        // From 1: 10 of 30 draws go to 0 and back (10 + 11), then again; the step to 2 costs 22.
        Checks.fraction("hittingCost(1, 2)", below -> x.hittingCost(1, 2, below), 65, 2);
        Checks.fraction("hittingCost(0, 2)", below -> x.hittingCost(0, 2, below), 87, 2);
        Checks.fraction("hittingCost(2, 1)", below -> x.hittingCost(2, 1, below), 21, 1);
        Checks.fraction("hittingCost(0, 0)", below -> x.hittingCost(0, 0, below), 0, 1);
        Checks.noState("hittingCost(0, 3)", () -> x.hittingCost(0, 3, false));
        Checks.noIndex("hittingCost(0, 4)", () -> x.hittingCost(0, 4, false));
        Checks.noIndex("hittingCost(4, 3)", () -> x.hittingCost(4, 3, false));
        RandomWalks free = Checks.loaded("walk 2;edge 0 1 5;cost 0;");
        Checks.fraction("hittingCost of no cost", below -> free.hittingCost(0, 1, below), 0, 1);
    }

    private static void promise13CommuteTime() {
        RandomWalks x = Checks.loaded(PATH);
        Checks.fraction("commuteTime(0, 2)", below -> x.commuteTime(0, 2, below), 9, 1);
        Checks.fraction("commuteTime(2, 1)", below -> x.commuteTime(2, 1, below), 3, 1);
        Checks.fraction("commuteTime(3, 3)", below -> x.commuteTime(3, 3, below), 0, 1);
        Checks.noState("commuteTime(3, 0)", () -> x.commuteTime(3, 0, false));
        Checks.noIndex("commuteTime(3, 4)", () -> x.commuteTime(3, 4, false));
        RandomWalks triangle = Checks.loaded("walk 3;edge 0 1 1;edge 1 2 2;edge 2 0 3;");
        Checks.fraction("commuteTime(0, 1)", below -> triangle.commuteTime(0, 1, below), 60, 11);
    }

    private static void promise14Resistance() {
        RandomWalks x = Checks.loaded(PATH);
        Checks.fraction("resistance(0, 2)", below -> x.resistance(0, 2, below), 3, 2);
        Checks.fraction("resistance(1, 2)", below -> x.resistance(1, 2, below), 1, 2);
        Checks.fraction("resistance(3, 3)", below -> x.resistance(3, 3, below), 0, 1);
        Checks.fraction("resistance(2, 2)", below -> x.resistance(2, 2, below), 0, 1);
        Checks.noState("resistance(3, 0)", () -> x.resistance(3, 0, false));
        Checks.noIndex("resistance(4, 0)", () -> x.resistance(4, 0, false));
        Checks.noIndex("resistance(0, -1)", () -> x.resistance(0, -1, false));
        RandomWalks two = Checks.loaded("walk 5;edge 0 1 1;edge 1 2 2;edge 2 0 3;edge 3 4 9;");
        Checks.fraction("resistance(0, 1)", below -> two.resistance(0, 1, below), 5, 11);
        Checks.fraction("resistance(4, 3)", below -> two.resistance(4, 3, below), 1, 9);
        RandomWalks full = Checks.loaded(Checks.full(9));
        Checks.fraction("resistance(5, 0)", below -> full.resistance(5, 0, below), 1, 27);
    }

    private static void promise15Trees() {
        Checks.same("trees of nothing", new RandomWalks().trees(), 0);
        Checks.same("trees of a path with a vertex apart", Checks.loaded(PATH).trees(), 0);
        Checks.same("trees of two parts", Checks.loaded("walk 4;edge 0 1 1;edge 2 3 5;").trees(), 0);
        Checks.same("trees with 0 apart", Checks.loaded("walk 3;edge 1 2 5;").trees(), 0);
        Checks.same("trees of an edge", Checks.loaded("walk 2;edge 0 1 7;").trees(), 7);
        Checks.same("trees of a triangle", Checks.loaded("walk 3;edge 0 1 1;edge 1 2 2;edge 2 0 3;").trees(), 11);
        Checks.same("trees of all edges", Checks.loaded(Checks.full(9)).trees(), 76527504);
    }

    private static void promise16Absorbing() {
        RandomWalks x = Checks.loaded("walk 6;absorb 5;absorb 0;absorb 3;");
        Checks.same("absorbing", x.absorbing(), 0b101001);
        x.setAbsorbing(0, false);
        Checks.same("absorbing", x.absorbing(), 0b101000);
        Checks.same("absorbing of none", Checks.loaded(PATH).absorbing(), 0);
    }

    private static void promise17Absorption() {
        RandomWalks x = Checks.loaded("walk 6;edge 0 1 1;edge 1 2 2;edge 2 3 3;edge 4 5 1;absorb 0;absorb 3;absorb 4;");
        Checks.fraction("absorption(1, 0)", below -> x.absorption(1, 0, below), 5, 11);
        Checks.fraction("absorption(1, 3)", below -> x.absorption(1, 3, below), 6, 11);
        Checks.fraction("absorption(2, 0)", below -> x.absorption(2, 0, below), 2, 11);
        Checks.fraction("absorption(0, 0)", below -> x.absorption(0, 0, below), 1, 1);
        Checks.fraction("absorption(0, 3)", below -> x.absorption(0, 3, below), 0, 1);
        Checks.fraction("absorption(1, 4)", below -> x.absorption(1, 4, below), 0, 1);
        Checks.fraction("absorption(5, 4)", below -> x.absorption(5, 4, below), 1, 1);
        Checks.noArgument("absorption(0, 1)", () -> x.absorption(0, 1, false));
        Checks.noIndex("absorption(6, 1)", () -> x.absorption(6, 1, false));
        Checks.noIndex("absorption(0, 6)", () -> x.absorption(0, 6, false));
        x.setAbsorbing(4, false);
        Checks.noState("absorption(5, 0)", () -> x.absorption(5, 0, false));
        Checks.noArgument("absorption(5, 1)", () -> x.absorption(5, 1, false));
    }

    private static void promise18AbsorptionTime() {
        RandomWalks x = Checks.loaded("walk 6;edge 0 1 1;edge 1 2 2;edge 2 3 3;absorb 0;absorb 3;absorb 5;");
        Checks.fraction("absorptionTime(1)", below -> x.absorptionTime(1, below), 25, 11);
        Checks.fraction("absorptionTime(2)", below -> x.absorptionTime(2, below), 21, 11);
        Checks.fraction("absorptionTime(3)", below -> x.absorptionTime(3, below), 0, 1);
        Checks.fraction("absorptionTime(5)", below -> x.absorptionTime(5, below), 0, 1);
        Checks.noState("absorptionTime(4)", () -> x.absorptionTime(4, false));
        Checks.noIndex("absorptionTime(6)", () -> x.absorptionTime(6, false));
        Checks.noIndex("absorptionTime(-1)", () -> x.absorptionTime(-1, false));
    }
}

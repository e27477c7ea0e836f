import java.math.BigInteger;

/**
 * Promises 9 to 20 and 26, the calls that only ask: each sentence of the document that names a
 * boundary, in a test of its own. Every method whose name begins with "promise" is run.
 */
public final class EdgesOfAnswersTests {
    private static final int NONE = CastingFeeder.NONE;
    private static final int BAD_INDEX = CastingFeeder.BAD_INDEX;
    private static final int BAD_VALUE = CastingFeeder.BAD_VALUE;
    private static final int FULL = CastingFeeder.FULL;
    private static final int LEAST = Integer.MIN_VALUE, MOST = Integer.MAX_VALUE;
    /** No section of twelve. */
    private static final int[] NO_SECTIONS = {-1, 12, -2, 13, 20, LEAST, MOST};

    private EdgesOfAnswersTests() {
    }

    public static void main(String[] args) throws IllegalAccessException {
        Checks.runPromises(EdgesOfAnswersTests.class);
        Checks.end();
    }

    private static void due(String call, long got, long want) {
        Checks.due(call, got, want);
    }

    /** Calls that only ask change nothing, whatever they answer. */
    private static void asks(String call, Castings.Making making, Castings.Call on, long want) {
        Castings.changesNothing(call, making, on, want);
    }

    private static CastingFeeder one(int volume, int area, boolean feeder) {
        CastingFeeder x = new CastingFeeder();
        x.addSection(volume, area, feeder);
        return x;
    }

    /** Each section is as large as can be, and draws as much as can be: 1000. */
    private static CastingFeeder largest(boolean feeders) {
        CastingFeeder x = new CastingFeeder();
        for (int i = 0; i < 12; i++) {
            x.addSection(5000, 1, feeders);
        }
        x.setMetal(200, 500);
        return x;
    }

    /** A way through all twelve: each section is fed by the next one. */
    private static CastingFeeder longWay() {
        CastingFeeder x = Castings.withSections(12);
        for (int i = 0; i < 11; i++) {
            x.join(i, i + 1);
        }
        return x;
    }

    // ---- promise 9

    static void promise9_whatIsFrom0To9() {
        // 0 is fed by 11, and 1 by 10; 10 and 11 have the need 1, the others have none.
        int[] full = {12, 20, 50, 140, 0, 10, 2, 2, 1000, 0};
        for (int what = 0; what < full.length; what++) {
            int asked = what;
            asks("count(" + what + ")", Castings::full, x -> x.count(asked), full[what]);
        }
        for (int bad : new int[] {-1, 10, -2, 11, LEAST, MOST}) {
            asks("count(" + bad + ")", Castings::full, x -> x.count(bad), BAD_VALUE);
            asks("count(" + bad + ") of none", Castings::empty, x -> x.count(bad), BAD_VALUE);
        }
    }

    static void promise9_theLargestCounts() {
        int[] parts = {12, 0, 200, 500, 0, 12, 12000, 12000, 1000, 0};
        int[] feeders = {12, 0, 200, 500, 12, 12, 12000, 0, 0, 1};
        for (int what = 0; what < parts.length; what++) {
            due("count(" + what + ") of parts", largest(false).count(what), parts[what]);
            due("count(" + what + ") of feeders", largest(true).count(what), feeders[what]);
        }
    }

    static void promise9_theYieldIs0WithoutSections() {
        due("count(8)", new CastingFeeder().count(8), 0);
        CastingFeeder x = one(1, 1, false);
        due("count(8) of one section", x.count(8), 1000);
        x.removeSection(0);
        due("count(8) when it is gone", x.count(8), 0);
    }

    static void promise9_theYieldIsRoundedDown() {
        int[][] volumes = {{1, 2, 333}, {2, 1, 666}, {1, 999, 1}, {1, 1000, 0}, {999, 1, 999}, {4999, 1, 999}, {5000, 5000, 500}};
        for (int[] v : volumes) {
            CastingFeeder x = one(v[0], 1, false);
            x.addSection(v[1], 1, true);
            due("the yield of " + v[0] + " with a feeder of " + v[1], x.count(8), v[2]);
        }
    }

    static void promise9_soundMeansThatAllExcessesAre0() {
        CastingFeeder x = one(19, 1, false);
        due("sound with the pores 0", x.count(9), 1);
        x.resize(0, 20, 1);
        due("not sound with the pores 1", x.count(9), 0);
        due("the excess", x.count(7), 1);
        due("the pores", x.count(6), 1);
    }

    static void promise9_aFeedersRoomDoesNotMakeUpForOtherPores() {
        CastingFeeder x = one(20, 1, false);
        x.addSection(5000, 1, true);
        // The feeder bears 700 and has 250; the excess is the section's alone.
        due("count(6)", x.count(6), 251);
        due("count(7)", x.count(7), 1);
        due("count(9)", x.count(9), 0);
    }

    static void promise9_hotSpotsFrom1To12() {
        due("hot spots of a long way", longWay().count(5), 1);
        due("hot spots without joints", Castings.withSections(12).count(5), 12);
        due("hot spots of one", Castings.withSections(1).count(5), 1);
    }

    static void promise9_whatIsRemovedDoesNotCount() {
        CastingFeeder x = largest(true);
        for (int i = 0; i < 11; i++) {
            x.join(i, i + 1);
        }
        for (int left = 11; left >= 1; left--) {
            x.removeSection(left);
            int[] numbers = {left, left - 1, 200, 500, left, 1, 1000 * left, Math.max(0, 1000 * left - 2500), 0, left < 3 ? 1 : 0};
            for (int what = 0; what < numbers.length; what++) {
                due("count(" + what + ") with " + left, x.count(what), numbers[what]);
            }
        }
        CastingFeeder y = one(100, 1, false);
        y.addSection(100, 1, true);
        y.removeSection(1);
        due("the yield without the feeder", y.count(8), 1000);
        y.addSection(300, 1, true);
        due("the yield with another feeder", y.count(8), 250);
    }

    // ---- promise 10

    static void promise10_theSectionIsFrom0ToTheLastOne() {
        asks("section(0, 0)", Castings::full, x -> x.section(0, 0), 10);
        asks("section(11, 0)", Castings::full, x -> x.section(11, 0), 21);
        for (int bad : NO_SECTIONS) {
            for (int what = 0; what < 11; what++) {
                int asked = what;
                asks("section(" + bad + ", " + what + ")", Castings::full, x -> x.section(bad, asked), BAD_INDEX);
            }
        }
        asks("section(2, 10) of three", Castings::star, x -> x.section(2, 10), 2);
        asks("section(3, 10) of three", Castings::star, x -> x.section(3, 10), BAD_INDEX);
    }

    static void promise10_whatIsFrom0To10() {
        int[] last = {1000, 500, 0, 0, 2, 80, 80, 80, NONE, 2, 2};
        for (int what = 0; what < last.length; what++) {
            int asked = what;
            asks("section(2, " + what + ")", Castings::star, x -> x.section(2, asked), last[what]);
        }
        for (int bad : new int[] {-1, 11, -2, 12, LEAST, MOST}) {
            asks("section(2, " + bad + ")", Castings::star, x -> x.section(2, bad), BAD_VALUE);
        }
    }

    static void promise10_badIndexComesBeforeBadValue() {
        asks("section(3, 11)", Castings::star, x -> x.section(3, 11), BAD_INDEX);
        asks("section(-1, -1)", Castings::star, x -> x.section(-1, -1), BAD_INDEX);
        asks("section(0, 11) of none", Castings::empty, x -> x.section(0, 11), BAD_INDEX);
    }

    static void promise10_theStepIsFrom0ToTheLastOne() {
        CastingFeeder x = new CastingFeeder();
        for (int i = 0; i < 12; i++) {
            x.addSection(5000 - i, 1, false);
        }
        for (int i = 0; i < 12; i++) {
            due("section(" + i + ", 4)", x.section(i, 4), 11 - i);
        }
    }

    static void promise10_ofEqualModuliTheLowerNumberFreezesBefore() {
        CastingFeeder x = new CastingFeeder();
        int[][] halves = {{2500, 5000}, {1, 2}, {5, 10}, {2, 4}, {2499, 4998}};
        for (int[] h : halves) {
            x.addSection(h[0], h[1], false);
        }
        // 250 / (1 + 499) is a half, too.
        x.addSection(250, 1, false);
        x.setChill(5, 499);
        for (int i = 0; i < 6; i++) {
            due("section(" + i + ", 4)", x.section(i, 4), i);
        }
        x.setChill(5, 500);
        due("section(5, 4), a little less than a half", x.section(5, 4), 0);
        x.setChill(5, 498);
        due("section(5, 4), a little more than a half", x.section(5, 4), 5);
        x.setChill(0, 1);
        due("section(0, 4), a little less than a half", x.section(0, 4), 0);
        x.resize(0, 2501, 5000);
        due("section(0, 4), a little more than a half", x.section(0, 4), 4);
    }

    static void promise10_moduliAreExactFractions() {
        // 5000 / 4999 and 4999 / 4998 differ by 1 / 24985002: less than a float can tell.
        CastingFeeder x = one(4999, 4998, false);
        x.addSection(5000, 4999, false);
        due("section(0, 4), the larger one", x.section(0, 4), 1);
        CastingFeeder y = one(4999, 5000, false);
        y.addSection(4998, 4999, false);
        due("section(0, 4), 4999 / 5000", y.section(0, 4), 1);
        CastingFeeder z = one(5000, 4999, false);
        z.addSection(4999, 4998, false);
        due("section(0, 4), the smaller one", z.section(0, 4), 0);
        // 4999 / 5499 and 5000 / 5500 with the largest chill.
        CastingFeeder w = one(5000, 5000, false);
        w.addSection(4999, 4999, false);
        w.setChill(0, 500);
        w.setChill(1, 500);
        due("section(0, 4), 5000 / 5500", w.section(0, 4), 1);
    }

    static void promise10_needsAreRoundedDown() {
        int[][] needs = {{19, 50, 0}, {20, 50, 1}, {39, 50, 1}, {40, 50, 2}, {4, 200, 0}, {5, 200, 1}, {999, 1, 0},
            {1000, 1, 1}, {4999, 200, 999}, {5000, 200, 1000}, {5000, 0, 0}, {1, 200, 0}, {1001, 199, 199}};
        for (int[] n : needs) {
            CastingFeeder x = one(n[0], 10, false);
            x.setMetal(n[1], 0);
            due("the need of " + n[0] + " with the shrinkage " + n[1], x.section(0, 5), n[2]);
            due("the pores of " + n[0] + " with the shrinkage " + n[1], x.section(0, 6), n[2]);
        }
    }

    static void promise10_aNeedOf0IsDrawnToo() {
        CastingFeeder x = Castings.chain();
        x.setMetal(0, 0);
        for (int i = 0; i < 3; i++) {
            due("section(" + i + ", 8)", x.section(i, 8), i + 1);
            due("section(" + i + ", 5)", x.section(i, 5), 0);
        }
        due("section(3, 8)", x.section(3, 8), NONE);
        due("section(3, 9)", x.section(3, 9), 1);
        due("count(5)", x.count(5), 1);
    }

    static void promise10_aFrozenNeighbourDoesNotFeed() {
        CastingFeeder x = Castings.star();
        due("the one that freezes last is a hot spot", x.section(2, 8), NONE);
        x.setChill(2, 500);
        // 2 has the modulus of 0 now, and a higher number: it still freezes last.
        due("of equal moduli the higher number feeds", x.section(0, 8), 2);
        x.resize(2, 999, 500);
        due("0 freezes after 2 now", x.section(0, 8), NONE);
        due("and feeds it", x.section(2, 8), 0);
        due("1 freezes first, fed by 2 alone", x.section(1, 8), 2);
    }

    static void promise10_ofAllNeighboursTheOneThatFreezesLastFeeds() {
        for (int last = 1; last < 12; last++) {
            CastingFeeder x = one(1, 100, false);
            for (int i = 1; i < 12; i++) {
                x.addSection(i == last ? 101 : 100, 100, false);
                x.join(i % 2 == 0 ? i : 0, i % 2 == 0 ? 0 : i);
            }
            due("section(0, 8) when " + last + " freezes last", x.section(0, 8), last);
            due("section(" + last + ", 9)", x.section(last, 9), 1);
            due("section(0, 10)", x.section(0, 10), 11);
        }
    }

    static void promise10_howManyAreFedFrom0To11() {
        CastingFeeder x = one(5000, 1, false);
        due("section(0, 9) alone", x.section(0, 9), 0);
        for (int i = 1; i < 12; i++) {
            x.addSection(20, 100, false);
            x.join(0, i);
            due("section(0, 9) with " + i, x.section(0, 9), i);
            due("section(0, 10) with " + i, x.section(0, 10), i);
            due("section(0, 5) with " + i, x.section(0, 5), 250 + i);
        }
        due("section(11, 9)", x.section(11, 9), 0);
    }

    static void promise10_justThoseFedByItselfAreCounted() {
        CastingFeeder x = longWay();
        for (int i = 0; i < 12; i++) {
            due("section(" + i + ", 9)", x.section(i, 9), i == 0 ? 0 : 1);
        }
    }

    static void promise10_aFeederBearsPoresUpToItsPart() {
        // Volume, shrinkage, piping, pores, excess.
        int[][] feeders = {{1000, 50, 50, 50, 0}, {1000, 50, 49, 50, 1}, {1000, 51, 50, 51, 1}, {999, 100, 99, 99, 1},
            {999, 100, 100, 99, 0}, {5000, 200, 199, 1000, 5}, {5000, 200, 200, 1000, 0}, {5000, 200, 0, 1000, 1000},
            {5000, 200, 500, 1000, 0}, {19, 50, 0, 0, 0}, {20, 50, 49, 1, 1}, {20, 50, 50, 1, 0}};
        for (int[] f : feeders) {
            CastingFeeder x = one(f[0], 10, true);
            x.setMetal(f[1], f[2]);
            String name = "a feeder of " + f[0] + " with the metal " + f[1] + ", " + f[2];
            due(name + ": pores", x.section(0, 6), f[3]);
            due(name + ": excess", x.section(0, 7), f[4]);
            due(name + ": sound", x.count(9), f[4] == 0 ? 1 : 0);
        }
    }

    static void promise10_aSectionOfTheCastingBearsNoPores() {
        CastingFeeder x = one(20, 10, false);
        x.setMetal(50, 500);
        due("section(0, 6)", x.section(0, 6), 1);
        due("section(0, 7)", x.section(0, 7), 1);
    }

    static void promise10_theFedHaveNoPores() {
        CastingFeeder x = Castings.star();
        for (int i = 0; i < 2; i++) {
            due("section(" + i + ", 6)", x.section(i, 6), 0);
            due("section(" + i + ", 7)", x.section(i, 7), 0);
        }
        CastingFeeder feeder = one(100, 100, true);
        feeder.addSection(200, 100, false);
        feeder.join(0, 1);
        due("a feeder that freezes first has no pores", feeder.section(0, 6), 0);
        due("it is fed by the casting", feeder.section(0, 8), 1);
        due("which has them all", feeder.section(1, 7), 15);
    }

    // ---- promise 11

    static void promise11_theSectionIsFrom0ToTheLastOne() {
        asks("modulus(0, false)", Castings::full, x -> x.modulus(0, false), 1);
        asks("modulus(11, false)", Castings::full, x -> x.modulus(11, false), 21);
        asks("modulus(11, true)", Castings::full, x -> x.modulus(11, true), 10);
        for (int bad : NO_SECTIONS) {
            asks("modulus(" + bad + ", false)", Castings::full, x -> x.modulus(bad, false), BAD_INDEX);
            asks("modulus(" + bad + ", true)", Castings::full, x -> x.modulus(bad, true), BAD_INDEX);
        }
    }

    static void promise11_lowestTerms() {
        // Volume, area, chill, upper part, lower part.
        int[][] moduli = {{1, 1, 0, 1, 1}, {5000, 5000, 0, 1, 1}, {5000, 1, 0, 5000, 1}, {1, 5000, 0, 1, 5000},
            {1, 5000, 500, 1, 5500}, {5000, 5000, 500, 10, 11}, {4999, 5000, 0, 4999, 5000}, {5000, 4999, 0, 5000, 4999},
            {4999, 4999, 0, 1, 1}, {4999, 4499, 500, 1, 1}, {4096, 2048, 0, 2, 1}, {2048, 4096, 0, 1, 2},
            {4181, 2584, 0, 4181, 2584}, {2584, 4181, 0, 2584, 4181}, {501, 1, 500, 1, 1}, {6, 4, 0, 3, 2}};
        for (int[] m : moduli) {
            CastingFeeder x = one(m[0], m[1], false);
            x.setChill(0, m[2]);
            String name = m[0] + " / (" + m[1] + " + " + m[2] + "): ";
            due(name + "modulus(0, false)", x.modulus(0, false), m[3]);
            due(name + "modulus(0, true)", x.modulus(0, true), m[4]);
        }
    }

    // ---- promise 12

    static void promise12_theJointIsFrom0ToTheLastOne() {
        asks("joint(0, 0)", Castings::full, x -> x.joint(0, 0), 0);
        asks("joint(0, 1)", Castings::full, x -> x.joint(0, 1), 1);
        asks("joint(19, 0)", Castings::full, x -> x.joint(19, 0), 1);
        asks("joint(19, 1)", Castings::full, x -> x.joint(19, 1), 10);
        for (int bad : new int[] {-1, 20, -2, 21, LEAST, MOST}) {
            asks("joint(" + bad + ", 0)", Castings::full, x -> x.joint(bad, 0), BAD_INDEX);
            asks("joint(" + bad + ", 1)", Castings::full, x -> x.joint(bad, 1), BAD_INDEX);
        }
        asks("joint(1, 1) of two", Castings::star, x -> x.joint(1, 1), 2);
        asks("joint(2, 1) of two", Castings::star, x -> x.joint(2, 1), BAD_INDEX);
    }

    static void promise12_whichIs0Or1() {
        for (int bad : new int[] {-1, 2, -2, 3, LEAST, MOST}) {
            asks("joint(0, " + bad + ")", Castings::full, x -> x.joint(0, bad), BAD_VALUE);
        }
    }

    static void promise12_badIndexComesBeforeBadValue() {
        asks("joint(2, 2)", Castings::star, x -> x.joint(2, 2), BAD_INDEX);
        asks("joint(-1, -1)", Castings::star, x -> x.joint(-1, -1), BAD_INDEX);
        asks("joint(0, 2) of none", Castings::empty, x -> x.joint(0, 2), BAD_INDEX);
    }

    // ---- promise 13

    static void promise13_theStepIs0OrMore() {
        for (int bad : new int[] {-1, -2, -12, LEAST}) {
            asks("atStep(" + bad + ")", Castings::star, x -> x.atStep(bad), BAD_VALUE);
            asks("atStep(" + bad + ") of none", Castings::empty, x -> x.atStep(bad), BAD_VALUE);
        }
        asks("atStep(0)", Castings::star, x -> x.atStep(0), 1);
    }

    static void promise13_noneIfThereAreNotSoMany() {
        asks("atStep(2) of three", Castings::star, x -> x.atStep(2), 2);
        asks("atStep(3) of three", Castings::star, x -> x.atStep(3), NONE);
        asks("atStep(11) of twelve", Castings::full, x -> x.atStep(11), 11);
        for (int beyond : new int[] {12, 13, 20, MOST}) {
            asks("atStep(" + beyond + ") of twelve", Castings::full, x -> x.atStep(beyond), NONE);
        }
        asks("atStep(0) of none", Castings::empty, x -> x.atStep(0), NONE);
    }

    static void promise13_noneWhereThereWereMore() {
        CastingFeeder x = Castings.withSections(12);
        for (int left = 11; left >= 0; left--) {
            x.removeSection(0);
            for (int step = 0; step <= 12; step++) {
                due("atStep(" + step + ") with " + left, x.atStep(step), step < left ? step : NONE);
            }
        }
    }

    // ---- promise 14

    static void promise14_theSectionIsFrom0ToTheLastOne() {
        asks("way(0, 0)", Castings::full, x -> x.way(0, 0), 0);
        asks("way(11, 0)", Castings::full, x -> x.way(11, 0), 11);
        for (int bad : NO_SECTIONS) {
            asks("way(" + bad + ", 0)", Castings::full, x -> x.way(bad, 0), BAD_INDEX);
        }
        asks("way(3, 0) of three", Castings::star, x -> x.way(3, 0), BAD_INDEX);
    }

    static void promise14_theIndexIs0OrMore() {
        for (int bad : new int[] {-1, -2, LEAST}) {
            asks("way(0, " + bad + ")", Castings::star, x -> x.way(0, bad), BAD_VALUE);
        }
        asks("way(3, -1)", Castings::star, x -> x.way(3, -1), BAD_INDEX);
        asks("way(0, -1) of none", Castings::empty, x -> x.way(0, -1), BAD_INDEX);
    }

    static void promise14_noneIfTheWayIsNotSoLong() {
        for (int from = 0; from < 12; from++) {
            for (int index : new int[] {0, 11 - from, 12 - from, 12, 13, 1000000, MOST}) {
                int section = from;
                int want = index <= 11 - from ? from + index : NONE;
                due("way(" + from + ", " + index + ")", longWay().way(section, index), want);
            }
        }
        asks("way(2, 0) of a hot spot", Castings::star, x -> x.way(2, 0), 2);
        asks("way(2, 1) of a hot spot", Castings::star, x -> x.way(2, 1), NONE);
    }

    // ---- promise 15

    static void promise15_theSectionIsFrom0ToTheLastOne() {
        asks("end(0)", EdgesOfAnswersTests::longWay, x -> x.end(0), 11);
        asks("end(11)", EdgesOfAnswersTests::longWay, x -> x.end(11), 11);
        for (int bad : NO_SECTIONS) {
            asks("end(" + bad + ")", EdgesOfAnswersTests::longWay, x -> x.end(bad), BAD_INDEX);
        }
        asks("end(3) of three", Castings::star, x -> x.end(3), BAD_INDEX);
    }

    static void promise15_theWayOfAHotSpotEndsAtItself() {
        for (int i = 0; i < 12; i++) {
            due("end(" + i + ") without joints", Castings.withSections(12).end(i), i);
            due("end(" + i + ") of a long way", longWay().end(i), 11);
        }
    }

    // ---- promise 16

    static void promise16_theSectionIsFrom0ToTheLastOne() {
        asks("gathers(0)", () -> largest(false), x -> x.gathers(0), 1000);
        asks("gathers(11)", () -> largest(false), x -> x.gathers(11), 1000);
        for (int bad : NO_SECTIONS) {
            asks("gathers(" + bad + ")", () -> largest(false), x -> x.gathers(bad), BAD_INDEX);
        }
        asks("gathers(3) of three", Castings::star, x -> x.gathers(3), BAD_INDEX);
    }

    static void promise16_0IfItIsNoHotSpot() {
        asks("gathers(0)", Castings::star, x -> x.gathers(0), 0);
        asks("gathers(2)", Castings::star, x -> x.gathers(2), 80);
        CastingFeeder x = Castings.chain();
        for (int i = 0; i < 3; i++) {
            due("gathers(" + i + ")", x.gathers(i), 0);
        }
        due("gathers(3)", x.gathers(3), 50);
    }

    static void promise16_allTwelveEndThere() {
        CastingFeeder x = largest(true);
        for (int i = 0; i < 11; i++) {
            x.join(i, i + 1);
        }
        due("gathers(11)", x.gathers(11), 12000);
        due("section(11, 5)", x.section(11, 5), 12000);
        due("section(11, 7)", x.section(11, 7), 12000 - 2500);
    }

    static void promise16_eachFirstNeedIsRoundedDown() {
        CastingFeeder x = one(19, 19, false);
        x.addSection(39, 10, false);
        x.join(0, 1);
        due("gathers(1) of 0.95 and 1.95", x.gathers(1), 1);
        x.resize(0, 20, 20);
        due("gathers(1) of 1 and 1.95", x.gathers(1), 2);
    }

    static void promise16_whatIsRemovedDoesNotCount() {
        CastingFeeder x = Castings.star();
        x.addSection(60, 400, false);
        x.join(3, 2);
        due("gathers(2) with 3", x.gathers(2), 83);
        x.removeSection(3);
        due("gathers(2) without 3", x.gathers(2), 80);
        x.removeSection(0);
        due("gathers(1) of what is left", x.gathers(1), 60);
        CastingFeeder y = one(5000, 1, false);
        for (int i = 1; i < 12; i++) {
            y.addSection(20 * i, 1000, false);
            y.join(0, i);
        }
        due("gathers(0) of twelve", y.gathers(0), 250 + 66);
        y.removeSection(11);
        due("gathers(0) of eleven", y.gathers(0), 250 + 55);
    }

    // ---- promise 17

    static void promise17_theSectionIsFrom0ToTheLastOne() {
        Castings.Making eleven = () -> Castings.withSections(11);
        asks("leastFeeder(10)", eleven, x -> x.leastFeeder(10), 10);
        for (int bad : new int[] {-1, 11, 12, -2, LEAST, MOST}) {
            asks("leastFeeder(" + bad + ")", eleven, x -> x.leastFeeder(bad), BAD_INDEX);
        }
        asks("leastFeeder(0) of none", Castings::empty, x -> x.leastFeeder(0), BAD_INDEX);
    }

    static void promise17_theSizeIsFrom1To15() {
        asks("leastFeeder(0), no need", () -> one(19, 1, false), x -> x.leastFeeder(0), 1);
        for (int size = 2; size <= 15; size++) {
            int volume = 20 * size;
            int next = size < 15 ? size + 1 : NONE;
            // The feeder of the size has the modulus size / 5, too; it has the highest number.
            Castings.Making equal = () -> withPiping(volume, 100, 500);
            asks("leastFeeder(0) of " + volume + " / 100", equal, x -> x.leastFeeder(0), size);
            Castings.Making more = () -> withPiping(volume, 99, 500);
            asks("leastFeeder(0) of " + volume + " / 99", more, x -> x.leastFeeder(0), next);
        }
    }

    private static CastingFeeder withPiping(int volume, int area, int piping) {
        CastingFeeder x = one(volume, area, false);
        x.setMetal(50, piping);
        return x;
    }

    static void promise17_aStandardFeederHasTheVolumeAndTheAreaOfItsSize() {
        // The largest one, 3375 / 1125, has the need 168, the section 168: 336; it bears 337, or 334.
        asks("leastFeeder(0), piping 100", () -> withPiping(3375, 1125, 100), x -> x.leastFeeder(0), 15);
        asks("leastFeeder(0), piping 99", () -> withPiping(3375, 1125, 99), x -> x.leastFeeder(0), NONE);
        // 3376 / 1125 freezes after it.
        asks("leastFeeder(0) of 3376", () -> withPiping(3376, 1125, 500), x -> x.leastFeeder(0), NONE);
        // The size 5 has the need 6, with 5 of the section 11; it bears 11 with 88, 10 with 87.
        asks("leastFeeder(0), piping 88", () -> withPiping(100, 100, 88), x -> x.leastFeeder(0), 5);
        asks("leastFeeder(0), piping 87", () -> withPiping(100, 100, 87), x -> x.leastFeeder(0), 6);
    }

    static void promise17_alsoIfItIsSoundAlready() {
        CastingFeeder x = one(19, 1, false);
        due("count(9)", x.count(9), 1);
        due("leastFeeder(0)", x.leastFeeder(0), 1);
        CastingFeeder feeder = one(5000, 1, true);
        due("count(9) of a feeder", feeder.count(9), 1);
        due("leastFeeder(0) of a feeder", feeder.leastFeeder(0), 1);
    }

    /** 0 is fed by 1, and this by the feeder 2; each standard feeder freezes after 1 and takes what 0 draws. */
    private static CastingFeeder soundUntilThereIsAFeederMore() {
        CastingFeeder x = one(1000, 5000, false);
        x.setChill(0, 500);
        x.addSection(19, 100, false);
        x.addSection(5000, 1, true);
        x.join(0, 1);
        x.join(1, 2);
        // 200 + 3 + 1000 are below 1205, but the size 15 would have 200 + 675, and bear 813.
        x.setMetal(200, 241);
        return x;
    }

    static void promise17_noneAlsoIfItIsSoundAlready() {
        Castings.Making making = EdgesOfAnswersTests::soundUntilThereIsAFeederMore;
        due("count(9)", making.make().count(9), 1);
        asks("leastFeeder(0)", making, x -> x.leastFeeder(0), NONE);
        asks("leastFeeder(1)", making, x -> x.leastFeeder(1), 1);
        asks("leastFeeder(2)", making, x -> x.leastFeeder(2), 1);
    }

    static void promise17_fullIfThereAre12Sections() {
        asks("leastFeeder(0) with 11", () -> Castings.withSections(11), x -> x.leastFeeder(0), NONE);
        asks("leastFeeder(0) with 12", () -> Castings.withSections(12), x -> x.leastFeeder(0), FULL);
        asks("leastFeeder(11) with 12", () -> Castings.withSections(12), x -> x.leastFeeder(11), FULL);
    }

    static void promise17_fullIfThereAre20Joints() {
        asks("leastFeeder(0) with 19", () -> Castings.withJoints(7, 19), x -> x.leastFeeder(0), 1);
        asks("leastFeeder(0) with 20", () -> Castings.withJoints(7, 20), x -> x.leastFeeder(0), FULL);
        asks("leastFeeder(6) with 20", () -> Castings.withJoints(7, 20), x -> x.leastFeeder(6), FULL);
        asks("leastFeeder(0) with 11 and 19", () -> Castings.withJoints(11, 19), x -> x.leastFeeder(0) < FULL ? 1 : 0, 0);
    }

    static void promise17_badIndexComesBeforeFull() {
        for (int bad : NO_SECTIONS) {
            asks("leastFeeder(" + bad + ")", Castings::full, x -> x.leastFeeder(bad), BAD_INDEX);
        }
        asks("leastFeeder(7) with 20 joints", () -> Castings.withJoints(7, 20), x -> x.leastFeeder(7), BAD_INDEX);
    }

    /** Twelve sections; the last one, a feeder, is joined by the twentieth joint alone, to 10, which needs it. */
    private static CastingFeeder fedByTheLastJoint() {
        CastingFeeder x = Castings.withJoints(11, 19);
        x.addSection(4000, 2000, true);
        x.join(11, 10);
        return x;
    }

    static void promise17_theLastSectionAndTheLastJointCount() {
        CastingFeeder x = fedByTheLastJoint();
        x.removeSection(9);
        // The joints 0=9 and 1=9 are gone, 10 and 11 are 9 and 10 now.
        due("joints", x.count(1), 18);
        x.join(5, 6);
        due("count(9)", x.count(9), 1);
        for (int i = 0; i < 11; i++) {
            due("leastFeeder(" + i + ")", x.leastFeeder(i), 1);
        }
        due("bestFeeder()", x.bestFeeder(), 100);
    }

    // ---- promise 18

    static void promise18_noneIfThereIsNoSection() {
        asks("bestFeeder()", Castings::empty, CastingFeeder::bestFeeder, NONE);
    }

    static void promise18_theSizeIsFrom1To15() {
        asks("bestFeeder(), no need", () -> one(19, 1, false), CastingFeeder::bestFeeder, 100);
        for (int size = 2; size <= 15; size++) {
            int volume = 20 * size;
            int next = size < 15 ? 100 * (size + 1) : NONE;
            asks("bestFeeder() of " + volume + " / 100", () -> withPiping(volume, 100, 500), CastingFeeder::bestFeeder, 100 * size);
            asks("bestFeeder() of " + volume + " / 99", () -> withPiping(volume, 99, 500), CastingFeeder::bestFeeder, next);
        }
    }

    static void promise18_eachOfElevenSections() {
        for (int needy = 0; needy < 11; needy++) {
            CastingFeeder x = new CastingFeeder();
            for (int i = 0; i < 11; i++) {
                x.addSection(i == needy ? 300 : 10, i == needy ? 100 : 10, false);
            }
            due("bestFeeder() when " + needy + " needs it", x.bestFeeder(), 1500 + needy);
        }
    }

    static void promise18_ofSeveralSectionsTheLowestOne() {
        CastingFeeder x = one(20, 100, false);
        x.addSection(20, 100, false);
        x.addSection(20, 100, false);
        x.join(0, 1);
        x.join(1, 2);
        x.join(0, 2);
        x.setMetal(50, 500);
        // 2 is the hot spot with the need 3; the size 2 takes the needs of the ones that it is joined to.
        due("leastFeeder(2)", x.leastFeeder(2), 2);
        due("bestFeeder()", x.bestFeeder(), 202);
        CastingFeeder y = Castings.withJoints(7, 19);
        for (int i = 0; i < 7; i++) {
            due("leastFeeder(" + i + ")", y.leastFeeder(i), 1);
        }
        due("bestFeeder() of seven", y.bestFeeder(), 100);
    }

    static void promise18_alsoIfItIsSoundAlready() {
        Castings.Making making = EdgesOfAnswersTests::soundUntilThereIsAFeederMore;
        asks("bestFeeder()", making, CastingFeeder::bestFeeder, 101);
        CastingFeeder x = one(19, 1, true);
        due("count(9)", x.count(9), 1);
        due("bestFeeder() of a feeder", x.bestFeeder(), 100);
    }

    static void promise18_noneIfThereIsNone() {
        asks("bestFeeder() of one section", () -> one(5000, 1, false), CastingFeeder::bestFeeder, NONE);
        // The size 10 has the modulus 2 of the hot spot, and bears 140; it has 50 and 80.
        asks("bestFeeder() of a star", Castings::star, CastingFeeder::bestFeeder, 1002);
        CastingFeeder x = one(100, 100, false);
        x.addSection(100, 100, false);
        due("bestFeeder() of two hot spots", x.bestFeeder(), NONE);
    }

    static void promise18_fullIfThereAre12Sections() {
        asks("bestFeeder() with 11", () -> Castings.withSections(11), CastingFeeder::bestFeeder, 1010);
        asks("bestFeeder() with 12", () -> Castings.withSections(12), CastingFeeder::bestFeeder, FULL);
        asks("bestFeeder() with 12 where none would do", () -> largest(false), CastingFeeder::bestFeeder, FULL);
    }

    static void promise18_fullIfThereAre20Joints() {
        asks("bestFeeder() with 19", () -> Castings.withJoints(7, 19), CastingFeeder::bestFeeder, 100);
        asks("bestFeeder() with 20", () -> Castings.withJoints(7, 20), CastingFeeder::bestFeeder, FULL);
        asks("bestFeeder() when all is full", Castings::full, CastingFeeder::bestFeeder, FULL);
    }

    // ---- promise 19

    /** 0, with the volume and the area, is to freeze before a feeder with the modulus 1. */
    private static CastingFeeder beside(int volume, int area) {
        CastingFeeder x = one(volume, area, false);
        x.addSection(4000, 4000, true);
        x.join(0, 1);
        return x;
    }

    static void promise19_theSectionIsFrom0ToTheLastOne() {
        asks("leastChill(0)", Castings::full, x -> x.leastChill(0) == BAD_INDEX ? 1 : 0, 0);
        asks("leastChill(11)", Castings::full, x -> x.leastChill(11) == BAD_INDEX ? 1 : 0, 0);
        for (int bad : NO_SECTIONS) {
            asks("leastChill(" + bad + ")", Castings::full, x -> x.leastChill(bad), BAD_INDEX);
        }
        asks("leastChill(2) of two", () -> beside(600, 100), x -> x.leastChill(2), BAD_INDEX);
        asks("leastChill(0) of none", Castings::empty, x -> x.leastChill(0), BAD_INDEX);
    }

    static void promise19_theChillIsFrom0To500() {
        // Volume / (100 + chill) is 1 for the chill: of equal moduli, 0 freezes before 1.
        for (int chill : new int[] {0, 1, 2, 250, 499, 500}) {
            asks("leastChill(0) for " + chill, () -> beside(100 + chill, 100), x -> x.leastChill(0), chill);
        }
        asks("leastChill(0) for 501", () -> beside(601, 100), x -> x.leastChill(0), NONE);
    }

    static void promise19_theChillThatItHasDoesNotCount() {
        for (int has : new int[] {0, 1, 299, 300, 301, 500}) {
            CastingFeeder x = beside(400, 100);
            x.setChill(0, has);
            due("leastChill(0) with the chill " + has, x.leastChill(0), 300);
            due("the chill stays", x.section(0, 2), has);
        }
        CastingFeeder x = beside(100, 100);
        x.setChill(0, 500);
        due("leastChill(0) when it is sound with 0", x.leastChill(0), 0);
    }

    static void promise19_theLeastOneAlsoIfAGreaterOneDoesNotDo() {
        CastingFeeder x = one(300, 100, false);
        x.addSection(200, 100, true);
        x.addSection(100, 100, false);
        x.join(0, 1);
        x.join(0, 2);
        x.setMetal(50, 150);
        // 0 must freeze before 1, from 50 on, and after 2, up to 199.
        due("leastChill(0)", x.leastChill(0), 50);
        due("excessWith(0, 500)", x.excessWith(0, 500), 5);
    }

    static void promise19_noneIfThereIsNone() {
        asks("leastChill(0)", Castings::star, x -> x.leastChill(0), NONE);
        asks("leastChill(2)", Castings::star, x -> x.leastChill(2), NONE);
    }

    static void promise19_alsoWith12SectionsAnd20Joints() {
        CastingFeeder x = Castings.full();
        x.setMetal(47, 140);
        due("leastChill(0) of a sound casting", x.leastChill(0), 0);
        due("leastChill(11) of a sound casting", x.leastChill(11), 0);
        x.setMetal(48, 140);
        due("leastChill(11) of one that is not", x.leastChill(11), NONE);
    }

    static void promise19_theLastSectionAndTheLastJointCount() {
        Castings.Making making = EdgesOfAnswersTests::fedByTheLastJoint;
        due("count(1)", making.make().count(1), 20);
        due("count(9)", making.make().count(9), 1);
        for (int i = 0; i < 12; i++) {
            due("leastChill(" + i + ")", making.make().leastChill(i), 0);
        }
        // 21 / 10 freezes after 4000 / 2000; with the chill 1 it does not.
        CastingFeeder x = making.make();
        x.resize(10, 21, 10);
        due("leastChill(10)", x.leastChill(10), 1);
        due("excessWith(10, 0)", x.excessWith(10, 0), 201);
        due("excessWith(10, 1)", x.excessWith(10, 1), 0);
        due("leastChill(11)", x.leastChill(11), NONE);
    }

    // ---- promise 20

    static void promise20_theSectionIsFrom0ToTheLastOne() {
        asks("excessWith(0, 9)", () -> largest(false), x -> x.excessWith(0, 9), 12000);
        asks("excessWith(11, 9)", () -> largest(false), x -> x.excessWith(11, 9), 12000);
        for (int bad : NO_SECTIONS) {
            asks("excessWith(" + bad + ", 9)", () -> largest(false), x -> x.excessWith(bad, 9), BAD_INDEX);
        }
        asks("excessWith(2, 9) of two", () -> beside(600, 100), x -> x.excessWith(2, 9), BAD_INDEX);
    }

    static void promise20_theChillIsFrom0To500() {
        asks("excessWith(0, 0)", () -> beside(600, 100), x -> x.excessWith(0, 0), 230);
        asks("excessWith(0, 499)", () -> beside(600, 100), x -> x.excessWith(0, 499), 230);
        asks("excessWith(0, 500)", () -> beside(600, 100), x -> x.excessWith(0, 500), 0);
        for (int bad : new int[] {-1, 501, -500, 502, LEAST, MOST}) {
            asks("excessWith(0, " + bad + ")", () -> beside(600, 100), x -> x.excessWith(0, bad), BAD_VALUE);
        }
    }

    static void promise20_badIndexComesBeforeBadValue() {
        asks("excessWith(2, 501)", () -> beside(600, 100), x -> x.excessWith(2, 501), BAD_INDEX);
        asks("excessWith(-1, -1)", () -> beside(600, 100), x -> x.excessWith(-1, -1), BAD_INDEX);
        asks("excessWith(0, 501) of none", Castings::empty, x -> x.excessWith(0, 501), BAD_INDEX);
    }

    static void promise20_theOtherChillTakesThePlaceOfTheOldOne() {
        CastingFeeder x = beside(600, 100);
        x.setChill(0, 500);
        due("count(7)", x.count(7), 0);
        due("excessWith(0, 500)", x.excessWith(0, 500), 0);
        due("excessWith(0, 499)", x.excessWith(0, 499), 230);
        due("excessWith(0, 0)", x.excessWith(0, 0), 230);
        due("excessWith(1, 0)", x.excessWith(1, 0), 0);
        due("count(7) after them", x.count(7), 0);
    }

    // ---- promise 26

    /** The hash by numbers of any length, cut to 64 bits at the end alone. */
    private static long hash(CastingFeeder x) {
        BigInteger h = BigInteger.valueOf(17);
        BigInteger by = BigInteger.valueOf(31);
        for (int what = 0; what <= 9; what++) {
            h = h.multiply(by).add(BigInteger.valueOf(x.count(what)));
        }
        for (int i = 0; i < x.count(0); i++) {
            for (int what = 0; what <= 10; what++) {
                h = h.multiply(by).add(BigInteger.valueOf(x.section(i, what)));
            }
        }
        for (int i = 0; i < x.count(1); i++) {
            h = h.multiply(by).add(BigInteger.valueOf(x.joint(i, 0)));
            h = h.multiply(by).add(BigInteger.valueOf(x.joint(i, 1)));
        }
        return h.longValue();
    }

    static void promise26_theEmptyCasting() {
        due("digest()", new CastingFeeder().digest(), hash(new CastingFeeder()));
    }

    static void promise26_longArithmeticWithOverflow() {
        Castings.Making[] all = {Castings::full, Castings::star, Castings::chain, EdgesOfAnswersTests::longWay,
            () -> largest(false), () -> largest(true), () -> one(1, 1, true)};
        for (Castings.Making making : all) {
            asks("digest()", making, CastingFeeder::digest, hash(making.make()));
        }
    }

    static void promise26_eachNumberOfTheStateCounts() {
        long before = Castings.full().digest();
        Castings.Call[] changes = {x -> x.resize(11, 22, 10), x -> x.resize(11, 21, 11), x -> x.setChill(11, 1),
            x -> x.part(19), x -> x.setMetal(51, 140), x -> x.setMetal(50, 141), x -> x.removeSection(11)};
        for (int i = 0; i < changes.length; i++) {
            CastingFeeder x = Castings.full();
            changes[i].on(x);
            Checks.holds("digest() after the change " + i, x.digest() != before);
        }
    }

    static void promise26_textAndHistoryDoNotCount() {
        CastingFeeder x = Castings.full();
        long before = x.digest();
        x.clearText();
        due("digest() without a text", x.digest(), before);
        x.setMetal(50, 140);
        due("digest() with another history", x.digest(), before);
    }
}

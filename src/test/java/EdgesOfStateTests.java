/**
 * Promises 1 to 8 and 21, the calls that change the state: each sentence of the document that names a
 * boundary, in a test of its own. Every method whose name begins with "promise" is run.
 */
public final class EdgesOfStateTests {
    private static final int NONE = CastingFeeder.NONE;
    private static final int BAD_INDEX = CastingFeeder.BAD_INDEX;
    private static final int BAD_VALUE = CastingFeeder.BAD_VALUE;
    private static final int BAD_STATE = CastingFeeder.BAD_STATE;
    private static final int FULL = CastingFeeder.FULL;
    private static final int LEAST = Integer.MIN_VALUE, MOST = Integer.MAX_VALUE;
    /** No volume and no area: beyond 1 to 5000. */
    private static final int[] NO_SIZES = {0, 5001, -1, -5000, 5002, 65537, LEAST, LEAST + 1, MOST};
    private static final int[] NO_CHILLS = {-1, 501, -500, 502, 65536, LEAST, MOST};

    private EdgesOfStateTests() {
    }

    public static void main(String[] args) throws IllegalAccessException {
        Checks.runPromises(EdgesOfStateTests.class);
        Checks.end();
    }

    private static void due(String call, long got, long want) {
        Checks.due(call, got, want);
    }

    private static void refused(String call, Castings.Making making, Castings.Call on, long want) {
        Checks.holds("the answer due is an error", want <= BAD_INDEX && want >= FULL);
        Castings.changesNothing(call, making, on, want);
    }

    private static CastingFeeder two() {
        return Castings.withSections(2);
    }

    // ---- promise 1

    static void promise1_countsOfANewObject() {
        int[] numbers = {0, 0, 50, 140, 0, 0, 0, 0, 0, 1};
        for (int what = 0; what < numbers.length; what++) {
            due("count(" + what + ")", new CastingFeeder().count(what), numbers[what]);
        }
    }

    static void promise1_noSectionsAndNoJoints() {
        CastingFeeder x = new CastingFeeder();
        due("section(0, 0)", x.section(0, 0), BAD_INDEX);
        due("modulus(0, true)", x.modulus(0, true), BAD_INDEX);
        due("joint(0, 0)", x.joint(0, 0), BAD_INDEX);
        due("atStep(0)", x.atStep(0), NONE);
        due("way(0, 0)", x.way(0, 0), BAD_INDEX);
        due("end(0)", x.end(0), BAD_INDEX);
        due("gathers(0)", x.gathers(0), BAD_INDEX);
        due("leastFeeder(0)", x.leastFeeder(0), BAD_INDEX);
        due("bestFeeder()", x.bestFeeder(), NONE);
        due("leastChill(0)", x.leastChill(0), BAD_INDEX);
        due("excessWith(0, 0)", x.excessWith(0, 0), BAD_INDEX);
        refused("resize(0, 1, 1)", Castings::empty, y -> y.resize(0, 1, 1), BAD_INDEX);
        refused("setChill(0, 0)", Castings::empty, y -> y.setChill(0, 0), BAD_INDEX);
        refused("removeSection(0)", Castings::empty, y -> y.removeSection(0), BAD_INDEX);
        refused("join(0, 1)", Castings::empty, y -> y.join(0, 1), BAD_INDEX);
        refused("part(0)", Castings::empty, y -> y.part(0), BAD_INDEX);
    }

    static void promise1_anEmptyTextAndNoHistory() {
        CastingFeeder x = new CastingFeeder();
        due("textFault()", x.textFault(), 0);
        due("load()", x.load(), BAD_STATE);
        due("clearText()", x.clearText(), 0);
        due("undo()", x.undo(), BAD_STATE);
        due("type(99), the first byte", x.type(99), 1);
    }

    static void promise1_aFurtherObjectIsNew() {
        Castings.full().setMetal(1, 2);
        CastingFeeder one = new CastingFeeder();
        CastingFeeder other = new CastingFeeder();
        one.addSection(10, 10, true);
        one.setMetal(3, 4);
        one.type(99);
        due("count(0) of the other", other.count(0), 0);
        due("count(2) of the other", other.count(2), 50);
        due("count(3) of the other", other.count(3), 140);
        due("clearText() of the other", other.clearText(), 0);
        due("undo() of the other", other.undo(), BAD_STATE);
        due("count(0) of the one", one.count(0), 1);
    }

    // ---- promise 2

    static void promise2_volumeIsFrom1To5000() {
        Castings.recorded("addSection(1, 10, false)", Castings::empty, x -> x.addSection(1, 10, false), 0);
        Castings.recorded("addSection(5000, 10, false)", Castings::empty, x -> x.addSection(5000, 10, false), 0);
        for (int bad : NO_SIZES) {
            refused("addSection(" + bad + ", 10, false)", Castings::empty, x -> x.addSection(bad, 10, false), BAD_VALUE);
            refused("addSection(" + bad + ", 10, true)", Castings::star, x -> x.addSection(bad, 10, true), BAD_VALUE);
        }
    }

    static void promise2_areaIsFrom1To5000() {
        Castings.recorded("addSection(10, 1, true)", Castings::empty, x -> x.addSection(10, 1, true), 0);
        Castings.recorded("addSection(10, 5000, true)", Castings::empty, x -> x.addSection(10, 5000, true), 0);
        for (int bad : NO_SIZES) {
            refused("addSection(10, " + bad + ", false)", Castings::empty, x -> x.addSection(10, bad, false), BAD_VALUE);
            refused("addSection(10, " + bad + ", true)", Castings::star, x -> x.addSection(10, bad, true), BAD_VALUE);
        }
    }

    static void promise2_thereAreAtMost12Sections() {
        Castings.Making eleven = () -> Castings.withSections(11);
        Castings.Making twelve = () -> Castings.withSections(12);
        Castings.recorded("the twelfth addSection", eleven, x -> x.addSection(1, 1, true), 11);
        refused("the thirteenth addSection", twelve, x -> x.addSection(1, 1, true), FULL);
        refused("addSection when all is full", Castings::full, x -> x.addSection(5000, 5000, false), FULL);
        CastingFeeder x = twelve.make();
        x.removeSection(0);
        due("addSection when there is room again", x.addSection(1, 1, true), 11);
        due("addSection when there is none again", x.addSection(1, 1, true), FULL);
    }

    static void promise2_badValueComesBeforeFull() {
        refused("addSection(0, 1, false)", Castings::full, x -> x.addSection(0, 1, false), BAD_VALUE);
        refused("addSection(1, 5001, false)", Castings::full, x -> x.addSection(1, 5001, false), BAD_VALUE);
    }

    static void promise2_aNewSectionHasNoChillAndNoJoint() {
        CastingFeeder x = Castings.full();
        x.setChill(11, 500);
        x.removeSection(11);
        due("addSection(7, 8, false)", x.addSection(7, 8, false), 11);
        int[] properties = {7, 8, 0, 0};
        for (int what = 0; what < properties.length; what++) {
            due("section(11, " + what + ")", x.section(11, what), properties[what]);
        }
        due("neighbours of 11", x.section(11, 10), 0);
    }

    // ---- promise 3

    static void promise3_theSectionIsFrom0ToTheLastOne() {
        Castings.recorded("resize(0, 9, 9)", Castings::full, x -> x.resize(0, 9, 9), 10);
        Castings.recorded("resize(11, 9, 9)", Castings::full, x -> x.resize(11, 9, 9), 21);
        for (int bad : new int[] {-1, 12, -2, 20, LEAST, MOST}) {
            refused("resize(" + bad + ", 9, 9)", Castings::full, x -> x.resize(bad, 9, 9), BAD_INDEX);
        }
        Castings.recorded("resize(1, 9, 9) of two", EdgesOfStateTests::two, x -> x.resize(1, 9, 9), 11);
        refused("resize(2, 9, 9) of two", EdgesOfStateTests::two, x -> x.resize(2, 9, 9), BAD_INDEX);
    }

    static void promise3_volumeIsFrom1To5000() {
        Castings.recorded("resize(0, 1, 9)", Castings::star, x -> x.resize(0, 1, 9), 400);
        Castings.recorded("resize(0, 5000, 9)", Castings::star, x -> x.resize(0, 5000, 9), 400);
        for (int bad : NO_SIZES) {
            refused("resize(0, " + bad + ", 9)", Castings::star, x -> x.resize(0, bad, 9), BAD_VALUE);
        }
    }

    static void promise3_areaIsFrom1To5000() {
        Castings.recorded("resize(0, 9, 1)", Castings::star, x -> x.resize(0, 9, 1), 400);
        Castings.recorded("resize(0, 9, 5000)", Castings::star, x -> x.resize(0, 9, 5000), 400);
        for (int bad : NO_SIZES) {
            refused("resize(0, 9, " + bad + ")", Castings::star, x -> x.resize(0, 9, bad), BAD_VALUE);
        }
    }

    static void promise3_badIndexComesBeforeBadValue() {
        refused("resize(3, 0, 9)", Castings::star, x -> x.resize(3, 0, 9), BAD_INDEX);
        refused("resize(-1, 9, 5001)", Castings::star, x -> x.resize(-1, 9, 5001), BAD_INDEX);
        refused("resize(0, 0, 0) of none", Castings::empty, x -> x.resize(0, 0, 0), BAD_INDEX);
    }

    static void promise3_itIsRecordedEvenIfItChangesNothing() {
        Castings.recorded("resize(0, 400, 400)", Castings::star, x -> x.resize(0, 400, 400), 400);
    }

    static void promise3_theRestOfTheSectionStays() {
        CastingFeeder x = Castings.chain();
        x.setChill(3, 500);
        due("resize(3, 5000, 5000)", x.resize(3, 5000, 5000), 400);
        int[] properties = {5000, 5000, 500, 1};
        for (int what = 0; what < properties.length; what++) {
            due("section(3, " + what + ")", x.section(3, what), properties[what]);
        }
        due("neighbours of 3", x.section(3, 10), 1);
        due("resize(3, 1, 1)", x.resize(3, 1, 1), 5000);
    }

    static void promise3_theCastingFreezesAnew() {
        CastingFeeder x = Castings.star();
        due("resize(0, 2000, 1000)", x.resize(0, 2000, 1000), 400);
        due("atStep(2), of equal moduli the higher number", x.atStep(2), 2);
        due("resize(0, 2001, 1000)", x.resize(0, 2001, 1000), 2000);
        due("atStep(2), the larger modulus", x.atStep(2), 0);
        due("the need of 0", x.section(0, 5), 100 + 50 + 10);
        due("resize(0, 2001, 1001)", x.resize(0, 2001, 1001), 2001);
        due("atStep(2), the smaller modulus again", x.atStep(2), 2);
    }

    // ---- promise 4

    static void promise4_theSectionIsFrom0ToTheLastOne() {
        Castings.recorded("setChill(0, 9)", Castings::full, x -> x.setChill(0, 9), 0);
        Castings.recorded("setChill(11, 9)", Castings::full, x -> x.setChill(11, 9), 0);
        for (int bad : new int[] {-1, 12, -2, 20, LEAST, MOST}) {
            refused("setChill(" + bad + ", 9)", Castings::full, x -> x.setChill(bad, 9), BAD_INDEX);
        }
        Castings.recorded("setChill(1, 9) of two", EdgesOfStateTests::two, x -> x.setChill(1, 9), 0);
        refused("setChill(2, 9) of two", EdgesOfStateTests::two, x -> x.setChill(2, 9), BAD_INDEX);
    }

    static void promise4_chillIsFrom0To500() {
        Castings.recorded("setChill(2, 0)", Castings::star, x -> x.setChill(2, 0), 0);
        Castings.recorded("setChill(2, 500)", Castings::star, x -> x.setChill(2, 500), 0);
        for (int bad : NO_CHILLS) {
            refused("setChill(2, " + bad + ")", Castings::star, x -> x.setChill(2, bad), BAD_VALUE);
        }
        CastingFeeder x = Castings.star();
        x.setChill(2, 500);
        due("section(2, 2)", x.section(2, 2), 500);
        due("setChill(2, 0), from 500", x.setChill(2, 0), 500);
        due("section(2, 2) again", x.section(2, 2), 0);
    }

    static void promise4_badIndexComesBeforeBadValue() {
        refused("setChill(3, 501)", Castings::star, x -> x.setChill(3, 501), BAD_INDEX);
        refused("setChill(-1, -1)", Castings::star, x -> x.setChill(-1, -1), BAD_INDEX);
    }

    static void promise4_itIsRecordedEvenIfItChangesNothing() {
        Castings.recorded("setChill(1, 0)", Castings::star, x -> x.setChill(1, 0), 0);
    }

    // ---- promise 5

    static void promise5_theSectionIsFrom0ToTheLastOne() {
        Castings.recorded("removeSection(0)", Castings::full, x -> x.removeSection(0), 11);
        Castings.recorded("removeSection(11)", Castings::full, x -> x.removeSection(11), 11);
        for (int bad : new int[] {-1, 12, -2, 20, LEAST, MOST}) {
            refused("removeSection(" + bad + ")", Castings::full, x -> x.removeSection(bad), BAD_INDEX);
        }
        Castings.recorded("removeSection(1) of two", EdgesOfStateTests::two, x -> x.removeSection(1), 1);
        refused("removeSection(2) of two", EdgesOfStateTests::two, x -> x.removeSection(2), BAD_INDEX);
    }

    static void promise5_theOnlySection() {
        Castings.Making one = () -> Castings.withSections(1);
        Castings.recorded("removeSection(0) of one", one, x -> x.removeSection(0), 0);
        CastingFeeder x = one.make();
        x.removeSection(0);
        due("digest() without sections", x.digest(), new CastingFeeder().digest());
        due("removeSection(0) of none", x.removeSection(0), BAD_INDEX);
    }

    static void promise5_allJointsOfTheSectionGo() {
        CastingFeeder x = Castings.withSections(12);
        x.join(10, 11);
        for (int i = 0; i < 12; i++) {
            x.join(i % 2 == 0 ? 5 : i, i % 2 == 0 ? i : 5);
        }
        x.join(0, 1);
        due("neighbours of 5", x.section(5, 10), 11);
        due("joints", x.count(1), 13);
        due("removeSection(5)", x.removeSection(5), 11);
        due("joints that are left", x.count(1), 2);
        int[] ends = {x.joint(0, 0), x.joint(0, 1), x.joint(1, 0), x.joint(1, 1)};
        int[] wanted = {9, 10, 0, 1};
        for (int i = 0; i < ends.length; i++) {
            due("end " + i + " of the joints", ends[i], wanted[i]);
        }
    }

    static void promise5_theFirstAndTheLastJointGoToo() {
        CastingFeeder x = Castings.withSections(4);
        x.join(3, 0);
        x.join(1, 2);
        x.join(0, 3);
        x.join(2, 3);
        due("removeSection(3)", x.removeSection(3), 3);
        due("joints that are left", x.count(1), 1);
        due("joint(0, 0)", x.joint(0, 0), 1);
        due("joint(0, 1)", x.joint(0, 1), 2);
        due("removeSection(1)", x.removeSection(1), 2);
        due("no joint is left", x.count(1), 0);
        due("joint(0, 0) of none", x.joint(0, 0), BAD_INDEX);
    }

    static void promise5_eachFollowingSectionMovesWithAllThatItHas() {
        for (int gone = 0; gone < 12; gone++) {
            CastingFeeder x = new CastingFeeder();
            for (int i = 0; i < 12; i++) {
                x.addSection(100 + i, 200 + 2 * i, i % 3 == 0);
                x.setChill(i, 300 + 3 * i);
            }
            x.removeSection(gone);
            for (int i = 0; i < 11; i++) {
                int was = i < gone ? i : i + 1;
                int[] properties = {100 + was, 200 + 2 * was, 300 + 3 * was, was % 3 == 0 ? 1 : 0};
                for (int what = 0; what < properties.length; what++) {
                    due("without " + gone + ": section(" + i + ", " + what + ")", x.section(i, what), properties[what]);
                }
            }
        }
    }

    static void promise5_theFirstOneOfTwelve() {
        CastingFeeder x = Castings.full();
        x.setChill(11, 500);
        x.removeSection(0);
        // The joints 0=1 to 0=11 are gone, 1=2 to 1=10 are left.
        due("joints that are left", x.count(1), 9);
        for (int i = 0; i < 9; i++) {
            due("joint(" + i + ", 0)", x.joint(i, 0), 0);
            due("joint(" + i + ", 1)", x.joint(i, 1), i + 1);
        }
        for (int i = 0; i < 11; i++) {
            due("section(" + i + ", 0)", x.section(i, 0), 11 + i);
        }
        due("the chill of the last one", x.section(10, 2), 500);
        due("section(11, 0)", x.section(11, 0), BAD_INDEX);
    }

    static void promise5_theLastOneOfTwelve() {
        CastingFeeder x = Castings.full();
        x.removeSection(11);
        // Just the joint 0=11 is gone.
        due("joints that are left", x.count(1), 19);
        for (int i = 0; i < 19; i++) {
            due("joint(" + i + ", 0)", x.joint(i, 0), i < 10 ? 0 : 1);
            due("joint(" + i + ", 1)", x.joint(i, 1), i < 10 ? i + 1 : i - 8);
        }
        for (int i = 0; i < 11; i++) {
            due("section(" + i + ", 0)", x.section(i, 0), 10 + i);
        }
    }

    static void promise5_theCastingFreezesAnew() {
        CastingFeeder x = Castings.star();
        x.removeSection(1);
        // 400 / 400 and 1000 / 500 are left, with the needs 20 and 50.
        due("atStep(0)", x.atStep(0), 0);
        due("atStep(1)", x.atStep(1), 1);
        due("atStep(2)", x.atStep(2), NONE);
        due("section(0, 8)", x.section(0, 8), 1);
        due("section(1, 5)", x.section(1, 5), 70);
        due("count(5)", x.count(5), 1);
        x.removeSection(1);
        due("section(0, 8) when its source is gone", x.section(0, 8), NONE);
        due("section(0, 6) when its source is gone", x.section(0, 6), 20);
        due("end(0)", x.end(0), 0);
        x.removeSection(0);
        due("count(5) of none", x.count(5), 0);
        due("count(6) of none", x.count(6), 0);
    }

    // ---- promise 6

    static void promise6_bothSectionsAreFrom0ToTheLastOne() {
        Castings.Making twelve = () -> Castings.withSections(12);
        Castings.recorded("join(0, 11)", twelve, x -> x.join(0, 11), 0);
        Castings.recorded("join(11, 0)", twelve, x -> x.join(11, 0), 0);
        for (int bad : new int[] {-1, 12, -2, 20, LEAST, MOST}) {
            refused("join(" + bad + ", 0)", twelve, x -> x.join(bad, 0), BAD_INDEX);
            refused("join(0, " + bad + ")", twelve, x -> x.join(0, bad), BAD_INDEX);
        }
        Castings.recorded("join(1, 0) of two", EdgesOfStateTests::two, x -> x.join(1, 0), 0);
        refused("join(2, 0) of two", EdgesOfStateTests::two, x -> x.join(2, 0), BAD_INDEX);
        refused("join(0, 2) of two", EdgesOfStateTests::two, x -> x.join(0, 2), BAD_INDEX);
    }

    static void promise6_noSectionIsJoinedToItself() {
        for (int i = 0; i < 12; i++) {
            int same = i;
            refused("join(" + i + ", " + i + ")", () -> Castings.withSections(12), x -> x.join(same, same), BAD_STATE);
        }
    }

    static void promise6_thereIsAtMostOneJointForTheSameTwo() {
        refused("join(0, 2), as it was told", Castings::star, x -> x.join(0, 2), BAD_STATE);
        refused("join(2, 0), turned", Castings::star, x -> x.join(2, 0), BAD_STATE);
        refused("join(2, 1), the last joint, turned", Castings::star, x -> x.join(2, 1), BAD_STATE);
        Castings.recorded("join(1, 0), with one neighbour in common", Castings::star, x -> x.join(1, 0), 2);
        CastingFeeder x = Castings.star();
        x.part(0);
        due("join(2, 0), when they are parted", x.join(2, 0), 1);
    }

    static void promise6_thereAreAtMost20Joints() {
        Castings.Making nineteen = () -> Castings.withJoints(12, 19);
        Castings.Making twenty = () -> Castings.withJoints(12, 20);
        Castings.recorded("the twentieth join", nineteen, x -> x.join(10, 11), 19);
        refused("one join more", twenty, x -> x.join(10, 11), FULL);
        refused("join when all is full", Castings::full, x -> x.join(11, 10), FULL);
        CastingFeeder x = twenty.make();
        x.part(19);
        due("join when there is room again", x.join(10, 11), 19);
        due("join when there is none again", x.join(9, 11), FULL);
    }

    static void promise6_badIndexComesBeforeBadState() {
        refused("join(3, 3)", Castings::star, x -> x.join(3, 3), BAD_INDEX);
        refused("join(-1, -1)", Castings::star, x -> x.join(-1, -1), BAD_INDEX);
        refused("join(0, 0) of none", Castings::empty, x -> x.join(0, 0), BAD_INDEX);
    }

    static void promise6_badIndexComesBeforeFull() {
        refused("join(12, 11)", Castings::full, x -> x.join(12, 11), BAD_INDEX);
        refused("join(11, -1)", Castings::full, x -> x.join(11, -1), BAD_INDEX);
        refused("join(12, 12)", Castings::full, x -> x.join(12, 12), BAD_INDEX);
    }

    static void promise6_badStateComesBeforeFull() {
        refused("join(11, 11)", Castings::full, x -> x.join(11, 11), BAD_STATE);
        refused("join(0, 1)", Castings::full, x -> x.join(0, 1), BAD_STATE);
        refused("join(10, 1), the last joint, turned", Castings::full, x -> x.join(10, 1), BAD_STATE);
    }

    // ---- promise 7

    static void promise7_theJointIsFrom0ToTheLastOne() {
        Castings.recorded("part(0)", Castings::full, x -> x.part(0), 19);
        Castings.recorded("part(19)", Castings::full, x -> x.part(19), 19);
        for (int bad : new int[] {-1, 20, -2, 21, LEAST, MOST}) {
            refused("part(" + bad + ")", Castings::full, x -> x.part(bad), BAD_INDEX);
        }
        Castings.recorded("part(1) of two", Castings::star, x -> x.part(1), 1);
        refused("part(2) of two", Castings::star, x -> x.part(2), BAD_INDEX);
        refused("part(0) of none", EdgesOfStateTests::two, x -> x.part(0), BAD_INDEX);
    }

    static void promise7_theFollowingOnesDecreaseBy1() {
        CastingFeeder x = Castings.full();
        x.part(0);
        for (int i = 0; i < 19; i++) {
            due("after part(0): joint(" + i + ", 0)", x.joint(i, 0), i < 10 ? 0 : 1);
            due("after part(0): joint(" + i + ", 1)", x.joint(i, 1), i < 10 ? i + 2 : i - 8);
        }
        CastingFeeder y = Castings.full();
        y.part(19);
        for (int i = 0; i < 19; i++) {
            due("after part(19): joint(" + i + ", 0)", y.joint(i, 0), i < 11 ? 0 : 1);
            due("after part(19): joint(" + i + ", 1)", y.joint(i, 1), i < 11 ? i + 1 : i - 9);
        }
        due("after part(19): joint(19, 0)", y.joint(19, 0), BAD_INDEX);
    }

    static void promise7_theCastingFreezesAnew() {
        CastingFeeder x = Castings.star();
        due("end(1) before it", x.end(1), 2);
        x.part(1);
        due("end(1)", x.end(1), 1);
        due("pores of 1", x.section(1, 6), 10);
        due("pores of 2", x.section(2, 6), 70);
        x.join(1, 2);
        due("end(1) when they are joined again", x.end(1), 2);
        due("pores of 1 when they are joined again", x.section(1, 6), 0);
        due("pores of 2 when they are joined again", x.section(2, 6), 80);
    }

    static void promise7_theOnlyJoint() {
        CastingFeeder x = two();
        x.join(1, 0);
        due("part(0)", x.part(0), 0);
        due("part(0) again", x.part(0), BAD_INDEX);
        due("digest() without joints", x.digest(), two().digest());
    }

    // ---- promise 8

    static void promise8_shrinkageIsFrom0To200() {
        Castings.recorded("setMetal(0, 9)", Castings::star, x -> x.setMetal(0, 9), 50);
        Castings.recorded("setMetal(200, 9)", Castings::star, x -> x.setMetal(200, 9), 50);
        for (int bad : new int[] {-1, 201, -200, 202, LEAST, MOST}) {
            refused("setMetal(" + bad + ", 9)", Castings::star, x -> x.setMetal(bad, 9), BAD_VALUE);
        }
    }

    static void promise8_pipingIsFrom0To500() {
        Castings.recorded("setMetal(9, 0)", Castings::star, x -> x.setMetal(9, 0), 50);
        Castings.recorded("setMetal(9, 500)", Castings::star, x -> x.setMetal(9, 500), 50);
        for (int bad : new int[] {-1, 501, -500, 502, LEAST, MOST}) {
            refused("setMetal(9, " + bad + ")", Castings::star, x -> x.setMetal(9, bad), BAD_VALUE);
        }
    }

    static void promise8_theShrinkageIsReturnedNotThePiping() {
        CastingFeeder x = new CastingFeeder();
        due("setMetal(200, 500) of a new object", x.setMetal(200, 500), 50);
        due("setMetal(0, 0)", x.setMetal(0, 0), 200);
        due("setMetal(1, 2)", x.setMetal(1, 2), 0);
        due("count(2)", x.count(2), 1);
        due("count(3)", x.count(3), 2);
    }

    static void promise8_itIsRecordedEvenIfItChangesNothing() {
        Castings.recorded("setMetal(50, 140)", Castings::empty, x -> x.setMetal(50, 140), 50);
        Castings.recorded("setMetal(50, 140)", Castings::full, x -> x.setMetal(50, 140), 50);
    }

    // ---- promise 21

    static void promise21_anEmptyHistory() {
        refused("undo() of a new object", Castings::empty, CastingFeeder::undo, BAD_STATE);
        CastingFeeder x = Castings.full();
        for (int i = 4; i >= 0; i--) {
            due("undo()", x.undo(), i);
        }
        long before = x.digest();
        for (int i = 0; i < 3; i++) {
            due("undo() of an empty history", x.undo(), BAD_STATE);
            due("digest() after it", x.digest(), before);
        }
        due("the text stays", x.clearText(), 120);
    }

    static void promise21_atMost5StatesAreKept() {
        for (int calls = 0; calls <= 12; calls++) {
            CastingFeeder x = Castings.withSections(calls);
            int kept = Math.min(calls, 5);
            for (int i = kept - 1; i >= 0; i--) {
                due("undo() after " + calls + " calls", x.undo(), i);
                due("sections after it", x.count(0), calls - kept + i);
            }
            due("one undo() more after " + calls + " calls", x.undo(), BAD_STATE);
            due("sections after it", x.count(0), calls - kept);
        }
    }

    static void promise21_theOldestOneIsDroppedAgainAfterUndo() {
        CastingFeeder x = new CastingFeeder();
        for (int i = 1; i <= 7; i++) {
            x.setMetal(i, 0);
        }
        due("undo()", x.undo(), 4);
        due("undo()", x.undo(), 3);
        for (int i = 101; i <= 103; i++) {
            x.setMetal(i, 0);
        }
        // Kept are 3, 4, 5, 101, 102; the state with 2 was dropped by the third call.
        int[] shrinkages = {102, 101, 5, 4, 3};
        for (int i = 0; i < 5; i++) {
            due("undo() " + i, x.undo(), 4 - i);
            due("the shrinkage after it", x.count(2), shrinkages[i]);
        }
        due("undo() of an empty history", x.undo(), BAD_STATE);
    }

    static void promise21_undoItselfIsNotRecorded() {
        CastingFeeder x = two();
        due("undo()", x.undo(), 1);
        due("sections", x.count(0), 1);
        due("undo() again", x.undo(), 0);
        due("no sections", x.count(0), 0);
    }

    static void promise21_theWholeStateIsRestored() {
        CastingFeeder x = Castings.full();
        x.setChill(11, 500);
        x.setMetal(200, 500);
        long before = x.digest();
        x.removeSection(0);
        x.removeSection(0);
        x.removeSection(9);
        x.setMetal(0, 0);
        x.addSection(5000, 1, true);
        for (int i = 4; i >= 0; i--) {
            due("undo()", x.undo(), i);
        }
        due("digest()", x.digest(), before);
        due("the last section", x.section(11, 0), 21);
        due("its chill", x.section(11, 2), 500);
        due("the last joint", x.joint(19, 1), 10);
    }

    static void promise21_theLastJointAndTheLastSectionAreRestored() {
        CastingFeeder x = Castings.withJoints(12, 20);
        x.resize(11, 21, 12);
        long before = x.digest();
        x.part(19);
        x.join(11, 10);
        x.removeSection(11);
        x.addSection(3, 4, true);
        x.setChill(11, 5);
        for (int i = 4; i >= 0; i--) {
            due("undo()", x.undo(), i);
        }
        due("digest()", x.digest(), before);
        due("joint(19, 0)", x.joint(19, 0), 1);
        due("joint(19, 1)", x.joint(19, 1), 10);
        int[] properties = {21, 12, 0, 0};
        for (int what = 0; what < properties.length; what++) {
            due("section(11, " + what + ")", x.section(11, what), properties[what]);
        }
    }

    static void promise21_theCastingFreezesAnew() {
        CastingFeeder x = Castings.star();
        x.resize(0, 5000, 1);
        due("atStep(2)", x.atStep(2), 0);
        x.undo();
        due("atStep(2) after undo()", x.atStep(2), 2);
        due("the need of 2 after undo()", x.section(2, 5), 80);
    }

    static void promise21_theTextIsNotRestored() {
        CastingFeeder x = Castings.typed(two(), "0=1");
        x.load();
        x.clearText();
        x.type('c');
        due("undo() of load()", x.undo(), 2);
        due("textFault() of c", x.textFault(), 1);
        due("clearText()", x.clearText(), 1);
        due("undo()", x.undo(), 1);
        due("the text stays empty", x.clearText(), 0);
    }

    static void promise21_typeAndClearTextAreNotRecorded() {
        Castings.Making five = () -> Castings.withSections(5);
        CastingFeeder x = five.make();
        x.type('c');
        x.clearText();
        x.clearText();
        due("undo()", x.undo(), 4);
        due("sections", x.count(0), 4);
    }
}

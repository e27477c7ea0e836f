/** Each promise of the document by itself, with answers that were worked out by hand. */
public final class PromiseTests {
    private static final int NONE = CastingFeeder.NONE;
    private static final int BAD_INDEX = CastingFeeder.BAD_INDEX;
    private static final int BAD_VALUE = CastingFeeder.BAD_VALUE;
    private static final int BAD_STATE = CastingFeeder.BAD_STATE;
    private static final int FULL = CastingFeeder.FULL;

    private PromiseTests() {
    }

    public static void main(String[] args) {
        constants();
        promise1newObject();
        promise2addSection();
        promise3resize();
        promise4setChill();
        promise5removeSection();
        promise6join();
        promise7part();
        promise8setMetal();
        promise9count();
        promise10section();
        promise11modulus();
        promise12joint();
        promise13atStep();
        promise14way();
        promise15end();
        promise16gathers();
        promise17leastFeeder();
        promise18bestFeeder();
        promise19leastChill();
        promise20excessWith();
        promise21undo();
        promise22type();
        promise23clearText();
        promise24textFault();
        promise24faultsOfNumbers();
        promise24faultsOfRoom();
        promise25load();
        promise26digest();
        errorsChangeNothing();
        Checks.end();
    }

    private static void due(String call, long got, long want) {
        Checks.due(call, got, want);
    }

    private static void fault(CastingFeeder x, String text, int want) {
        due("textFault() of \"" + text + "\"", Castings.typed(x, text).textFault(), want);
    }

    /** The call that was just made is recorded: undo() gives back what was before it. */
    private static void recorded(String call, CastingFeeder x, long before) {
        Checks.holds(call + " is recorded", x.undo() >= 0);
        due("digest() after the undo() of " + call, x.digest(), before);
    }

    // ---- the promises

    private static void constants() {
        due("NONE", CastingFeeder.NONE, -1);
        due("BAD_INDEX", CastingFeeder.BAD_INDEX, -2);
        due("BAD_VALUE", CastingFeeder.BAD_VALUE, -3);
        due("BAD_STATE", CastingFeeder.BAD_STATE, -4);
        due("FULL", CastingFeeder.FULL, -5);
    }

    private static void promise1newObject() {
        CastingFeeder x = new CastingFeeder();
        int[] numbers = {0, 0, 50, 140, 0, 0, 0, 0, 0, 1};
        for (int what = 0; what < numbers.length; what++) {
            due("new: count(" + what + ")", x.count(what), numbers[what]);
        }
        due("new: undo()", x.undo(), BAD_STATE);
        due("new: clearText()", x.clearText(), 0);
        due("new: textFault()", x.textFault(), 0);
        due("new: load()", x.load(), BAD_STATE);
        due("new: section(0, 0)", x.section(0, 0), BAD_INDEX);
        due("new: joint(0, 0)", x.joint(0, 0), BAD_INDEX);
        due("new: atStep(0)", x.atStep(0), NONE);
        due("new: bestFeeder()", x.bestFeeder(), NONE);
    }

    private static void promise2addSection() {
        CastingFeeder x = new CastingFeeder();
        long empty = x.digest();
        due("addSection(1, 5000, false)", x.addSection(1, 5000, false), 0);
        recorded("addSection", x, empty);
        x.addSection(1, 5000, false);
        due("addSection(5000, 1, true)", x.addSection(5000, 1, true), 1);
        due("its volume", x.section(1, 0), 5000);
        due("its area", x.section(1, 1), 1);
        due("its chill", x.section(1, 2), 0);
        due("it is a feeder", x.section(1, 3), 1);
        due("the first one is none", x.section(0, 3), 0);
        int[][] bad = {{0, 1}, {5001, 1}, {1, 0}, {1, 5001}, {-1, 1}, {1, Integer.MIN_VALUE}, {Integer.MAX_VALUE, 1}};
        for (int[] b : bad) {
            due("addSection(" + b[0] + ", " + b[1] + ")", x.addSection(b[0], b[1], false), BAD_VALUE);
        }
        for (int i = 2; i < 12; i++) {
            due("addSection of the section " + i, x.addSection(10, 10, false), i);
        }
        due("a thirteenth section", x.addSection(10, 10, false), FULL);
        due("BAD_VALUE before FULL", x.addSection(0, 10, false), BAD_VALUE);
        due("12 sections", x.count(0), 12);
        x.setChill(11, 77);
        x.removeSection(11);
        due("a section where another one was", x.addSection(3, 4, true), 11);
        due("it has no chill", x.section(11, 2), 0);
    }

    private static void promise3resize() {
        CastingFeeder x = Castings.star();
        x.setChill(0, 9);
        long before = x.digest();
        due("resize(0, 5000, 1)", x.resize(0, 5000, 1), 400);
        due("the new volume", x.section(0, 0), 5000);
        due("the new area", x.section(0, 1), 1);
        due("the same chill", x.section(0, 2), 9);
        due("it freezes last now", x.atStep(2), 0);
        recorded("resize", x, before);
        due("resize(0, 1, 5000)", x.resize(0, 1, 5000), 400);
        due("resize(0, 1, 5000) again", x.resize(0, 1, 5000), 1);
        due("resize(3, 1, 1)", x.resize(3, 1, 1), BAD_INDEX);
        due("resize(-1, 0, 0)", x.resize(-1, 0, 0), BAD_INDEX);
        due("resize(0, 0, 1)", x.resize(0, 0, 1), BAD_VALUE);
        due("resize(0, 5001, 1)", x.resize(0, 5001, 1), BAD_VALUE);
        due("resize(0, 1, 0)", x.resize(0, 1, 0), BAD_VALUE);
        due("resize(0, 1, 5001)", x.resize(0, 1, 5001), BAD_VALUE);
        due("still the same volume", x.section(0, 0), 1);
        due("still the same area", x.section(0, 1), 5000);
    }

    private static void promise4setChill() {
        CastingFeeder x = Castings.star();
        long before = x.digest();
        due("setChill(2, 500)", x.setChill(2, 500), 0);
        due("its chill", x.section(2, 2), 500);
        // 1000 / 1000 is as much as 400 / 400: of equal moduli the lower number freezes first.
        due("atStep(1)", x.atStep(1), 0);
        due("setChill(0, 500)", x.setChill(0, 500), 0);
        // 400 / 900 is less than 200 / 400.
        due("atStep(0)", x.atStep(0), 0);
        x.undo();
        due("atStep(0) before it", x.atStep(0), 1);
        recorded("setChill", x, before);
        x.setChill(2, 500);
        due("setChill(2, 0)", x.setChill(2, 0), 500);
        due("setChill(2, 501)", x.setChill(2, 501), BAD_VALUE);
        due("setChill(2, -1)", x.setChill(2, -1), BAD_VALUE);
        due("setChill(3, 501)", x.setChill(3, 501), BAD_INDEX);
        due("setChill(-1, 5)", x.setChill(-1, 5), BAD_INDEX);
        due("still no chill", x.section(2, 2), 0);
    }

    private static void promise5removeSection() {
        CastingFeeder x = Castings.chain();
        x.join(0, 3);
        x.join(2, 0);
        x.setChill(3, 33);
        x.resize(3, 400, 99);
        long before = x.digest();
        due("removeSection(1)", x.removeSection(1), 3);
        int[] volumes = {100, 300, 400};
        for (int i = 0; i < 3; i++) {
            due("volume of " + i, x.section(i, 0), volumes[i]);
        }
        due("the area moves along", x.section(2, 1), 99);
        due("the chill moves along", x.section(2, 2), 33);
        due("the feeder moves along", x.section(2, 3), 1);
        due("joints that are left", x.count(1), 3);
        int[][] joints = {{2, 1}, {0, 2}, {1, 0}};
        for (int i = 0; i < 3; i++) {
            due("joint(" + i + ", 0)", x.joint(i, 0), joints[i][0]);
            due("joint(" + i + ", 1)", x.joint(i, 1), joints[i][1]);
        }
        recorded("removeSection", x, before);
        due("removeSection(4)", x.removeSection(4), BAD_INDEX);
        due("removeSection(-1)", x.removeSection(-1), BAD_INDEX);
        due("removeSection(3), the last one", x.removeSection(3), 3);
        due("removeSection(0), the first one", x.removeSection(0), 2);
        due("volume of 0 now", x.section(0, 0), 200);
        due("volume of 1 now", x.section(1, 0), 300);
        due("joint(0, 0) now", x.joint(0, 0), 0);
        due("removeSection(0)", x.removeSection(0), 1);
        due("removeSection(0), the only one", x.removeSection(0), 0);
        due("no joints", x.count(1), 0);
        due("removeSection(0) of none", x.removeSection(0), BAD_INDEX);
    }

    private static void promise6join() {
        CastingFeeder x = Castings.withSections(7);
        long before = x.digest();
        due("join(5, 2)", x.join(5, 2), 0);
        due("joint(0, 0)", x.joint(0, 0), 5);
        due("joint(0, 1)", x.joint(0, 1), 2);
        recorded("join", x, before);
        x.join(5, 2);
        due("join(2, 5)", x.join(2, 5), BAD_STATE);
        due("join(5, 2) again", x.join(5, 2), BAD_STATE);
        due("join(3, 3)", x.join(3, 3), BAD_STATE);
        due("join(7, 0)", x.join(7, 0), BAD_INDEX);
        due("join(0, 7)", x.join(0, 7), BAD_INDEX);
        due("join(-1, -1)", x.join(-1, -1), BAD_INDEX);
        due("join(9, 9)", x.join(9, 9), BAD_INDEX);
        due("one joint", x.count(1), 1);
        x = Castings.withJoints(7, 19);
        due("a twentieth joint", x.join(6, 4), 19);
        due("a further joint", x.join(6, 5), FULL);
        due("BAD_STATE before FULL", x.join(0, 1), BAD_STATE);
        due("BAD_STATE before FULL, the same", x.join(5, 5), BAD_STATE);
        due("BAD_INDEX before FULL", x.join(0, 7), BAD_INDEX);
        due("20 joints", x.count(1), 20);
    }

    private static void promise7part() {
        CastingFeeder x = Castings.chain();
        long before = x.digest();
        due("part(1)", x.part(1), 2);
        due("joint(0, 1)", x.joint(0, 1), 1);
        due("joint(1, 0)", x.joint(1, 0), 3);
        due("joint(1, 1)", x.joint(1, 1), 2);
        due("1 is a hot spot now", x.section(1, 8), NONE);
        recorded("part", x, before);
        due("part(3)", x.part(3), BAD_INDEX);
        due("part(-1)", x.part(-1), BAD_INDEX);
        due("part(2)", x.part(2), 2);
        due("part(0)", x.part(0), 1);
        due("part(0)", x.part(0), 0);
        due("part(0) of none", x.part(0), BAD_INDEX);
        CastingFeeder full = Castings.withJoints(7, 20);
        due("part(19) of 20", full.part(19), 19);
        due("a joint where another one was", full.join(5, 6), 19);
        due("part(0) of 20", full.part(0), 19);
        due("the last one moves along", full.joint(18, 1), 6);
    }

    private static void promise8setMetal() {
        CastingFeeder x = Castings.chain();
        long before = x.digest();
        due("setMetal(200, 500)", x.setMetal(200, 500), 50);
        due("the shrinkage", x.count(2), 200);
        due("the piping", x.count(3), 500);
        due("needs of 20 + 40 + 60 + 80", x.section(3, 5), 200);
        recorded("setMetal", x, before);
        x.setMetal(200, 500);
        due("setMetal(0, 0)", x.setMetal(0, 0), 200);
        int[][] bad = {{201, 0}, {-1, 0}, {0, 501}, {0, -1}};
        for (int[] b : bad) {
            due("setMetal(" + b[0] + ", " + b[1] + ")", x.setMetal(b[0], b[1]), BAD_VALUE);
        }
        due("still no shrinkage", x.count(2), 0);
        due("still no piping", x.count(3), 0);
    }

    private static void promise9count() {
        CastingFeeder x = Castings.chain();
        x.addSection(100, 400, false);
        x.addSection(30, 400, true);
        // The hot spots: 3 with the pores 50 (it bears 56), 4 with 5, 5 with 1 (it bears 4).
        int[] numbers = {6, 3, 50, 140, 2, 3, 56, 5, 1000 * 700 / 1130, 0};
        for (int what = 0; what < numbers.length; what++) {
            due("count(" + what + ")", x.count(what), numbers[what]);
        }
        due("count(10)", x.count(10), BAD_VALUE);
        due("count(-1)", x.count(-1), BAD_VALUE);
        x.removeSection(4);
        due("without the porous section: excess", x.count(7), 0);
        due("without the porous section: sound", x.count(9), 1);
        x.setMetal(60, 140);
        // Needs of 6 + 12 + 18 + 24 are 60; the feeder bears 56.
        due("more shrinkage: pores", x.count(6), 61);
        due("more shrinkage: excess", x.count(7), 4);
        due("more shrinkage: not sound", x.count(9), 0);
        CastingFeeder feeders = new CastingFeeder();
        feeders.addSection(10, 10, true);
        due("the yield of feeders alone", feeders.count(8), 0);
        due("a feeder with the number 0", feeders.count(4), 1);
        CastingFeeder parts = new CastingFeeder();
        parts.addSection(10, 10, false);
        due("the yield without feeders", parts.count(8), 1000);
        // 10 * 50 / 1000 is rounded down to 0.
        due("a section that is so small is sound", parts.count(9), 1);
        for (int i = 0; i < 11; i++) {
            parts.addSection(5000, 10, i > 4);
        }
        due("the yield of large sections", parts.count(8), 1000 * 25010 / 55010);
    }

    private static void promise10section() {
        CastingFeeder x = Castings.chain();
        x.addSection(50, 100, false);
        x.join(1, 4);
        x.setChill(0, 1);
        int[][] numbers = {
            {100, 100, 1, 0, 1, 5, 0, 0, 1, 0, 1},
            {200, 100, 0, 0, 2, 17, 0, 0, 2, 2, 3},
            {300, 100, 0, 0, 3, 32, 0, 0, 3, 1, 2},
            {400, 100, 0, 1, 4, 52, 52, 0, NONE, 1, 1},
            {50, 100, 0, 0, 0, 2, 0, 0, 1, 0, 1}};
        for (int s = 0; s < numbers.length; s++) {
            for (int what = 0; what < 11; what++) {
                due("section(" + s + ", " + what + ")", x.section(s, what), numbers[s][what]);
            }
        }
        due("section(5, 11)", x.section(5, 11), BAD_INDEX);
        due("section(-1, 0)", x.section(-1, 0), BAD_INDEX);
        due("section(0, 11)", x.section(0, 11), BAD_VALUE);
        due("section(0, -1)", x.section(0, -1), BAD_VALUE);
        x.setMetal(50, 127);
        due("the feeder bears 50.8, rounded down", x.section(3, 7), 2);
        x.part(2);
        due("a section of the casting bears nothing", x.section(2, 7), 32);
        feedsByTheLast();
        needsOfZero();
    }

    private static void feedsByTheLast() {
        CastingFeeder x = new CastingFeeder();
        x.addSection(100, 100, false);
        x.addSection(300, 100, false);
        x.addSection(200, 100, false);
        x.addSection(300, 100, false);
        x.join(0, 1);
        x.join(2, 0);
        due("of two neighbours, by the one that freezes last", x.section(0, 8), 1);
        x.join(0, 3);
        due("equal moduli: the higher number freezes last", x.section(0, 8), 3);
        due("no neighbour that freezes later", x.section(1, 8), NONE);
        due("the neighbour 0 is frozen already", x.section(2, 8), NONE);
        due("fed by 3", x.section(3, 9), 1);
        due("fed by 1", x.section(1, 9), 0);
    }

    private static void needsOfZero() {
        CastingFeeder x = new CastingFeeder();
        x.addSection(1, 100, false);
        x.addSection(2, 100, false);
        x.join(0, 1);
        due("a need of 0", x.section(0, 5), 0);
        due("is drawn too", x.section(0, 8), 1);
        due("and counts", x.section(1, 9), 1);
        due("one hot spot", x.count(5), 1);
        due("that gathers 0", x.gathers(1), 0);
    }

    private static void promise11modulus() {
        CastingFeeder x = new CastingFeeder();
        x.addSection(12, 8, false);
        x.addSection(5000, 1, false);
        x.addSection(1, 5000, true);
        x.addSection(7, 7, false);
        x.addSection(4181, 2584, false);
        int[][] parts = {{3, 2}, {5000, 1}, {1, 5000}, {1, 1}, {4181, 2584}};
        for (int i = 0; i < parts.length; i++) {
            due("modulus(" + i + ", false)", x.modulus(i, false), parts[i][0]);
            due("modulus(" + i + ", true)", x.modulus(i, true), parts[i][1]);
        }
        x.setChill(0, 10);
        due("with a chill, 12 / 18: modulus(0, false)", x.modulus(0, false), 2);
        due("with a chill, 12 / 18: modulus(0, true)", x.modulus(0, true), 3);
        x.setChill(2, 500);
        due("1 / 5500", x.modulus(2, true), 5500);
        due("modulus(5, false)", x.modulus(5, false), BAD_INDEX);
        due("modulus(-1, true)", x.modulus(-1, true), BAD_INDEX);
    }

    private static void promise12joint() {
        CastingFeeder x = Castings.chain();
        int[][] joints = {{0, 1}, {1, 2}, {3, 2}};
        for (int i = 0; i < joints.length; i++) {
            due("joint(" + i + ", 0)", x.joint(i, 0), joints[i][0]);
            due("joint(" + i + ", 1)", x.joint(i, 1), joints[i][1]);
        }
        due("joint(3, 2)", x.joint(3, 2), BAD_INDEX);
        due("joint(-1, 0)", x.joint(-1, 0), BAD_INDEX);
        due("joint(0, 2)", x.joint(0, 2), BAD_VALUE);
        due("joint(0, -1)", x.joint(0, -1), BAD_VALUE);
    }

    private static void promise13atStep() {
        CastingFeeder x = Castings.star();
        int[] order = {1, 0, 2};
        for (int i = 0; i < 3; i++) {
            due("atStep(" + i + ")", x.atStep(i), order[i]);
        }
        due("atStep(3)", x.atStep(3), NONE);
        due("atStep(12)", x.atStep(12), NONE);
        due("atStep(MAX_VALUE)", x.atStep(Integer.MAX_VALUE), NONE);
        due("atStep(-1)", x.atStep(-1), BAD_VALUE);
        CastingFeeder close = new CastingFeeder();
        close.addSection(5000, 4999, false);
        close.addSection(4999, 4998, false);
        close.addSection(4999, 4999, false);
        close.addSection(2500, 2500, false);
        int[] exact = {2, 3, 0, 1};
        for (int i = 0; i < 4; i++) {
            due("moduli that differ little: atStep(" + i + ")", close.atStep(i), exact[i]);
        }
        close.removeSection(3);
        due("atStep(3) of a section that is gone", close.atStep(3), NONE);
    }

    private static void promise14way() {
        CastingFeeder x = Castings.chain();
        for (int from = 0; from < 4; from++) {
            for (int i = 0; i < 6; i++) {
                due("way(" + from + ", " + i + ")", x.way(from, i), from + i < 4 ? from + i : NONE);
            }
        }
        due("way(0, MAX_VALUE)", x.way(0, Integer.MAX_VALUE), NONE);
        due("way(0, -1)", x.way(0, -1), BAD_VALUE);
        due("way(4, -1)", x.way(4, -1), BAD_INDEX);
        due("way(-1, 0)", x.way(-1, 0), BAD_INDEX);
        CastingFeeder all = Castings.withSections(12);
        for (int i = 0; i < 11; i++) {
            all.join(i, i + 1);
        }
        due("a way through all sections", all.way(0, 11), 11);
        due("and its end", all.way(0, 12), NONE);
        due("end(0) of it", all.end(0), 11);
    }

    private static void promise15end() {
        CastingFeeder x = Castings.chain();
        x.addSection(10, 100, false);
        int[] ends = {3, 3, 3, 3, 4};
        for (int i = 0; i < ends.length; i++) {
            due("end(" + i + ")", x.end(i), ends[i]);
        }
        x.part(1);
        due("end(0) after part(1)", x.end(0), 1);
        due("end(2) after part(1)", x.end(2), 3);
        due("end(5)", x.end(5), BAD_INDEX);
        due("end(-1)", x.end(-1), BAD_INDEX);
    }

    private static void promise16gathers() {
        CastingFeeder x = Castings.chain();
        due("gathers(3)", x.gathers(3), 50);
        due("gathers(2), no hot spot", x.gathers(2), 0);
        x.part(1);
        due("gathers(1) after part(1)", x.gathers(1), 15);
        due("gathers(3) after part(1)", x.gathers(3), 35);
        x.resize(0, 119, 119);
        due("each need is rounded down by itself", x.gathers(1), 15);
        due("gathers(4)", x.gathers(4), BAD_INDEX);
        due("gathers(-1)", x.gathers(-1), BAD_INDEX);
    }

    private static void promise17leastFeeder() {
        CastingFeeder x = new CastingFeeder();
        x.addSection(100, 100, false);
        // The need is 5. The size 5 has the modulus 1, too, and the higher number, so it freezes last;
        // it bears 125 * 140 / 1000 = 17, its own need is 6.
        due("leastFeeder(0)", x.leastFeeder(0), 5);
        due("nothing is changed: sections", x.count(0), 1);
        due("nothing is changed: joints", x.count(1), 0);
        due("nothing is recorded", x.undo(), 0);
        x.addSection(100, 101, false);
        x.setMetal(50, 90);
        // 125 * 90 / 1000 = 11 bears 5 + 6.
        due("it bears just so much", x.leastFeeder(0), 5);
        x.setMetal(50, 87);
        // 10 is less than 11; the size 6 has 216: its need 10, with 15, bears 18.
        due("it bears too little", x.leastFeeder(0), 6);
        x.resize(0, 5000, 1);
        due("no feeder freezes later", x.leastFeeder(0), NONE);
        soundAlready();
        CastingFeeder edge = new CastingFeeder();
        edge.addSection(3375, 1125, false);
        edge.setMetal(50, 100);
        // Just the size 15 has a modulus of 3; its pores 168 + 168 are below 337.
        due("the largest size", edge.leastFeeder(0), 15);
        edge.setMetal(50, 99);
        due("the largest size bears too little", edge.leastFeeder(0), NONE);
        due("bestFeeder(): the largest size bears too little", edge.bestFeeder(), NONE);
        edge.undo();
        due("bestFeeder(): the largest size", edge.bestFeeder(), 1500);
        leastFeederErrors();
    }

    private static void soundAlready() {
        CastingFeeder x = new CastingFeeder();
        x.addSection(19, 1, false);
        due("sound already: the smallest size", x.leastFeeder(0), 1);
        x.setMetal(50, 0);
        due("also without piping", x.leastFeeder(0), 1);
        CastingFeeder fed = new CastingFeeder();
        fed.addSection(100, 100, false);
        fed.addSection(200, 100, true);
        fed.join(0, 1);
        fed.setMetal(50, 100);
        due("it is sound", fed.count(9), 1);
        due("a feeder that does not disturb", fed.leastFeeder(0), 1);
        // A feeder that freezes after 0, but before 1, draws nothing from it; one that freezes after 1
        // takes all of it: the size 11, with 66 and 5 (or 10) of 133.
        due("and on the feeder itself", fed.leastFeeder(1), 1);
    }

    private static void leastFeederErrors() {
        CastingFeeder x = Castings.withSections(11);
        // Just 10, with the volume 20, has a need that is not 0; its modulus 2 asks for the size 10.
        due("with 11 sections: leastFeeder(10)", x.leastFeeder(10), 10);
        due("with 11 sections: leastFeeder(0)", x.leastFeeder(0), NONE);
        due("with 11 sections: leastFeeder(11)", x.leastFeeder(11), BAD_INDEX);
        x.addSection(10, 10, false);
        due("with 12 sections", x.leastFeeder(0), FULL);
        due("with 12 sections: leastFeeder(12)", x.leastFeeder(12), BAD_INDEX);
        due("leastFeeder(-1)", x.leastFeeder(-1), BAD_INDEX);
        due("with 19 joints", Castings.withJoints(7, 19).leastFeeder(0), 1);
        due("with 20 joints", Castings.withJoints(7, 20).leastFeeder(0), FULL);
    }

    private static void promise18bestFeeder() {
        CastingFeeder x = new CastingFeeder();
        x.addSection(10, 10, false);
        x.addSection(100, 100, false);
        due("joined to the section that needs it", x.bestFeeder(), 501);
        due("nothing is changed", x.count(0), 2);
        due("nothing is recorded", x.undo(), 1);
        x.undo();
        CastingFeeder two = new CastingFeeder();
        two.addSection(50, 100, false);
        two.addSection(100, 100, false);
        two.join(0, 1);
        // Joined to 0, a feeder leaves 1 with its pores: 1 needs it.
        due("the hot spot needs it", two.bestFeeder(), 501);
        CastingFeeder three = new CastingFeeder();
        three.addSection(10, 1, false);
        three.addSection(10, 1, false);
        three.addSection(10, 1, false);
        due("sound already: the smallest size, the lowest section", three.bestFeeder(), 100);
        CastingFeeder apart = new CastingFeeder();
        apart.addSection(100, 100, false);
        apart.addSection(100, 100, false);
        due("two hot spots need two feeders", apart.bestFeeder(), NONE);
        smallerSizeBeforeLowerSection();
        due("with 12 sections", Castings.withSections(12).bestFeeder(), FULL);
        due("with 20 joints", Castings.withJoints(7, 20).bestFeeder(), FULL);
        due("with 11 sections", Castings.withSections(11).bestFeeder(), 1010);
        due("with 19 joints", Castings.withJoints(7, 19).bestFeeder(), 100);
        due("no section", new CastingFeeder().bestFeeder(), NONE);
    }

    private static void smallerSizeBeforeLowerSection() {
        CastingFeeder x = new CastingFeeder();
        x.addSection(120, 100, false);
        x.addSection(100, 100, false);
        x.join(0, 1);
        // 1 is fed by 0, the hot spot: its modulus 1.2 asks for the size 6, which takes 6 + 5.
        due("leastFeeder(0)", x.leastFeeder(0), 6);
        due("leastFeeder(1)", x.leastFeeder(1), NONE);
        due("bestFeeder()", x.bestFeeder(), 600);
        x.resize(0, 1, 100);
        // Now 0 needs nothing, and 1 asks for the size 5; on 0 no feeder helps.
        due("leastFeeder(0) of a small section", x.leastFeeder(0), NONE);
        due("bestFeeder() beside it", x.bestFeeder(), 501);
    }

    private static void promise19leastChill() {
        CastingFeeder x = new CastingFeeder();
        x.addSection(200, 100, false);
        x.addSection(150, 100, true);
        x.join(0, 1);
        // 0 has the need 10; to be fed it must freeze before 1: 200 / (100 + c) <= 1.5, so c >= 33.33
        due("leastChill(0)", x.leastChill(0), 34);
        due("nothing is changed", x.section(0, 2), 0);
        due("nothing is recorded", x.undo(), 2);
        due("without the joint", x.leastChill(0), NONE);
        x.join(0, 1);
        due("a chill of the other one does not help", x.leastChill(1), NONE);
        x.setChill(0, 500);
        due("the chill it has does not count", x.leastChill(0), 34);
        x.resize(0, 100, 100);
        due("sound without a chill", x.leastChill(0), 0);
        due("leastChill(2)", x.leastChill(2), BAD_INDEX);
        due("leastChill(-1)", x.leastChill(-1), BAD_INDEX);
        CastingFeeder edge = new CastingFeeder();
        edge.addSection(600, 100, false);
        edge.addSection(1000, 1000, true);
        edge.join(0, 1);
        // 600 / (100 + c) = 1 for 500: equal, and 0 has the lower number.
        due("the largest chill", edge.leastChill(0), 500);
        edge.resize(0, 601, 100);
        due("more than the largest chill", edge.leastChill(0), NONE);
        due("the empty casting", new CastingFeeder().leastChill(0), BAD_INDEX);
        middleChill();
    }

    private static void middleChill() {
        CastingFeeder x = new CastingFeeder();
        x.addSection(300, 100, false);
        x.addSection(200, 100, true);
        x.addSection(100, 100, false);
        x.join(0, 1);
        x.join(0, 2);
        x.setMetal(50, 150);
        // 2, with the need 5, is fed by 0 alone: 0 must freeze before 1, from 50 on, and after 2, up to 199.
        due("leastChill(0)", x.leastChill(0), 50);
        due("excessWith(0, 49)", x.excessWith(0, 49), 30);
        due("excessWith(0, 50)", x.excessWith(0, 50), 0);
        due("excessWith(0, 199)", x.excessWith(0, 199), 0);
        due("excessWith(0, 200)", x.excessWith(0, 200), 5);
    }

    private static void promise20excessWith() {
        CastingFeeder x = new CastingFeeder();
        x.addSection(200, 100, false);
        x.addSection(150, 100, true);
        x.join(0, 1);
        // 1 freezes first: 10 + 7 go to 0, of the casting.
        due("excessWith(0, 0)", x.excessWith(0, 0), 17);
        due("excessWith(0, 33)", x.excessWith(0, 33), 17);
        due("excessWith(0, 34)", x.excessWith(0, 34), 0);
        due("excessWith(1, 500)", x.excessWith(1, 500), 17);
        due("nothing is changed", x.section(1, 2), 0);
        due("the excess itself", x.count(7), 17);
        due("excessWith(0, 501)", x.excessWith(0, 501), BAD_VALUE);
        due("excessWith(0, -1)", x.excessWith(0, -1), BAD_VALUE);
        due("excessWith(2, 501)", x.excessWith(2, 501), BAD_INDEX);
        due("excessWith(-1, 0)", x.excessWith(-1, 0), BAD_INDEX);
        due("nothing is recorded", x.undo(), 2);
    }

    private static void promise21undo() {
        CastingFeeder x = new CastingFeeder();
        for (int i = 0; i < 8; i++) {
            x.addSection(10, 10, false);
        }
        for (int i = 0; i < 5; i++) {
            due("undo() " + i, x.undo(), 4 - i);
            due("sections after it", x.count(0), 7 - i);
        }
        due("undo() of an empty history", x.undo(), BAD_STATE);
        due("it changes nothing", x.count(0), 3);
        x.setMetal(50, 140);
        due("also a call that changes nothing is recorded", x.undo(), 0);
        for (int i = 0; i < 3; i++) {
            x.setMetal(i, i);
            x.undo();
            x.setMetal(100 + i, i);
        }
        due("undo() between: the shrinkage", x.count(2), 102);
        due("undo() between: states", Castings.statesOf(x), 3);
        due("and the first shrinkage", x.count(2), 50);
        undoLeavesTheText();
        queriesAreNotRecorded();
    }

    private static void undoLeavesTheText() {
        CastingFeeder x = Castings.typed(Castings.withSections(2), "0=1");
        due("load()", x.load(), 1);
        due("textFault() after load()", x.textFault(), 2);
        due("undo() of load()", x.undo(), 2);
        due("the text is still there", x.textFault(), NONE);
        due("type and clearText are not recorded", Castings.statesOf(x), 2);
    }

    private static void queriesAreNotRecorded() {
        CastingFeeder x = Castings.chain();
        int states = Castings.statesOf(Castings.chain());
        x.count(0);
        x.section(0, 0);
        x.modulus(0, false);
        x.joint(0, 0);
        x.atStep(0);
        x.way(0, 0);
        x.end(0);
        x.gathers(0);
        x.leastFeeder(0);
        x.bestFeeder();
        x.leastChill(0);
        x.excessWith(0, 3);
        x.type(3);
        x.textFault();
        x.load();
        x.clearText();
        x.digest();
        x.join(0, 0);
        due("states", Castings.statesOf(x), states);
    }

    private static void promise22type() {
        CastingFeeder x = new CastingFeeder();
        due("type(256)", x.type(256), BAD_VALUE);
        due("type(-1)", x.type(-1), BAD_VALUE);
        due("type(0)", x.type(0), 1);
        due("type(255)", x.type(255), 2);
        for (int i = 2; i < 120; i++) {
            due("type(32) " + i, x.type(32), i + 1);
        }
        due("a 121st byte", x.type(32), FULL);
        due("BAD_VALUE before FULL", x.type(256), BAD_VALUE);
        due("the length stays", x.clearText(), 120);
        due("type(99) after clearText()", x.type(99), 1);
    }

    private static void promise23clearText() {
        CastingFeeder x = Castings.typed(new CastingFeeder(), "c1/1");
        due("clearText()", x.clearText(), 4);
        due("clearText() again", x.clearText(), 0);
        due("the text is empty", x.textFault(), 0);
        fault(x, "c2/2", NONE);
    }

    private static void promise24textFault() {
        CastingFeeder x = new CastingFeeder();
        fault(x, "", 0);
        fault(x, "   ", 3);
        fault(x, "c1/1", NONE);
        fault(x, "f5000/5000-500", NONE);
        fault(x, " c 1 / 1 - 0 ; f 2 / 3 ; 0 = 1 ", NONE);
        fault(x, "c0001/0002-0003;c0005/5;0000=0001", NONE);
        fault(x, "c1/1;", 5);
        fault(x, "c1/1 ;  ", 8);
        fault(x, ";c1/1", 0);
        fault(x, "c1/1;;c1/1", 5);
        fault(x, "c1/1 c1/1", 5);
        fault(x, "C1/1", 0);
        fault(x, "=1", 0);
        fault(x, "c", 1);
        fault(x, "c ", 2);
        fault(x, "c1", 2);
        fault(x, "c1 ", 3);
        fault(x, "c1/", 3);
        fault(x, "c1/1-", 5);
        fault(x, "c1/1 - ", 7);
        fault(x, "c/1", 1);
        fault(x, "c1-1", 2);
        fault(x, "c1//1", 3);
        fault(x, "c1/1-2-3", 6);
        fault(x, "c1/1--3", 5);
        fault(x, "c1/-3", 3);
        fault(x, "cc1/1", 1);
        fault(x, "c1 2/3", 3);
        fault(x, "c1/2 3", 5);
        fault(x, "c1/2-3 4", 7);
        fault(x, "c1/1\t", 4);
        fault(x, "c1/1" + (char) 0, 4);
        fault(x, "c1/1" + (char) 160, 4);
        fault(x, "c1/1;f1/1;0=1=0", 13);
        fault(x, "c1/1;f1/1;0=1-5", 13);
        fault(x, "c1/1;f1/1;0-1", 11);
        fault(x, "c1/1;f1/1;0", 11);
        fault(x, "c1/1;f1/1;0 = ", 14);
        fault(x, "c1/1;f1/1;0=c", 12);
        due("the text and the casting stay", x.count(0), 0);
        due("nothing is recorded", x.undo(), BAD_STATE);
        String long120 = "c1/1" + " ".repeat(116);
        fault(x, long120, NONE);
        fault(x, "c1/1;" + " ".repeat(115), 120);
    }

    private static void promise24faultsOfNumbers() {
        CastingFeeder x = new CastingFeeder();
        fault(x, "c0/1", 1);
        fault(x, "c0", 1);
        fault(x, "c 0000", 2);
        fault(x, "c0x", 1);
        fault(x, "c0 x", 1);
        fault(x, "c5001/1", 1);
        fault(x, "c12345/1", 1);
        fault(x, "c00001/1", 1);
        fault(x, "c99999999999999999999/1", 1);
        fault(x, "c1/0", 3);
        fault(x, "c1/5001", 3);
        fault(x, "c1/ 00001", 4);
        fault(x, "c1/1-501", 5);
        fault(x, "c1/1-00000", 5);
        fault(x, "c1/1-0", NONE);
        fault(x, "0=0", 0);
        fault(x, "0", 0);
        fault(x, "c1/1;1", 5);
        fault(x, "c1/1; 1=0", 6);
        fault(x, "c1/1;0=0", 7);
        fault(x, "c1/1;0= 1", 8);
        fault(x, "c1/1;0=  0", 9);
        fault(x, "c4999/1990", NONE);
        fault(x, "c1/1;0=00000", 7);
        fault(x, "c1/1;00000=0", 5);
        fault(x, "c1/1;c1/1;0=1;1=0", 16);
        fault(x, "c1/1;c1/1;0=1;1=0x", 16);
        fault(x, "c1/1;c1/1;1=2", 12);
        fault(x, "c1/1;c1/1;2=1", 10);
        fault(x, "0=1;c1/1;c1/1", 0);
        CastingFeeder two = Castings.withSections(2);
        fault(two, "0=1", NONE);
        fault(two, "c1/1;2=0;1=2", NONE);
        two.join(1, 0);
        fault(two, "0=1", 2);
        fault(two, "c1/1;2=0;1=2;1=0", 15);
    }

    private static void promise24faultsOfRoom() {
        fault(Castings.withSections(11), "c1/1", NONE);
        fault(Castings.withSections(11), "c1/1; f1/1", 6);
        fault(Castings.withSections(12), " c1/1", 1);
        fault(Castings.withSections(12), "f", 0);
        fault(Castings.withSections(12), "0=1;cx", 4);
        fault(Castings.withJoints(7, 19), "4=5", 2);
        fault(Castings.withJoints(7, 19), "4=6", NONE);
        fault(Castings.withJoints(7, 19), "4=6; 5=6", 5);
        fault(Castings.withJoints(7, 20), "5=6", 0);
        fault(Castings.withJoints(7, 20), "0=1", 0);
        fault(Castings.withJoints(7, 20), " 5", 1);
        fault(Castings.withJoints(7, 20), "c1/1;0=7", 5);
        fault(Castings.withJoints(7, 20), "c1/1;0", 5);
    }

    private static void promise25load() {
        CastingFeeder x = Castings.withSections(1);
        long before = x.digest();
        Castings.typed(x, "f200/50-7; c3/4;2=0 ;0=01");
        due("load()", x.load(), 4);
        due("sections", x.count(0), 3);
        due("joints", x.count(1), 2);
        int[][] numbers = {{10, 10, 0, 0}, {200, 50, 7, 1}, {3, 4, 0, 0}};
        for (int s = 0; s < 3; s++) {
            for (int what = 0; what < 4; what++) {
                due("section(" + s + ", " + what + ")", x.section(s, what), numbers[s][what]);
            }
        }
        due("joint(0, 0)", x.joint(0, 0), 2);
        due("joint(0, 1)", x.joint(0, 1), 0);
        due("joint(1, 1)", x.joint(1, 1), 1);
        // 3 / 4 freezes before 10 / 10, and that before 200 / 57.
        due("it freezes: way(2, 2)", x.way(2, 2), 1);
        recorded("load, as one call,", x, before);
        due("the text stays", x.clearText(), 25);
        Castings.typed(x, "c1/1;c1/1;1=2;9=1");
        before = x.digest();
        due("load() of a faulty text", x.load(), BAD_STATE);
        due("it adds nothing", x.digest(), before);
        due("and records nothing", Castings.statesOf(x), 1);
        CastingFeeder again = Castings.typed(new CastingFeeder(), "c1/1;f2/2");
        due("load() once", again.load(), 2);
        due("load() twice", again.load(), 2);
        due("sections of both", again.count(0), 4);
        due("states of both", Castings.statesOf(again), 2);
    }

    private static void promise26digest() {
        long h = 17;
        int[] numbers = {0, 0, 50, 140, 0, 0, 0, 0, 0, 1};
        for (int v : numbers) {
            h = 31 * h + v;
        }
        due("digest() of the empty casting", new CastingFeeder().digest(), h);
        CastingFeeder x = new CastingFeeder();
        x.addSection(100, 100, false);
        x.addSection(400, 100, true);
        x.join(1, 0);
        int[] two = {2, 1, 50, 140, 1, 1, 25, 0, 200, 1,
            100, 100, 0, 0, 0, 5, 0, 0, 1, 0, 1,
            400, 100, 0, 1, 1, 25, 25, 0, NONE, 1, 1,
            1, 0};
        h = 17;
        for (int v : two) {
            h = 31 * h + v;
        }
        due("digest() of two sections", x.digest(), h);
        due("digest() again", x.digest(), h);
        x.part(0);
        long parted = x.digest();
        x.undo();
        x.part(0);
        x.join(0, 1);
        due("digest() with the joint turned", x.digest(), h - 31 + 1);
        x.part(0);
        due("digest() without the joint", x.digest(), parted);
        x.join(1, 0);
        x.type(99);
        due("the text does not count", x.digest(), h);
    }

    /** Calls that return errors: neither the state, nor the history, nor the text changes. */
    private static void errorsChangeNothing() {
        CastingFeeder x = Castings.typed(Castings.withJoints(7, 20), "c1/1;x");
        for (int i = 7; i < 12; i++) {
            x.addSection(50, 20, true);
        }
        long before = x.digest();
        x.addSection(1, 1, false);
        x.addSection(0, 1, false);
        x.resize(12, 1, 1);
        x.resize(0, 0, 1);
        x.resize(0, 1, 0);
        x.setChill(12, 1);
        x.setChill(0, 501);
        x.removeSection(12);
        x.join(0, 12);
        x.join(0, 1);
        x.join(5, 6);
        x.part(20);
        x.setMetal(1, 501);
        x.setMetal(201, 1);
        x.count(10);
        x.load();
        x.type(256);
        due("digest()", x.digest(), before);
        due("the text", x.clearText(), 6);
        for (int i = 0; i < 5; i++) {
            due("undo()", x.undo(), 4 - i);
            due("sections", x.count(0), 11 - i);
        }
    }
}

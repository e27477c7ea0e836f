/** Castings to begin with, and ways to look at all that a call changes. */
final class Castings {
    interface Making {
        CastingFeeder make();
    }

    interface Call {
        long on(CastingFeeder x);
    }

    /** As many sections and joints as there may be are numbered below these. */
    static final int SECTIONS = 12, JOINTS = 20, STATES = 5, BYTES = 120;

    private Castings() {
    }

    static CastingFeeder empty() {
        return new CastingFeeder();
    }

    /** Steps: 1, 0, 2; 1 and 0 are fed by 2, which is a hot spot with the need 10 + 20 + 50. */
    static CastingFeeder star() {
        CastingFeeder x = new CastingFeeder();
        x.addSection(400, 400, false);
        x.addSection(200, 400, false);
        x.addSection(1000, 500, false);
        x.join(0, 2);
        x.join(1, 2);
        return x;
    }

    /** A way 0, 1, 2, 3 with the moduli 1, 2, 3, 4, and the first needs 5, 10, 15, 20; 3 is a feeder. */
    static CastingFeeder chain() {
        CastingFeeder x = new CastingFeeder();
        x.addSection(100, 100, false);
        x.addSection(200, 100, false);
        x.addSection(300, 100, false);
        x.addSection(400, 100, true);
        x.join(0, 1);
        x.join(1, 2);
        x.join(3, 2);
        return x;
    }

    /** Each section freezes after the one before it; 10 and 11 have the need 1, the others have none. */
    static CastingFeeder withSections(int sections) {
        CastingFeeder x = new CastingFeeder();
        for (int i = 0; i < sections; i++) {
            x.addSection(10 + i, 10, false);
        }
        return x;
    }

    /** The joints are 0=1, 0=2, .., 1=2, 1=3, .. */
    static CastingFeeder withJoints(int sections, int joints) {
        CastingFeeder x = withSections(sections);
        int made = 0;
        for (int i = 0; i < sections; i++) {
            for (int j = i + 1; j < sections && made < joints; j++) {
                x.join(i, j);
                made++;
            }
        }
        return x;
    }

    /** Nothing has room for more: 12 sections, 20 joints, 120 bytes, 5 states. */
    static CastingFeeder full() {
        return typed(withJoints(SECTIONS, JOINTS), "c1/1;" + " ".repeat(BYTES - 5));
    }

    static CastingFeeder typed(CastingFeeder x, String text) {
        x.clearText();
        for (int i = 0; i < text.length(); i++) {
            x.type(text.charAt(i));
        }
        return x;
    }

    static int statesOf(CastingFeeder x) {
        int states = 0;
        while (x.undo() >= 0) {
            states++;
        }
        return states;
    }

    /** All that can be told of an object, which is used up by it: state, history and text. */
    static String all(CastingFeeder x) {
        StringBuilder all = new StringBuilder();
        all.append(x.digest()).append(" fault ").append(x.textFault());
        for (int left = x.undo(); left >= 0; left = x.undo()) {
            all.append(" undo ").append(left).append(' ').append(x.digest());
        }
        all.append(" fault ").append(x.textFault());
        all.append(" load ").append(x.load()).append(' ').append(x.digest());
        return all.append(" length ").append(x.clearText()).toString();
    }

    /** A call that is refused, or that only asks: state, history and text are what they would be without it. */
    static void changesNothing(String name, Making making, Call call, long want) {
        CastingFeeder x = making.make();
        Checks.due(name, call.on(x), want);
        Checks.holds(name + " changes nothing", all(x).equals(all(making.make())));
    }

    /** A call that is recorded: there is one state more, up to five, and it is the one before the call. */
    static void recorded(String name, Making making, Call call, long want) {
        int states = statesOf(making.make());
        CastingFeeder x = making.make();
        long before = x.digest();
        Checks.due(name, call.on(x), want);
        Checks.due(name + " is recorded: undo()", x.undo(), Math.min(states, STATES - 1));
        Checks.due(name + " is recorded: digest()", x.digest(), before);
        CastingFeeder again = making.make();
        call.on(again);
        Checks.due(name + " is recorded once", statesOf(again), Math.min(states + 1, STATES));
    }
}

/**
 * Promises 22 to 25, the text: each sentence of the document that names a boundary, in a test of its
 * own. Every method whose name begins with "promise" is run.
 */
public final class EdgesOfTextTests {
    private static final int NONE = CastingFeeder.NONE;
    private static final int BAD_VALUE = CastingFeeder.BAD_VALUE;
    private static final int BAD_STATE = CastingFeeder.BAD_STATE;
    private static final int FULL = CastingFeeder.FULL;
    /** 7 sections and 20 joints in 114 bytes: all pairs but 5=6. */
    private static final String TWENTY_JOINTS = "c1/1;c1/1;c1/1;c1/1;c1/1;c1/1;c1/1"
        + ";0=1;0=2;0=3;0=4;0=5;0=6;1=2;1=3;1=4;1=5;1=6;2=3;2=4;2=5;2=6;3=4;3=5;3=6;4=5;4=6";

    private EdgesOfTextTests() {
    }

    public static void main(String[] args) throws IllegalAccessException {
        Checks.runPromises(EdgesOfTextTests.class);
        Checks.end();
    }

    private static void due(String call, long got, long want) {
        Checks.due(call, got, want);
    }

    /** The fault of a text for a casting; load() answers by it, and neither changes more than it tells. */
    private static void fault(Castings.Making making, String text, int want) {
        Castings.Making made = () -> Castings.typed(making.make(), text);
        Castings.changesNothing("textFault() of \"" + text + "\"", made, CastingFeeder::textFault, want);
        if (want == NONE) {
            Checks.holds("load() of \"" + text + "\"", made.make().load() > 0);
        } else {
            Castings.changesNothing("load() of \"" + text + "\"", made, CastingFeeder::load, BAD_STATE);
        }
    }

    private static void fault(String text, int want) {
        fault(Castings::empty, text, want);
    }

    /** The text's end is made so that it has 120 bytes. */
    private static String to120(String text) {
        return text + " ".repeat(Castings.BYTES - text.length());
    }

    // ---- promise 22

    static void promise22_aByteIsFrom0To255() {
        Castings.Making text = () -> Castings.typed(Castings.star(), "c1/1");
        due("type(0)", text.make().type(0), 5);
        due("type(255)", text.make().type(255), 5);
        for (int bad : new int[] {-1, 256, -128, -255, 257, 256 + 'c', 65536, Integer.MIN_VALUE, Integer.MAX_VALUE}) {
            Castings.changesNothing("type(" + bad + ")", text, x -> x.type(bad), BAD_VALUE);
        }
    }

    static void promise22_eachByteIsKeptAsItIs() {
        for (int code = 0; code < 256; code++) {
            CastingFeeder x = new CastingFeeder();
            due("type(" + code + ")", x.type(code), 1);
            boolean begins = code == 'c' || code == 'f' || code == ' ';
            due("textFault() after type(" + code + ")", x.textFault(), begins ? 1 : 0);
        }
    }

    static void promise22_theTextHasAtMost120Bytes() {
        CastingFeeder x = new CastingFeeder();
        for (int i = 1; i <= 120; i++) {
            due("type(59) " + i, x.type(59), i);
        }
        due("one byte more", x.type(59), FULL);
        due("and one more", x.type(59), FULL);
        Castings.changesNothing("type(59) when all is full", Castings::full, y -> y.type(59), FULL);
        due("clearText()", x.clearText(), 120);
        due("type(59) when there is room again", x.type(59), 1);
    }

    static void promise22_badValueComesBeforeFull() {
        Castings.changesNothing("type(256)", Castings::full, x -> x.type(256), BAD_VALUE);
        Castings.changesNothing("type(-1)", Castings::full, x -> x.type(-1), BAD_VALUE);
    }

    static void promise22_aRefusedByteIsNotKept() {
        CastingFeeder x = Castings.typed(new CastingFeeder(), "c1/");
        x.type(256 + '1');
        x.type('2');
        due("load()", x.load(), 1);
        due("the area", x.section(0, 1), 2);
    }

    // ---- promise 23

    static void promise23_theEmptyText() {
        Castings.changesNothing("clearText()", Castings::star, CastingFeeder::clearText, 0);
    }

    static void promise23_theFullText() {
        CastingFeeder x = Castings.full();
        due("clearText()", x.clearText(), 120);
        due("clearText() again", x.clearText(), 0);
        due("textFault() of the empty text", x.textFault(), 0);
        due("load() of the empty text", x.load(), BAD_STATE);
        due("undo(): it is not recorded", x.undo(), 4);
    }

    static void promise23_whatWasThereIsGone() {
        CastingFeeder x = Castings.typed(new CastingFeeder(), "c1/1;c1/1");
        x.clearText();
        x.type('c');
        due("textFault() of c", x.textFault(), 1);
        x.type('1');
        due("textFault() of c1", x.textFault(), 2);
    }

    // ---- promise 24: what ends too early

    static void promise24_theEmptyTextEndsTooEarly() {
        fault("", 0);
        fault(Castings::full, to120("c"), 0);
        fault(Castings::star, "", 0);
    }

    static void promise24_theLengthCountsAllBlanks() {
        fault(" ", 1);
        fault(to120(""), 120);
        fault("c ", 2);
        fault("  c  1  ", 8);
        fault("c1/  ", 5);
        fault("c1/1 -  ", 8);
        fault("c1/1 ;  ", 8);
        fault("c1/1;c1/1;0  ", 13);
        fault("c1/1;c1/1;0=  ", 14);
    }

    static void promise24_eachPlaceWhereATextEndsTooEarly() {
        for (String text : new String[] {"c", "f", "c1", "c1/", "c1/1-", "c1/1;", "c1/1;c1/1;0", "c1/1;c1/1;0="}) {
            fault(text, text.length());
        }
    }

    static void promise24_theTextOf120BytesIsReadToItsEnd() {
        fault(to120("c1/1"), NONE);
        fault(" ".repeat(116) + "c1/1", NONE);
        fault(" ".repeat(112) + "c1/1-500", NONE);
        fault(" ".repeat(112) + "c1/1-501", 117);
        fault(" ".repeat(115) + "c1/1;", 120);
        fault(" ".repeat(117) + "c1/", 120);
        fault(" ".repeat(119) + "c", 120);
        fault(" ".repeat(119) + "x", 119);
        fault(to120("c1/1").substring(0, 119) + ";", 120);
        fault(to120("c1/1").substring(0, 119) + "x", 119);
        fault(() -> Castings.withSections(2), " ".repeat(117) + "1=0", NONE);
        fault(() -> Castings.withSections(2), " ".repeat(117) + "1=2", 119);
    }

    // ---- promise 24: the grammar

    static void promise24_aListHasAtLeastOneItem() {
        fault("c1/1", NONE);
        fault(";", 0);
        fault(" ;", 1);
        fault(";c1/1", 0);
        fault("c1/1;;f1/1", 5);
        fault("c1/1;f1/1", NONE);
        fault("c1/1f1/1", 4);
        fault("c1/1,f1/1", 4);
    }

    static void promise24_justCAndFBeginASection() {
        for (int code = 0; code < 256; code++) {
            boolean begins = code == 'c' || code == 'f';
            // A blank before 1/1 ends at the 1, and 0 to 9 begin the number of a section that is not there.
            fault((char) code + "1/1", begins ? NONE : code == ' ' ? 1 : 0);
        }
    }

    static void promise24_justASlashStandsBeforeTheArea() {
        for (int code = 0; code < 256; code++) {
            boolean isDigit = code >= '0' && code <= '9';
            // A digit makes the volume 1, this digit and 1: no slash at the end.
            fault("c1" + (char) code + "1", code == '/' ? NONE : isDigit ? 4 : code == ' ' ? 3 : 2);
        }
    }

    static void promise24_justAMinusStandsBeforeTheChill() {
        for (int code = 0; code < 256; code++) {
            boolean goes = code == '-' || code >= '0' && code <= '9';
            fault("c1/1" + (char) code + "1", goes ? NONE : code == ' ' || code == ';' ? 5 : 4);
        }
    }

    static void promise24_justAnEqualsSignStandsInAJoint() {
        for (int code = 0; code < 256; code++) {
            boolean isDigit = code >= '0' && code <= '9';
            // A digit makes a number from 1 to 91, of which 1 alone names a section.
            int want = code == '=' ? NONE : code == '0' ? 3 : isDigit ? 0 : code == ' ' ? 2 : 1;
            fault(() -> Castings.withSections(2), "0" + (char) code + "1", want);
        }
    }

    static void promise24_justASemicolonStandsBetweenItems() {
        for (int code = 0; code < 256; code++) {
            boolean isDigit = code >= '0' && code <= '9';
            int want = code == ';' ? NONE : isDigit || code == '-' || code == ' ' ? 5 : 4;
            fault("c1/1" + (char) code + "c1/1", want);
        }
    }

    static void promise24_theChillMayBeMissing() {
        CastingFeeder x = Castings.typed(new CastingFeeder(), "c1/1-500;c1/1;c1/1-0");
        due("load()", x.load(), 3);
        int[] chills = {500, 0, 0};
        for (int i = 0; i < 3; i++) {
            due("section(" + i + ", 2)", x.section(i, 2), chills[i]);
        }
        fault("c1/1-", 5);
        fault("c1/1-;c1/1", 5);
    }

    static void promise24_aSectionHasAtMostOneChill() {
        fault("c1/1-1-1", 6);
        fault("c1/1/1", 4);
    }

    static void promise24_aJointHasTwoNumbersAlone() {
        fault(() -> Castings.withSections(3), "0=1=2", 3);
        fault(() -> Castings.withSections(3), "0=1-2", 3);
        fault(() -> Castings.withSections(3), "0=1/2", 3);
    }

    // ---- promise 24: blanks

    static void promise24_blanksMayStandAnywhereButWithinNumbers() {
        fault("  c  1  /  2  -  3  ;  f  4  /  5  ;  0  =  1  ", NONE);
        CastingFeeder x = Castings.typed(new CastingFeeder(), "  c  1  /  2  -  3  ;  f  4  /  5  ;  0  =  1  ");
        due("load()", x.load(), 3);
        due("the volume", x.section(0, 0), 1);
        due("the area", x.section(0, 1), 2);
        due("the chill", x.section(0, 2), 3);
        due("the joint", x.joint(0, 1), 1);
    }

    static void promise24_aBlankEndsANumber() {
        fault("c1 0/1", 3);
        fault("c1/1 0", 5);
        fault("c1/1-1 0", 7);
        fault(() -> Castings.withSections(12), "1 0=2", 2);
        fault(() -> Castings.withSections(12), "2=1 0", 4);
        fault("c1234 5/1", 6);
    }

    static void promise24_just32IsABlank() {
        for (int code : new int[] {0, 9, 10, 13, 31, 33, 95, 127, 128, 160, 255}) {
            fault((char) code + "c1/1", 0);
            fault("c1/1" + (char) code, 4);
            fault("c" + (char) code + "1/1", 1);
            fault("c1" + (char) code + "/1", 2);
        }
    }

    // ---- promise 24: numbers

    static void promise24_volumeIsFrom1To5000() {
        fault("c1/1", NONE);
        fault("c5000/1", NONE);
        fault("f0/1", 1);
        fault("f5001/1", 1);
        fault("c9999/1", 1);
        fault("c0000/1", 1);
        fault("c0001/1", NONE);
    }

    static void promise24_areaIsFrom1To5000() {
        fault("f1/1", NONE);
        fault("f1/5000", NONE);
        fault("c1/0", 3);
        fault("c1/5001", 3);
        fault("c1/9999", 3);
        fault("c1/0000", 3);
        fault("c1/0001", NONE);
    }

    static void promise24_chillIsFrom0To500() {
        fault("c1/1-0", NONE);
        fault("c1/1-500", NONE);
        fault("c1/1-501", 5);
        fault("c1/1-9999", 5);
        fault("c1/1-0000", NONE);
        fault("c1/1-0500", NONE);
        fault("c1/1-0501", 5);
    }

    static void promise24_numbersHave1To4Digits() {
        fault("c/1", 1);
        fault("c1/", 3);
        fault("c1/-1", 3);
        fault("c0005/0005-0005", NONE);
        fault("c00005/1", 1);
        fault("c1/00005", 3);
        fault("c1/1-00005", 5);
        fault("c50000/1", 1);
        fault("c" + "0".repeat(118) + "1", 1);
        fault("c" + "9".repeat(119), 1);
        // 2^32 + 1 and 2^64 + 1: a value that wraps around would be 1.
        fault("c4294967297/1", 1);
        fault("c1/18446744073709551617", 3);
        Castings.Making two = () -> Castings.withSections(2);
        fault(two, "0000=0001", NONE);
        fault(two, "00000=1", 0);
        fault(two, "0=00001", 2);
        fault(two, "0=", 2);
        fault(two, "=1", 0);
    }

    static void promise24_0007Is7() {
        CastingFeeder x = Castings.typed(new CastingFeeder(), "c0007/0070-0009;f0100/0001;0001=0000");
        due("load()", x.load(), 3);
        due("the volume", x.section(0, 0), 7);
        due("the area", x.section(0, 1), 70);
        due("the chill", x.section(0, 2), 9);
        due("the volume of the feeder", x.section(1, 0), 100);
        due("joint(0, 0)", x.joint(0, 0), 1);
        due("joint(0, 1)", x.joint(0, 1), 0);
    }

    static void promise24_theFirstDigitWhateverFollows() {
        fault("c0x", 1);
        fault("c 5001x", 2);
        fault("c0 1", 1);
        fault("c12345x", 1);
        fault("c1/0x", 3);
        fault("c1/ 12345;", 4);
        fault("c1/1-501x", 5);
        fault("c1/1- 501-", 6);
        fault("9x", 0);
        fault(" 00000x", 1);
        Castings.Making two = () -> Castings.withSections(2);
        fault(two, "2x", 0);
        fault(two, "0=2x", 2);
        fault(two, "0= 0x", 3);
    }

    static void promise24_theFirstDigitAlsoAtTheEndOfTheText() {
        fault("c0", 1);
        fault("c5001", 1);
        fault("c12345", 1);
        fault("c0  ", 1);
        fault("c1/0", 3);
        fault("c1/5001 ", 3);
        fault("c1/1-501 ", 5);
        fault("0", 0);
        fault("  7 ", 2);
        Castings.Making two = () -> Castings.withSections(2);
        fault(two, "2", 0);
        fault(two, "0=2", 2);
        fault(two, "0=0 ", 2);
        fault(two, "0=", 2);
    }

    // ---- promise 24: joints

    static void promise24_bothNumbersNameSections() {
        fault(Castings::empty, "0=1", 0);
        fault(() -> Castings.withSections(1), "0=1", 2);
        fault(() -> Castings.withSections(1), "1=0", 0);
        fault(() -> Castings.withSections(2), "1=0", NONE);
        fault(() -> Castings.withSections(2), "2=0", 0);
        fault(() -> Castings.withSections(2), "0=2", 2);
        fault(() -> Castings.withSections(12), "11=0", NONE);
        fault(() -> Castings.withSections(12), "0=11", NONE);
        fault(() -> Castings.withSections(12), "12=0", 0);
        fault(() -> Castings.withSections(12), "0=12", 2);
    }

    static void promise24_noSectionIsJoinedToItself() {
        fault(() -> Castings.withSections(12), "0=0", 2);
        fault(() -> Castings.withSections(12), "11 = 11", 5);
        fault(() -> Castings.withSections(12), "0=00", 2);
        fault("c1/1;0=0", 7);
    }

    static void promise24_neighboursAreNotJoinedAgain() {
        fault(Castings::star, "0=1", NONE);
        fault(Castings::star, "0=2", 2);
        fault(Castings::star, "2= 1", 3);
        fault(Castings::star, "0=1;1=0", 6);
        fault(Castings::star, "0=1;0=1", 6);
        fault("c1/1;c1/1;1=0;0=01", 16);
    }

    static void promise24_whatIsThereAndTheItemsBeforeItCount() {
        fault(() -> Castings.withSections(1), "f1/1;1=0", NONE);
        fault(() -> Castings.withSections(1), "1=0;f1/1", 0);
        fault(() -> Castings.withSections(1), "f1/1;2=0", 5);
        fault(() -> Castings.withSections(1), "f1/1;2=0;f1/1", 5);
        fault(() -> Castings.withSections(11), "0=11;c1/1", 2);
        fault(() -> Castings.withSections(11), "c1/1;0=11", NONE);
    }

    static void promise24_whatIsThereCountsAsItIsNow() {
        CastingFeeder x = Castings.typed(Castings.withSections(1), "0=1");
        due("textFault() with one section", x.textFault(), 2);
        x.addSection(1, 1, false);
        due("textFault() with two", x.textFault(), NONE);
        x.join(1, 0);
        due("textFault() with neighbours", x.textFault(), 2);
        x.undo();
        due("textFault() after undo()", x.textFault(), NONE);
        x.removeSection(0);
        due("textFault() with one section again", x.textFault(), 2);
    }

    // ---- promise 24: room

    static void promise24_thereIsRoomFor12Sections() {
        fault(() -> Castings.withSections(11), "c1/1", NONE);
        fault(() -> Castings.withSections(12), "c1/1", 0);
        fault(() -> Castings.withSections(12), "  f1/1", 2);
        fault(() -> Castings.withSections(11), "f1/1;c1/1", 5);
        fault(() -> Castings.withSections(11), "f1/1 ;  c1/1", 8);
        String twelve = "c1/1" + ";f1/1".repeat(11);
        fault(twelve, NONE);
        fault(twelve + ";c1/1", 60);
    }

    static void promise24_thereIsRoomFor20Joints() {
        fault(() -> Castings.withJoints(7, 19), "4=6", NONE);
        fault(() -> Castings.withJoints(7, 20), "5=6", 0);
        fault(() -> Castings.withJoints(7, 20), "  5=6", 2);
        fault(() -> Castings.withJoints(7, 19), "4=6 ; 5=6", 6);
        fault(TWENTY_JOINTS, NONE);
        fault(TWENTY_JOINTS + ";5=6", 115);
        fault(TWENTY_JOINTS + ";c1/1", NONE);
    }

    static void promise24_noRoomComesBeforeTheFaultsOfTheItem() {
        fault(() -> Castings.withSections(12), "c0/1", 0);
        fault(() -> Castings.withSections(12), "cx", 0);
        fault(() -> Castings.withSections(12), "c", 0);
        fault(() -> Castings.withJoints(7, 20), "0=0", 0);
        fault(() -> Castings.withJoints(7, 20), "0=1", 0);
        fault(() -> Castings.withJoints(7, 20), "99x", 0);
        fault(() -> Castings.withJoints(7, 20), "0", 0);
        fault(Castings::full, "x", 0);
        fault(Castings::full, " ", 1);
    }

    static void promise24_theOneKindIsFullTheOtherIsNot() {
        fault(() -> Castings.withSections(12), "11=10", NONE);
        fault(() -> Castings.withSections(12), "11=10;c1/1", 6);
        fault(() -> Castings.withJoints(7, 20), "c1/1", NONE);
        fault(() -> Castings.withJoints(7, 20), "c1/1;7=0", 5);
    }

    // ---- promise 25

    static void promise25_howManyItemsThereWere() {
        Castings.Making one = () -> Castings.typed(new CastingFeeder(), "c1/1");
        Castings.recorded("load() of one item", one, CastingFeeder::load, 1);
        // 12 sections and 15 joints are what 120 bytes hold at most.
        String items = "c1/1" + ";c1/1".repeat(11)
            + ";0=1;0=2;0=3;0=4;0=5;0=6;0=7;0=8;0=9;1=2;1=3;1=4;1=5;1=6;1=7";
        Castings.Making many = () -> Castings.typed(new CastingFeeder(), items);
        Castings.recorded("load() of 27 items", many, CastingFeeder::load, 27);
        Castings.Making joints = () -> Castings.typed(new CastingFeeder(), TWENTY_JOINTS);
        Castings.recorded("load() of 7 sections and 20 joints", joints, CastingFeeder::load, 27);
    }

    static void promise25_theItemsAreAddedInTheirOrder() {
        CastingFeeder x = Castings.typed(Castings.withSections(2), "0=1;c3/4;2=0;f5/6-7;1=3");
        due("load()", x.load(), 5);
        int[][] sections = {{3, 4, 0, 0}, {5, 6, 7, 1}};
        for (int i = 0; i < 2; i++) {
            for (int what = 0; what < 4; what++) {
                due("section(" + (2 + i) + ", " + what + ")", x.section(2 + i, what), sections[i][what]);
            }
        }
        int[][] joints = {{0, 1}, {2, 0}, {1, 3}};
        for (int i = 0; i < 3; i++) {
            due("joint(" + i + ", 0)", x.joint(i, 0), joints[i][0]);
            due("joint(" + i + ", 1)", x.joint(i, 1), joints[i][1]);
        }
    }

    static void promise25_itFillsTheCasting() {
        CastingFeeder x = Castings.typed(Castings.withJoints(11, 19), "f5000/5000-500;10=11");
        due("load()", x.load(), 2);
        due("sections", x.count(0), 12);
        due("joints", x.count(1), 20);
        due("addSection", x.addSection(1, 1, false), FULL);
        due("join", x.join(9, 11), FULL);
        due("load() once more", x.load(), BAD_STATE);
        due("textFault()", x.textFault(), 0);
    }

    static void promise25_theLastJointStaysWhenSectionsAreAdded() {
        CastingFeeder x = Castings.typed(Castings.withJoints(7, 20), "c1/1;f1/1");
        due("load()", x.load(), 2);
        due("joints", x.count(1), 20);
        due("joint(19, 0)", x.joint(19, 0), 4);
        due("joint(19, 1)", x.joint(19, 1), 6);
        due("neighbours of 6", x.section(6, 10), 5);
        due("neighbours of 8", x.section(8, 10), 0);
    }

    static void promise25_theCastingFreezesAnew() {
        CastingFeeder x = Castings.typed(Castings.star(), "f4000/1000;2=3");
        due("load()", x.load(), 2);
        due("atStep(3)", x.atStep(3), 3);
        due("end(0)", x.end(0), 3);
        // 80 of the star and 200 of the feeder, which bears 560.
        due("the need of 3", x.section(3, 5), 280);
        due("count(9)", x.count(9), 1);
        x.undo();
        due("end(0) after undo()", x.end(0), 2);
        due("count(9) after undo()", x.count(9), 0);
    }

    static void promise25_itIsRecordedAsOneCall() {
        Castings.Making made = () -> Castings.typed(Castings.withSections(8), "c1/1;f1/1;8=9;0=1");
        Castings.recorded("load() with a full history", made, CastingFeeder::load, 4);
        Castings.Making fresh = () -> Castings.typed(new CastingFeeder(), "c1/1;f1/1;0=1");
        Castings.recorded("load() with an empty history", fresh, CastingFeeder::load, 3);
        CastingFeeder x = fresh.make();
        x.load();
        due("undo()", x.undo(), 0);
        due("no sections", x.count(0), 0);
        due("load() again, when it is undone", x.load(), 3);
    }

    static void promise25_theTextStays() {
        CastingFeeder x = Castings.typed(new CastingFeeder(), to120("c1/1;f1/1"));
        for (int i = 1; i <= 6; i++) {
            due("load() " + i, x.load(), 2);
            due("sections", x.count(0), 2 * i);
        }
        due("load() with 12 sections", x.load(), BAD_STATE);
        due("clearText()", x.clearText(), 120);
    }

    static void promise25_aFaultyTextAddsNothing() {
        fault(Castings::star, "c1/1;0=1;x", 9);
        fault(Castings::star, "c1/1;0=1;", 9);
        fault(() -> Castings.withSections(11), "0=1;c1/1;c1/1", 9);
        fault(Castings::full, "", 0);
    }
}

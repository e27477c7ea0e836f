import java.util.Random;

/** Long runs of calls, the same each time, on the program and on the model side by side. */
public final class ModelTests {
    private static final int RUNS = 160;
    private static final int CALLS = 512;

    private ModelTests() {
    }

    public static void main(String[] args) {
        for (int run = 0; run < RUNS && Checks.wrong() == 0; run++) {
            new Run(run).go();
        }
        Checks.end();
    }

    private static final class Run {
        final int number;
        final Random random;
        final CastingFeeder x = new CastingFeeder();
        final Model m = new Model();
        /** How large volumes, areas and chills are: small ones make equal moduli, and sound castings. */
        final int scale;
        final int feeders;

        Run(int number) {
            this.number = number;
            random = new Random(7919L * number + 1);
            scale = new int[] {6, 40, 600, 5000}[number % 4];
            feeders = 1 + number / 4 % 4;
        }

        void go() {
            for (int call = 0; call < CALLS && Checks.wrong() == 0; call++) {
                one(call);
            }
        }

        void due(int call, String name, long got, long want) {
            Checks.due("run " + number + ", call " + call + ": " + name, got, want);
        }

        /** Mostly a number within the bounds, at times one beyond them. */
        int near(int low, int high) {
            int kind = random.nextInt(40);
            if (kind == 0) {
                return low - 1 - random.nextInt(3);
            }
            if (kind == 1) {
                return high + 1 + random.nextInt(3);
            }
            if (kind == 2) {
                return random.nextBoolean() ? Integer.MIN_VALUE : Integer.MAX_VALUE;
            }
            if (kind < 6) {
                return random.nextBoolean() ? low : high;
            }
            return high < low ? low : low + random.nextInt(high - low + 1);
        }

        int size() {
            return random.nextInt(30) == 0 ? near(1, 5000) : 1 + random.nextInt(scale);
        }

        int chill() {
            return random.nextBoolean() ? near(0, 500) : random.nextInt(Math.min(scale, 501));
        }

        int section() {
            return near(0, m.count(0) - 1);
        }

        int joint() {
            return near(0, m.count(1) - 1);
        }

        void one(int call) {
            int kind = random.nextInt(40);
            int a;
            int b;
            int c;
            if (kind < 5) {
                a = size();
                b = size();
                boolean f = random.nextInt(4) < feeders;
                due(call, "addSection(" + a + ", " + b + ", " + f + ")", x.addSection(a, b, f), m.addSection(a, b, f));
            } else if (kind < 12) {
                a = section();
                b = section();
                due(call, "join(" + a + ", " + b + ")", x.join(a, b), m.join(a, b));
            } else if (kind == 12) {
                a = section();
                b = size();
                c = size();
                due(call, "resize(" + a + ", " + b + ", " + c + ")", x.resize(a, b, c), m.resize(a, b, c));
            } else if (kind == 13) {
                a = section();
                b = chill();
                due(call, "setChill(" + a + ", " + b + ")", x.setChill(a, b), m.setChill(a, b));
            } else if (kind == 14 && random.nextBoolean()) {
                a = section();
                due(call, "removeSection(" + a + ")", x.removeSection(a), m.removeSection(a));
            } else if (kind == 15) {
                a = joint();
                due(call, "part(" + a + ")", x.part(a), m.part(a));
            } else if (kind == 16) {
                a = random.nextBoolean() ? near(0, 60) : near(0, 200);
                b = near(0, 500);
                due(call, "setMetal(" + a + ", " + b + ")", x.setMetal(a, b), m.setMetal(a, b));
            } else if (kind == 17) {
                due(call, "undo()", x.undo(), m.undo());
            } else if (kind < 21) {
                text(call);
            } else if (kind < 26) {
                whatIf(call);
            } else {
                query(call);
            }
            due(call, "digest()", x.digest(), m.digest());
        }

        void whatIf(int call) {
            int a = section();
            int b = chill();
            due(call, "leastFeeder(" + a + ")", x.leastFeeder(a), m.leastFeeder(a));
            due(call, "bestFeeder()", x.bestFeeder(), m.bestFeeder());
            if (random.nextInt(3) == 0) {
                due(call, "leastChill(" + a + ")", x.leastChill(a), m.leastChill(a));
            }
            due(call, "excessWith(" + a + ", " + b + ")", x.excessWith(a, b), m.excessWith(a, b));
        }

        void query(int call) {
            int a = section();
            int b = near(0, 10);
            int c = joint();
            int d = near(0, 1);
            boolean below = random.nextBoolean();
            due(call, "count(" + b + ")", x.count(b), m.count(b));
            due(call, "section(" + a + ", " + b + ")", x.section(a, b), m.section(a, b));
            due(call, "modulus(" + a + ", " + below + ")", x.modulus(a, below), m.modulus(a, below));
            due(call, "joint(" + c + ", " + d + ")", x.joint(c, d), m.joint(c, d));
            due(call, "atStep(" + b + ")", x.atStep(b), m.atStep(b));
            due(call, "way(" + a + ", " + b + ")", x.way(a, b), m.way(a, b));
            due(call, "end(" + a + ")", x.end(a), m.end(a));
            due(call, "gathers(" + a + ")", x.gathers(a), m.gathers(a));
        }

        void text(int call) {
            if (random.nextInt(3) != 0) {
                due(call, "clearText()", x.clearText(), m.clearText());
            } else if (random.nextInt(10) == 0) {
                int code = near(0, 255);
                due(call, "type(" + code + ")", x.type(code), m.type(code));
            }
            String typed = spoiled(list());
            for (int i = 0; i < typed.length(); i++) {
                int code = typed.charAt(i);
                due(call, "type(" + code + ")", x.type(code), m.type(code));
                if (random.nextInt(8) == 0) {
                    due(call, "textFault() after " + typed.substring(0, i + 1), x.textFault(), m.textFault());
                }
            }
            due(call, "textFault() of " + typed, x.textFault(), m.textFault());
            if (random.nextInt(3) == 0) {
                due(call, "load() of " + typed, x.load(), m.load());
            }
        }

        String list() {
            StringBuilder list = new StringBuilder();
            int length = 1 + random.nextInt(random.nextInt(4) == 0 ? 24 : 4);
            int known = m.count(0);
            for (int i = 0; i < length; i++) {
                list.append(i > 0 ? blanks() + ";" : "").append(blanks());
                if (known < 2 || random.nextInt(3) == 0) {
                    known++;
                    list.append(random.nextInt(3) == 0 ? 'f' : 'c').append(blanks()).append(digits(size()));
                    list.append(blanks()).append('/').append(blanks()).append(digits(size())).append(blanks());
                    if (random.nextBoolean()) {
                        list.append('-').append(blanks()).append(digits(chill())).append(blanks());
                    }
                } else {
                    int one = random.nextInt(known);
                    int other = random.nextInt(10) == 0 ? one : random.nextInt(known);
                    list.append(digits(one)).append(blanks()).append('=').append(blanks()).append(digits(other));
                }
            }
            return list.append(blanks()).toString();
        }

        String digits(int value) {
            String plain = String.valueOf(Math.abs((long) value));
            return "0".repeat(random.nextInt(8) == 0 ? random.nextInt(5) : 0) + plain;
        }

        String blanks() {
            return random.nextInt(12) == 0 ? " ".repeat(1 + random.nextInt(2)) : "";
        }

        /** At times with a byte put in, taken out or changed, or cut short. */
        String spoiled(String list) {
            StringBuilder text = new StringBuilder(list);
            String some = "cf/-=; 0123456789CF" + (char) 0 + (char) 255 + (char) 9;
            char sign = some.charAt(random.nextInt(some.length()));
            int place = random.nextInt(text.length());
            switch (random.nextInt(8)) {
                case 0:
                    return text.insert(place, sign).toString();
                case 1:
                    return text.deleteCharAt(place).toString();
                case 2:
                    text.setCharAt(place, sign);
                    return text.toString();
                case 3:
                    return text.substring(0, place);
                default:
                    return list;
            }
        }
    }
}

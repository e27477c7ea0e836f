import java.nio.file.Files;
import java.nio.file.Path;
import java.util.List;

/** The examples of README.md: its lines in their order, and the answers that their comments tell. */
public final class ReadmeTests {
    private static List<String> lines = List.of();
    private static int place = 0;

    private ReadmeTests() {
    }

    public static void main(String[] args) throws Exception {
        lines = Files.readAllLines(Path.of("README.md"));
        built();
        typed();
        Checks.end();
    }

    private static void built() {
        stands("CastingFeeder x = new CastingFeeder();");
        CastingFeeder x = new CastingFeeder();
        int wall = x.addSection(100, 100, false);
        told("int wall = x.addSection(100, 100, false);", wall);
        int pores = x.section(wall, 6);
        told("int pores = x.section(wall, 6);", pores);
        int size = x.leastFeeder(wall);
        told("int size = x.leastFeeder(wall);", size);
        int feeder = x.addSection(size * size * size, 5 * size * size, true);
        told("int feeder = x.addSection(size * size * size, 5 * size * size, true);", feeder);
        int joint = x.join(wall, feeder);
        told("int joint = x.join(wall, feeder);", joint);
        int sound = x.count(9);
        told("int sound = x.count(9);", sound);
        int kept = x.count(8);
        told("int kept = x.count(8);", kept);
        int left = x.undo();
        told("int left = x.undo();", left);
    }

    private static void typed() {
        stands("CastingFeeder y = new CastingFeeder();");
        CastingFeeder y = new CastingFeeder();
        stands("String text = \"c100/100-20; f125/125; 0=1\";");
        String text = "c100/100-20; f125/125; 0=1";
        stands("for (int i = 0; i < text.length(); i++) {");
        stands("    y.type(text.charAt(i));");
        for (int i = 0; i < text.length(); i++) {
            y.type(text.charAt(i));
        }
        int fault = y.textFault();
        told("int fault = y.textFault();", fault);
        int items = y.load();
        told("int items = y.load();", items);
    }

    /** Goes on to the line with this code; the rest of it, or null if it does not come. */
    private static String after(String code) {
        while (place < lines.size()) {
            String line = lines.get(place);
            place++;
            if (line.startsWith(code)) {
                return line.substring(code.length());
            }
        }
        return null;
    }

    private static void stands(String code) {
        Checks.holds("README.md goes on with " + code, after(code) != null);
    }

    private static void told(String code, int answer) {
        String rest = after(code);
        boolean isTold = rest != null && rest.matches(" +// " + answer + "[:,] .*");
        Checks.holds("README.md tells of " + code + " the answer " + answer, isTold);
    }
}

import java.util.ArrayDeque;
import java.util.ArrayList;
import java.util.Arrays;
import java.util.Collections;
import java.util.Deque;
import java.util.HashSet;
import java.util.List;
import java.util.Set;
import java.util.TreeSet;

/**
 * The document once more, written another way than the program: states that never change, sets of
 * frozen sections, a text that is cut into tokens first. The two are run side by side.
 */
final class Model {
    record Part(int volume, int area, int chill, boolean feeder) {
    }

    record Edge(int one, int other) {
        boolean has(int s) {
            return one == s || other == s;
        }
    }

    record State(List<Part> parts, List<Edge> edges, int shrinkage, int piping) {
        State with(List<Part> newParts, List<Edge> newEdges) {
            return new State(List.copyOf(newParts), List.copyOf(newEdges), shrinkage, piping);
        }
    }

    record Token(char kind, String digits, int place) {
    }

    /** What freezing a state tells. */
    static final class Frozen {
        final List<Integer> order = new ArrayList<>();
        final int[] need;
        final int[] source;
        final int[] pores;
        final int[] excess;

        Frozen(State s) {
            int n = s.parts().size();
            need = new int[n];
            source = new int[n];
            pores = new int[n];
            excess = new int[n];
            for (int i = 0; i < n; i++) {
                order.add(i);
                need[i] = s.parts().get(i).volume() * s.shrinkage() / 1000;
            }
            Collections.sort(order, (a, b) -> {
                Part p = s.parts().get(a);
                Part q = s.parts().get(b);
                int c = Long.compare((long) p.volume() * (q.area() + q.chill()), (long) q.volume() * (p.area() + p.chill()));
                return c != 0 ? c : Integer.compare(a, b);
            });
            Set<Integer> liquid = new TreeSet<>(order);
            for (int now : order) {
                liquid.remove(now);
                source[now] = -1;
                for (int later : order) {
                    if (liquid.contains(later) && neighbours(s, now, later)) {
                        source[now] = later;
                    }
                }
                if (source[now] >= 0) {
                    need[source[now]] += need[now];
                } else {
                    pores[now] = need[now];
                }
                Part p = s.parts().get(now);
                int bears = p.feeder() ? p.volume() * s.piping() / 1000 : 0;
                excess[now] = pores[now] > bears ? pores[now] - bears : 0;
            }
        }

        int total(int[] row) {
            return Arrays.stream(row).sum();
        }

        int end(int section) {
            return source[section] < 0 ? section : end(source[section]);
        }
    }

    private State now = new State(List.of(), List.of(), 50, 140);
    private final Deque<State> history = new ArrayDeque<>();
    private final StringBuilder text = new StringBuilder();
    private State loaded;
    private int items;

    private State lastState;
    private Frozen lastFrozen;

    private Frozen frozen() {
        if (lastState != now) {
            lastState = now;
            lastFrozen = new Frozen(now);
        }
        return lastFrozen;
    }

    private void change(State next) {
        history.addLast(now);
        if (history.size() > 5) {
            history.removeFirst();
        }
        now = next;
    }

    static boolean neighbours(State s, int a, int b) {
        return s.edges().contains(new Edge(a, b)) || s.edges().contains(new Edge(b, a));
    }

    private boolean no(int section) {
        return section < 0 || section >= now.parts().size();
    }

    private static boolean out(int value, int low, int high) {
        return value < low || value > high;
    }

    private State replaced(int section, Part part) {
        List<Part> parts = new ArrayList<>(now.parts());
        parts.set(section, part);
        return now.with(parts, now.edges());
    }

    int addSection(int volume, int area, boolean feeder) {
        if (out(volume, 1, 5000) || out(area, 1, 5000)) {
            return -3;
        }
        if (now.parts().size() == 12) {
            return -5;
        }
        List<Part> parts = new ArrayList<>(now.parts());
        parts.add(new Part(volume, area, 0, feeder));
        change(now.with(parts, now.edges()));
        return parts.size() - 1;
    }

    int resize(int section, int volume, int area) {
        if (no(section)) {
            return -2;
        }
        if (out(volume, 1, 5000) || out(area, 1, 5000)) {
            return -3;
        }
        Part p = now.parts().get(section);
        change(replaced(section, new Part(volume, area, p.chill(), p.feeder())));
        return p.volume();
    }

    private State chilled(int section, int chill) {
        Part p = now.parts().get(section);
        return replaced(section, new Part(p.volume(), p.area(), chill, p.feeder()));
    }

    int setChill(int section, int chill) {
        if (no(section)) {
            return -2;
        }
        if (out(chill, 0, 500)) {
            return -3;
        }
        int before = now.parts().get(section).chill();
        change(chilled(section, chill));
        return before;
    }

    int removeSection(int section) {
        if (no(section)) {
            return -2;
        }
        List<Part> parts = new ArrayList<>(now.parts());
        parts.remove(section);
        List<Edge> edges = new ArrayList<>();
        for (Edge e : now.edges()) {
            if (!e.has(section)) {
                edges.add(new Edge(e.one() - (e.one() > section ? 1 : 0), e.other() - (e.other() > section ? 1 : 0)));
            }
        }
        change(now.with(parts, edges));
        return parts.size();
    }

    int join(int one, int other) {
        if (no(one) || no(other)) {
            return -2;
        }
        if (one == other || neighbours(now, one, other)) {
            return -4;
        }
        if (now.edges().size() == 20) {
            return -5;
        }
        List<Edge> edges = new ArrayList<>(now.edges());
        edges.add(new Edge(one, other));
        change(now.with(now.parts(), edges));
        return edges.size() - 1;
    }

    int part(int joint) {
        if (out(joint, 0, now.edges().size() - 1)) {
            return -2;
        }
        List<Edge> edges = new ArrayList<>(now.edges());
        edges.remove(joint);
        change(now.with(now.parts(), edges));
        return edges.size();
    }

    int setMetal(int shrinkage, int piping) {
        if (out(shrinkage, 0, 200) || out(piping, 0, 500)) {
            return -3;
        }
        int before = now.shrinkage();
        change(new State(now.parts(), now.edges(), shrinkage, piping));
        return before;
    }

    int count(int what) {
        Frozen f = frozen();
        int all = now.parts().stream().mapToInt(Part::volume).sum();
        int kept = now.parts().stream().filter(p -> !p.feeder()).mapToInt(Part::volume).sum();
        int[] numbers = {now.parts().size(), now.edges().size(), now.shrinkage(), now.piping(),
            (int) now.parts().stream().filter(Part::feeder).count(),
            (int) Arrays.stream(f.source).filter(s -> s < 0).count(),
            f.total(f.pores), f.total(f.excess), all == 0 ? 0 : 1000 * kept / all, f.total(f.excess) == 0 ? 1 : 0};
        return out(what, 0, 9) ? -3 : numbers[what];
    }

    int section(int section, int what) {
        if (no(section)) {
            return -2;
        }
        Frozen f = frozen();
        Part p = now.parts().get(section);
        int[] numbers = {p.volume(), p.area(), p.chill(), p.feeder() ? 1 : 0, f.order.indexOf(section),
            f.need[section], f.pores[section], f.excess[section], f.source[section],
            (int) Arrays.stream(f.source).filter(s -> s == section).count(),
            (int) now.edges().stream().filter(e -> e.has(section)).count()};
        return out(what, 0, 10) ? -3 : numbers[what];
    }

    int modulus(int section, boolean below) {
        if (no(section)) {
            return -2;
        }
        Part p = now.parts().get(section);
        int lower = p.area() + p.chill();
        int d = Math.min(p.volume(), lower);
        while (p.volume() % d != 0 || lower % d != 0) {
            d--;
        }
        return (below ? lower : p.volume()) / d;
    }

    int joint(int joint, int which) {
        if (out(joint, 0, now.edges().size() - 1)) {
            return -2;
        }
        if (out(which, 0, 1)) {
            return -3;
        }
        Edge e = now.edges().get(joint);
        return which == 0 ? e.one() : e.other();
    }

    int atStep(int step) {
        if (step < 0) {
            return -3;
        }
        return step < now.parts().size() ? frozen().order.get(step) : -1;
    }

    int way(int section, int index) {
        if (no(section)) {
            return -2;
        }
        if (index < 0) {
            return -3;
        }
        Frozen f = frozen();
        List<Integer> way = new ArrayList<>();
        for (int s = section; s >= 0; s = f.source[s]) {
            way.add(s);
        }
        return index < way.size() ? way.get(index) : -1;
    }

    int end(int section) {
        return no(section) ? -2 : frozen().end(section);
    }

    int gathers(int section) {
        if (no(section)) {
            return -2;
        }
        Frozen f = frozen();
        int sum = 0;
        for (int i = 0; i < now.parts().size(); i++) {
            if (f.end(i) == section) {
                sum += now.parts().get(i).volume() * now.shrinkage() / 1000;
            }
        }
        return sum;
    }

    private boolean soundWith(int section, int k) {
        List<Part> parts = new ArrayList<>(now.parts());
        parts.add(new Part(k * k * k, 5 * k * k, 0, true));
        List<Edge> edges = new ArrayList<>(now.edges());
        edges.add(new Edge(section, parts.size() - 1));
        Frozen f = new Frozen(now.with(parts, edges));
        return f.total(f.excess) == 0;
    }

    private boolean noRoom() {
        return now.parts().size() == 12 || now.edges().size() == 20;
    }

    private int leastSize(int section) {
        int k = 1;
        while (k <= 15 && !soundWith(section, k)) {
            k++;
        }
        return k <= 15 ? k : -1;
    }

    int leastFeeder(int section) {
        return no(section) ? -2 : noRoom() ? -5 : leastSize(section);
    }

    int bestFeeder() {
        if (noRoom()) {
            return -5;
        }
        int best = -1;
        for (int i = 0; i < now.parts().size(); i++) {
            int size = leastSize(i);
            if (size > 0 && (best < 0 || 100 * size + i < best)) {
                best = 100 * size + i;
            }
        }
        return best;
    }

    private int excessAt(int section, int chill) {
        Frozen f = new Frozen(chilled(section, chill));
        return f.total(f.excess);
    }

    int leastChill(int section) {
        if (no(section)) {
            return -2;
        }
        for (int chill = 0; chill <= 500; chill++) {
            if (excessAt(section, chill) == 0) {
                return chill;
            }
        }
        return -1;
    }

    int excessWith(int section, int chill) {
        return no(section) ? -2 : out(chill, 0, 500) ? -3 : excessAt(section, chill);
    }

    int undo() {
        if (history.isEmpty()) {
            return -4;
        }
        now = history.removeLast();
        return history.size();
    }

    int type(int code) {
        if (out(code, 0, 255)) {
            return -3;
        }
        if (text.length() == 120) {
            return -5;
        }
        return text.append((char) code).length();
    }

    int clearText() {
        int length = text.length();
        text.setLength(0);
        return length;
    }

    /** Numbers have the kind 9, the end has the kind 0, each other byte is its own kind. */
    private List<Token> tokens() {
        List<Token> tokens = new ArrayList<>();
        int i = 0;
        while (i < text.length()) {
            int start = i;
            while (i < text.length() && text.charAt(i) >= '0' && text.charAt(i) <= '9') {
                i++;
            }
            if (i > start) {
                tokens.add(new Token('9', text.substring(start, i), start));
            } else {
                if (text.charAt(i) != ' ') {
                    // A byte that is 0 must not be taken for the end.
                    char kind = text.charAt(i) == 0 ? 1 : text.charAt(i);
                    tokens.add(new Token(kind, "", start));
                }
                i++;
            }
        }
        tokens.add(new Token((char) 0, "", text.length()));
        return tokens;
    }

    private static int number(Token t, int low, int high) {
        if (t.kind() != '9' || t.digits().length() > 4) {
            return -1;
        }
        int value = Integer.parseInt(t.digits());
        return out(value, low, high) ? -1 : value;
    }

    int textFault() {
        List<Token> t = tokens();
        List<Part> parts = new ArrayList<>(now.parts());
        List<Edge> edges = new ArrayList<>(now.edges());
        Set<Set<Integer>> pairs = new HashSet<>();
        edges.forEach(e -> pairs.add(Set.of(e.one(), e.other())));
        items = 0;
        for (int i = 0;; i++) {
            char kind = t.get(i).kind();
            if (kind == 'c' || kind == 'f') {
                if (parts.size() == 12) {
                    return t.get(i).place();
                }
                int volume = number(t.get(++i), 1, 5000);
                if (volume < 0) {
                    return t.get(i).place();
                }
                if (t.get(++i).kind() != '/') {
                    return t.get(i).place();
                }
                int area = number(t.get(++i), 1, 5000);
                if (area < 0) {
                    return t.get(i).place();
                }
                int chill = 0;
                if (t.get(i + 1).kind() == '-') {
                    i += 2;
                    chill = number(t.get(i), 0, 500);
                    if (chill < 0) {
                        return t.get(i).place();
                    }
                }
                parts.add(new Part(volume, area, chill, kind == 'f'));
            } else if (kind == '9') {
                int one = number(t.get(i), 0, parts.size() - 1);
                if (edges.size() == 20 || one < 0) {
                    return t.get(i).place();
                }
                if (t.get(++i).kind() != '=') {
                    return t.get(i).place();
                }
                int other = number(t.get(++i), 0, parts.size() - 1);
                if (other < 0 || one == other || !pairs.add(Set.of(one, other))) {
                    return t.get(i).place();
                }
                edges.add(new Edge(one, other));
            } else {
                return t.get(i).place();
            }
            items++;
            i++;
            if (t.get(i).kind() == 0) {
                loaded = now.with(parts, edges);
                return -1;
            }
            if (t.get(i).kind() != ';') {
                return t.get(i).place();
            }
        }
    }

    int load() {
        if (textFault() != -1) {
            return -4;
        }
        change(loaded);
        return items;
    }

    long digest() {
        long h = 17;
        for (int i = 0; i < 10; i++) {
            h = 31 * h + count(i);
        }
        for (int s = 0; s < now.parts().size(); s++) {
            for (int i = 0; i < 11; i++) {
                h = 31 * h + section(s, i);
            }
        }
        for (Edge e : now.edges()) {
            h = 31 * (31 * h + e.one()) + e.other();
        }
        return h;
    }
}

import java.util.ArrayDeque;
import java.util.ArrayList;
import java.util.Arrays;
import java.util.List;
import java.util.function.ToLongFunction;

/** The document once more, written for reading alone: what ModelTest holds the class against. */
final class Model {
    /** What an E sees. */
    static final class View {
        int strength, number, other, seats, year, apart;
    }

    interface Expression {
        int of(View view);
    }

    static final class Rule {
        final Expression[] parts = new Expression[3];
    }

    @SuppressWarnings("serial")
    static final class Fault extends RuntimeException {
        final int place;

        Fault(int place) {
            super("", null, false, false);
            this.place = place;
        }
    }

    static class House {
        int number;
        int table = -1;

        int meets(int v, int apart) { return v; }
        int forgets(int v, int year) { return v; }
        int sounds(int v) { return v; }
        int kind() { return 0; }
        House copy() {
            House h = ofKind(kind());
            h.number = number;
            h.table = table;
            return h;
        }
    }

    static class Loud extends House {
        int meets(int v, int apart) { return 2 * super.meets(v, apart); }
        int forgets(int v, int year) { return 1 + super.forgets(v, year); }
        int sounds(int v) { return 5 + super.sounds(v); }
        int kind() { return 1; }
    }

    static class Old extends House {
        int meets(int v, int apart) { return super.meets(v, apart) / 2; }
        int forgets(int v, int year) { return super.forgets(v, year) / 2; }
        int sounds(int v) { return 0; }
        int kind() { return 2; }
    }

    static class Band extends Loud {
        int meets(int v, int apart) { return number + super.meets(v, apart); }
        int forgets(int v, int year) { return 2 * super.forgets(v, year); }
        int sounds(int v) { return 2 * super.sounds(v); }
        int kind() { return 3; }
    }

    static class Walled extends Old {
        int meets(int v, int apart) { return apart > 2 ? 0 : super.meets(v, apart); }
        int forgets(int v, int year) { return year % 2 == 0 ? 0 : super.forgets(v, year); }
        int kind() { return 4; }
    }

    static class Baby extends House {
        int meets(int v, int apart) { return 3; }
        int sounds(int v) { return number; }
        int kind() { return 5; }
    }

    static House ofKind(int kind) {
        return switch (kind) {
            case 0 -> new House();
            case 1 -> new Loud();
            case 2 -> new Old();
            case 3 -> new Band();
            case 4 -> new Walled();
            default -> new Baby();
        };
    }

    static boolean isA(House h, int kind) {
        return ofKind(kind).getClass().isInstance(h);
    }

    static final class World {
        int year = 0;
        int limit = 20;
        int rule = 0;
        List<House> row = new ArrayList<>();
        int[][] ties = new int[8][8];

        World copy() {
            World w = new World();
            w.year = year;
            w.limit = limit;
            w.rule = rule;
            for (House h : row) {
                w.row.add(h.copy());
            }
            for (int i = 0; i < 8; i++) {
                w.ties[i] = ties[i].clone();
            }
            return w;
        }
    }

    World world = new World();
    World image = null;
    final List<Rule> rules = new ArrayList<>();
    final List<Integer> tape = new ArrayList<>();
    final int[] sorts = {-1, -1, -1, -1};
    final int[][] rows = new int[4][];

    Model() {
        for (char c : "meets 5 ; fades 2 ; sounds seats ;".toCharArray()) {
            tape.add((int) c);
        }
        text();
    }

    // ---- texts

    /** A recursive descent over the bytes, a method for each line of the grammar. */
    final class Parser {
        int at = 0;
        int start;
        String token;
        int open = 0;

        Rule rule() {
            next();
            Rule rule = new Rule();
            String[] keys = {"meets", "fades", "sounds"};
            for (int i = 0; i < 3; i++) {
                take(keys[i]);
                rule.parts[i] = either();
                take(";");
            }
            if (!token.isEmpty()) {
                throw new Fault(start);
            }
            return rule;
        }

        void next() {
            while (at < tape.size() && (tape.get(at) == 32 || tape.get(at) == 10)) {
                at++;
            }
            start = at;
            StringBuilder b = new StringBuilder();
            if (at < tape.size()) {
                char c = (char) (int) tape.get(at);
                b.append(c);
                at++;
                String more = c >= 'a' && c <= 'z' ? "[a-z]" : c >= '0' && c <= '9' ? "[0-9]" : null;
                while (more != null && at < tape.size() && ("" + (char) (int) tape.get(at)).matches(more)) {
                    b.append((char) (int) tape.get(at));
                    at++;
                }
            }
            token = b.toString();
        }

        void take(String wanted) {
            if (!token.equals(wanted)) {
                throw new Fault(start);
            }
            next();
        }

        boolean goesOn(String sign) {
            if (!token.equals(sign)) {
                return false;
            }
            next();
            return true;
        }

        void open() {
            if (open == 5) {
                throw new Fault(start);
            }
            open++;
            next();
        }

        Expression either() {
            Expression left = both();
            while (goesOn("or")) {
                Expression l = left;
                Expression r = both();
                left = v -> l.of(v) != 0 | r.of(v) != 0 ? 1 : 0;
            }
            return left;
        }

        Expression both() {
            Expression left = negated();
            while (goesOn("and")) {
                Expression l = left;
                Expression r = negated();
                left = v -> l.of(v) != 0 & r.of(v) != 0 ? 1 : 0;
            }
            return left;
        }

        Expression negated() {
            if (token.equals("not")) {
                open();
                Expression e = negated();
                open--;
                return v -> e.of(v) == 0 ? 1 : 0;
            }
            Expression left = sum();
            if (goesOn("<")) {
                Expression r = sum();
                return v -> left.of(v) < r.of(v) ? 1 : 0;
            }
            if (goesOn("=")) {
                Expression r = sum();
                return v -> left.of(v) == r.of(v) ? 1 : 0;
            }
            return left;
        }

        Expression sum() {
            Expression left = term();
            while (token.equals("+") || token.equals("-")) {
                int sign = token.equals("+") ? 1 : -1;
                next();
                Expression l = left;
                Expression r = term();
                left = v -> l.of(v) + sign * r.of(v);
            }
            return left;
        }

        Expression term() {
            Expression left = one();
            while (goesOn("*")) {
                Expression l = left;
                Expression r = one();
                left = v -> l.of(v) * r.of(v);
            }
            return left;
        }

        Expression one() {
            String t = token;
            if (t.matches("[0-9]{1,4}")) {
                next();
                return v -> Integer.parseInt(t);
            }
            if (Arrays.asList("strength", "number", "other", "seats", "year", "apart").contains(t)) {
                next();
                return v -> switch (t) {
                    case "strength" -> v.strength;
                    case "number" -> v.number;
                    case "other" -> v.other;
                    case "seats" -> v.seats;
                    case "year" -> v.year;
                    default -> v.apart;
                };
            }
            if (t.equals("-")) {
                open();
                Expression e = one();
                open--;
                return v -> -e.of(v);
            }
            if (t.equals("(")) {
                open();
                Expression e = either();
                take(")");
                open--;
                return e;
            }
            throw new Fault(start);
        }
    }

    int feed(int letter) {
        if (letter < 0 || letter > 255) {
            return -2;
        }
        if (tape.size() == 160) {
            return -4;
        }
        tape.add(letter);
        return tape.size();
    }

    int text() {
        if (rules.size() == 6) {
            return -4;
        }
        try {
            rules.add(new Parser().rule());
            return rules.size() - 1;
        } catch (Fault f) {
            return -100 - f.place;
        } finally {
            tape.clear();
        }
    }

    int force(int text) {
        if (text < 0 || text >= rules.size()) {
            return -2;
        }
        int was = world.rule;
        world.rule = text;
        return was;
    }

    // ---- what a street does

    View view(World w, int one, int other) {
        View v = new View();
        House h = w.row.get(one);
        v.number = h.number;
        v.seats = h.table < 0 ? 0 : (int) w.row.stream().filter(g -> g.table == h.table).count();
        v.year = w.year;
        if (other >= 0) {
            v.strength = w.ties[one][other];
            v.other = w.row.get(other).number;
            v.apart = Math.abs(one - other);
        }
        return v;
    }

    int part(World w, int part, View v) {
        int value = rules.get(w.rule).parts[part].of(v);
        return value < 0 ? 0 : value > 60 ? 60 : value;
    }

    int meets(World w, int one, int other) {
        View v = view(w, one, other);
        return w.row.get(one).meets(part(w, 0, v), v.apart);
    }

    int forgets(World w, int one, int other) {
        return w.row.get(one).forgets(part(w, 1, view(w, one, other)), w.year);
    }

    int sounds(World w, int one) {
        return w.row.get(one).sounds(part(w, 2, view(w, one, -1)));
    }

    World feasted(World before) {
        World w = before.copy();
        for (int[] t : twos(before)) {
            int a = t[0], b = t[1];
            if (before.row.get(a).table >= 0 && before.row.get(a).table == before.row.get(b).table) {
                w.ties[a][b] = w.ties[b][a] = Math.min(99, before.ties[a][b] + meets(before, a, b) + meets(before, b, a));
            }
        }
        return w;
    }

    World aged(World before) {
        World w = before.copy();
        for (int[] t : twos(before)) {
            int a = t[0], b = t[1];
            w.ties[a][b] = w.ties[b][a] = Math.max(0, before.ties[a][b] - forgets(before, a, b) - forgets(before, b, a));
        }
        w.year++;
        return w;
    }

    World behind(World w, int n) {
        for (int i = 0; i < n; i++) {
            w = aged(feasted(w));
        }
        return w;
    }

    static List<int[]> twos(World w) {
        List<int[]> all = new ArrayList<>();
        for (int a = 0; a < w.row.size(); a++) {
            for (int b = a + 1; b < w.row.size(); b++) {
                all.add(new int[] {a, b});
            }
        }
        return all;
    }

    static boolean know(World w, int a, int b) {
        return a != b && w.ties[a][b] >= w.limit;
    }

    static int friends(World w) {
        return (int) twos(w).stream().filter(t -> know(w, t[0], t[1])).count();
    }

    /** Ways from one to all, by those left of a row. */
    static int[] ways(World w, int from, int without) {
        int[] ways = new int[w.row.size()];
        Arrays.fill(ways, -1);
        ways[from] = 0;
        ArrayDeque<Integer> queue = new ArrayDeque<>();
        queue.add(from);
        while (!queue.isEmpty()) {
            int a = queue.remove();
            for (int b = 0; b < ways.length; b++) {
                if (b != without && ways[b] < 0 && know(w, a, b)) {
                    ways[b] = ways[a] + 1;
                    queue.add(b);
                }
            }
        }
        return ways;
    }

    static List<Integer> companySizes(World w, int without) {
        List<Integer> sizes = new ArrayList<>();
        boolean[] in = new boolean[w.row.size()];
        for (int a = 0; a < in.length; a++) {
            if (a == without || in[a]) {
                continue;
            }
            int[] ways = ways(w, a, without);
            int size = 0;
            for (int b = 0; b < in.length; b++) {
                if (ways[b] >= 0) {
                    in[b] = true;
                    size++;
                }
            }
            sizes.add(size);
        }
        return sizes;
    }

    static int longest(World w, int ofStrangers) {
        int longest = 0;
        for (int[] t : twos(w)) {
            int way = ways(w, t[0], -1)[t[1]];
            longest = Math.max(longest, way < 0 ? ofStrangers : way);
        }
        return longest;
    }

    int figure(World w, int what) {
        switch (what) {
            case 0: return friends(w);
            case 1: return companySizes(w, -1).size();
            case 2: return companySizes(w, -1).stream().mapToInt(i -> i).max().orElse(0);
            case 3: return twos(w).stream().mapToInt(t -> w.ties[t[0]][t[1]]).sum();
            case 4: return longest(w, 0);
            default: break;
        }
        int quiet = -1;
        int least = Integer.MAX_VALUE;
        for (int t = 0; t < 4; t++) {
            int din = 0;
            boolean anybody = false;
            for (int h = 0; h < w.row.size(); h++) {
                if (w.row.get(h).table == t) {
                    anybody = true;
                    din += sounds(w, h);
                }
            }
            if (anybody && din < least) {
                least = din;
                quiet = t;
            }
        }
        return quiet;
    }

    // ---- houses

    boolean no(int house) {
        return house < 0 || house >= world.row.size();
    }

    static boolean out(int v, int least, int most) {
        return v < least || v > most;
    }

    int set(int what, int of, int v) {
        if (out(what, 0, 3) || what > 1 && no(of)) {
            return -2;
        }
        int was;
        switch (what) {
            case 0:
                if (out(v, 0, 999)) { return -2; }
                was = world.year;
                world.year = v;
                return was;
            case 1:
                if (out(v, 1, 99)) { return -2; }
                was = world.limit;
                world.limit = v;
                return was;
            case 2:
                if (out(v, 0, 9)) { return -2; }
                was = world.row.get(of).number;
                world.row.get(of).number = v;
                return was;
            default:
                if (out(v, -1, 3)) { return -2; }
                was = world.row.get(of).table;
                world.row.get(of).table = v;
                return was;
        }
    }

    int house(int kind, int number) {
        if (out(kind, 0, 5) || out(number, 0, 9)) {
            return -2;
        }
        if (world.row.size() == 8) {
            return -4;
        }
        House h = ofKind(kind);
        h.number = number;
        world.row.add(h);
        return world.row.size() - 1;
    }

    int bind(int one, int other, int v) {
        if (no(one) || no(other) || one == other || out(v, 0, 99)) {
            return -2;
        }
        int was = world.ties[one][other];
        world.ties[one][other] = world.ties[other][one] = v;
        return was;
    }

    int told(int of, int what) {
        if (what == 0) {
            return world.year;
        }
        if (what == 1) {
            return world.limit;
        }
        if (no(of)) {
            return -2;
        }
        House h = world.row.get(of);
        switch (what) {
            case 2: return h.number;
            case 3: return h.table;
            case 4: return h.kind();
            case 5: return (int) twos(world).stream().filter(t -> (t[0] == of || t[1] == of) && know(world, t[0], t[1])).count();
            case 6: return view(world, of, -1).seats;
            case 7: return sounds(world, of);
            default: return out(what, 10, 17) || no(what - 10) ? -2 : world.ties[of][what - 10];
        }
    }

    // ---- feasts, years

    int asks(int one, int other, int what) {
        if (no(one) || no(other) || one == other || out(what, 0, 1)) {
            return -2;
        }
        return what == 0 ? meets(world, one, other) : forgets(world, one, other);
    }

    int feast() {
        world = feasted(world);
        return friends(world);
    }

    int year() {
        if (world.year == 999) {
            return -3;
        }
        world = aged(world);
        return friends(world);
    }

    int street(int what) {
        return out(what, 0, 5) ? -2 : figure(world, what);
    }

    int way(int one, int other) {
        return no(one) || no(other) ? -2 : ways(world, one, -1)[other];
    }

    int run(int n, int what) {
        return out(n, 0, 20) || out(what, 0, 4) ? -2 : figure(behind(world, n), what);
    }

    int takes(int k) {
        if (out(k, 0, 28)) {
            return -2;
        }
        for (int n = 0; n <= 20; n++) {
            if (friends(behind(world, n)) >= k) {
                return n;
            }
        }
        return -1;
    }

    // ---- what would be best

    /** The first of the ways to go on that is best, if better than so: itself, what it is worth. */
    static <T> int[] first(List<T> ways, ToLongFunction<T> worth, int so) {
        int[] best = {-1, so};
        for (int i = 0; i < ways.size(); i++) {
            int w = (int) worth.applyAsLong(ways.get(i));
            if (w > best[1]) {
                best = new int[] {i, w};
            }
        }
        return best;
    }

    int best(int house, int n, int what) {
        if (no(house) || out(n, 0, 20) || out(what, 0, 1)) {
            return -2;
        }
        return first(List.of(0, 1, 2, 3), t -> {
            World w = world.copy();
            w.row.get(house).table = t;
            return friends(behind(w, n));
        }, -1)[what];
    }

    int change(int n, int what) {
        if (out(n, 0, 20) || out(what, 0, 1)) {
            return -2;
        }
        List<int[]> changes = new ArrayList<>();
        for (int[] t : twos(world)) {
            int a = world.row.get(t[0]).table, b = world.row.get(t[1]).table;
            if (a != b && a != -1 && b != -1) {
                changes.add(t);
            }
        }
        int[] best = first(changes, t -> {
            World w = world.copy();
            w.row.get(t[0]).table = world.row.get(t[1]).table;
            w.row.get(t[1]).table = world.row.get(t[0]).table;
            return friends(behind(w, n));
        }, friends(behind(world, n)));
        return what == 1 ? best[1] : best[0] < 0 ? -1 : 10 * changes.get(best[0])[0] + changes.get(best[0])[1];
    }

    int split(int n, int what) {
        if (out(n, 0, 2) || out(what, 0, 1)) {
            return -2;
        }
        List<Integer> all = new ArrayList<>();
        for (int bits = 0; bits < Math.pow(2, world.row.size()); bits++) {
            all.add(bits);
        }
        return first(all, bits -> {
            World w = world.copy();
            for (int i = 0; i < w.row.size(); i++) {
                w.row.get(i).table = (bits & 1 << i) == 0 ? 0 : 1;
            }
            return friends(behind(w, n));
        }, -1)[what];
    }

    int missed(int what) {
        if (out(what, 0, 1)) {
            return -2;
        }
        List<Integer> all = new ArrayList<>();
        for (int i = 0; i < world.row.size(); i++) {
            all.add(i);
        }
        return first(all, i -> companySizes(world, i).size(), -1)[what];
    }

    int match(int what) {
        if (out(what, 0, 1)) {
            return -2;
        }
        List<int[]> strangers = new ArrayList<>();
        for (int[] t : twos(world)) {
            if (!know(world, t[0], t[1])) {
                strangers.add(t);
            }
        }
        int[] best = first(strangers, t -> {
            World w = world.copy();
            w.ties[t[0]][t[1]] = w.ties[t[1]][t[0]] = 99;
            return -longest(w, 9);
        }, -longest(world, 9));
        return what == 1 ? -best[1] : best[0] < 0 ? -1 : 10 * strangers.get(best[0])[0] + strangers.get(best[0])[1];
    }

    // ---- friendships that were told

    int tells(int sheet, int house, int what) {
        if (out(sheet, 0, 3) || no(house) || out(what, 0, 6)) {
            return -2;
        }
        if (sorts[sheet] < 0) {
            return -11;
        }
        int size = world.row.size();
        if (rows[sheet].length != size) {
            return -2;
        }
        if (what > 4) {
            List<Integer> limits = new ArrayList<>();
            for (int l = 1; l <= 99; l++) {
                boolean fits = true;
                for (int j = 0; j < size; j++) {
                    fits &= rows[sheet][j] >= 20 == world.ties[house][j] >= l;
                }
                if (fits) {
                    limits.add(l);
                }
            }
            return what == 5 ? limits.size() : limits.isEmpty() ? -1 : limits.get(0);
        }
        int[] choices = {1, 6, 10, 4, rules.size()};
        int bits = 0;
        for (int i = 0; i < choices[what]; i++) {
            World w = world.copy();
            House h = w.row.get(house);
            switch (what) {
                case 0: break;
                case 1:
                    House other = ofKind(i);
                    other.number = h.number;
                    other.table = h.table;
                    w.row.set(house, other);
                    break;
                case 2: h.number = i; break;
                case 3: h.table = i; break;
                default: w.rule = i; break;
            }
            w = feasted(w);
            int otherwise = 0;
            for (int j = 0; j < size; j++) {
                if (rows[sheet][j] != w.ties[house][j]) {
                    otherwise |= 1 << j;
                }
            }
            if (what == 0) {
                return otherwise;
            }
            bits |= otherwise == 0 ? 1 << i : 0;
        }
        return bits;
    }

    int film(int sheet, int house) {
        if (out(sheet, 0, 3) || no(house)) {
            return -2;
        }
        sorts[sheet] = 0;
        rows[sheet] = Arrays.copyOf(feasted(world).ties[house], world.row.size());
        return world.row.size();
    }

    int drawn(int seed, int n) {
        if (out(n, 0, 20)) {
            return -2;
        }
        World w = world.copy();
        int z = seed;
        for (House h : w.row) {
            z = z * 1103515245 + 12345;
            h.table = z >>> 9 & 3;
        }
        return friends(behind(w, n));
    }

    long chance(int seed, int m, int k, int part) {
        if (out(m, 1, 20) || out(k, 0, 28) || out(part, 0, 1)) {
            return -4611686018427387904L;
        }
        long above = 0;
        for (int i = 0; i < m; i++) {
            above += drawn(seed + i, 3) >= k ? 1 : 0;
        }
        long common = java.math.BigInteger.valueOf(above).gcd(java.math.BigInteger.valueOf(m)).longValue();
        return part == 0 ? above / common : m / common;
    }

    int image() {
        image = world.copy();
        return world.row.size();
    }

    int back() {
        if (image == null) {
            return -3;
        }
        world = image.copy();
        return world.row.size();
    }

    int count(int what) {
        switch (what) {
            case 0: return world.row.size();
            case 1: return (int) world.row.stream().filter(h -> h.table != -1).count();
            case 2: return world.year;
            case 3: return rules.size();
            case 4: return tape.size();
            case 5: return world.rule;
            default: return -2;
        }
    }

    // ---- the host

    int sheet(int sheet, int sort, int n) {
        if (out(sheet, 0, 3) || out(sort, -1, 2) || sort >= 0 && n > 40) {
            return -2;
        }
        if (sort >= 0 && n < 0) {
            return -14;
        }
        sorts[sheet] = sort;
        rows[sheet] = sort < 0 ? null : new int[n];
        return 1;
    }

    int cell(int sheet, int i, int v) {
        if (out(sheet, 0, 3)) {
            return -2;
        }
        if (rows[sheet] == null) {
            return -11;
        }
        if (out(i, 0, rows[sheet].length - 1)) {
            return -12;
        }
        rows[sheet][i] = sorts[sheet] == 0 ? (byte) v : sorts[sheet] == 1 ? (short) v : v;
        return 1;
    }

    int copy(int sheet, int i, int other, int j, int n) {
        if (out(sheet, 0, 3) || out(other, 0, 3)) {
            return -2;
        }
        if (rows[sheet] == null || rows[other] == null) {
            return -11;
        }
        if (sorts[sheet] != sorts[other]) {
            return -13;
        }
        if (n < 0 || i < 0 || j < 0 || (long) i + n > rows[sheet].length || (long) j + n > rows[other].length) {
            return -12;
        }
        int[] from = rows[sheet].clone();
        for (int k = 0; k < n; k++) {
            rows[other][j + k] = from[i + k];
        }
        return n;
    }

    int houses(int sheet, int sort, int from, int n) {
        if (out(sheet, 0, 3) || out(sort, 0, 2) || out(n, 0, 8)) {
            return -2;
        }
        if (sorts[sheet] != -1 && sorts[sheet] != sort) {
            return -13;
        }
        if (sorts[sheet] == -1) {
            return -11;
        }
        int came = 0;
        for (long at = from; at < from + 2L * n; at += 2) {
            if (at < 0 || at + 1 >= rows[sheet].length) {
                return -12;
            }
            if (house(rows[sheet][(int) at], rows[sheet][(int) at + 1]) >= 0) {
                came++;
            }
        }
        return came;
    }

    int taken(int house, int k) {
        if (out(k, 0, 5)) {
            return -2;
        }
        if (no(house)) {
            return -11;
        }
        return isA(world.row.get(house), k) ? world.row.get(house).number : -13;
    }
}

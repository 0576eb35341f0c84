import java.util.ArrayList;
import java.util.HashMap;
import java.util.HashSet;
import java.util.List;
import java.util.Map;
import java.util.Set;

/**
 * The document once more, slow and written another way, to compare ChoirStalls with: the grammar
 * as rules that an Earley recogniser goes by, tests as trees, the choir as objects copied whole.
 */
final class Model {
    static final class Beast { String name; int grim; int fine; }
    static final class Carver { String name; int skill; int pace; int likes = -1; int carved; }
    static final class Bishop { String name; int grim; int from; }
    static final class Stall { String name; int oak; int bears = -1; int quality; int worms; int rust; }
    static final class Order { boolean oil; int stall; int beast = -1; int carver = -1; int work; Tree test; }

    interface Tree { int of(World w); }

    static final class World {
        int day;
        int damp = 3;
        int coins;
        int carved;
        int without = -1;
        List<Beast> beasts = new ArrayList<>();
        List<Carver> carvers = new ArrayList<>();
        List<Bishop> bishops = new ArrayList<>();
        List<Stall> stalls = new ArrayList<>();
        List<Order> orders = new ArrayList<>();

        World copy() {
            World w = new World();
            w.day = day;
            w.damp = damp;
            w.coins = coins;
            w.carved = carved;
            w.beasts = beasts;
            w.bishops = bishops;
            for (Carver c : carvers) {
                Carver d = new Carver();
                d.skill = c.skill; d.pace = c.pace; d.likes = c.likes; d.carved = c.carved;
                w.carvers.add(d);
            }
            for (Stall s : stalls) {
                Stall t = new Stall();
                t.oak = s.oak; t.bears = s.bears; t.quality = s.quality; t.worms = s.worms; t.rust = s.rust;
                w.stalls.add(t);
            }
            for (Order o : orders) {
                Order p = new Order();
                p.oil = o.oil; p.stall = o.stall; p.beast = o.beast; p.carver = o.carver; p.work = o.work; p.test = o.test;
                w.orders.add(p);
            }
            return w;
        }

        boolean open(Order o) {
            return !o.oil && stalls.get(o.stall).bears != o.beast;
        }

        boolean holds(Order o) {
            return o.test == null || o.test.of(this) == 1;
        }

        int workToday(int c) {
            if (day % carvers.get(c).pace != 0) {
                return -1;
            }
            for (Order o : orders) {
                if (o.carver == c && open(o) && holds(o)) {
                    return orders.indexOf(o);
                }
            }
            return -1;
        }

        int bishop() {
            int best = -1;
            for (int from = 0; from <= Math.min(day, 999); from++) {
                for (int b = 0; b < bishops.size(); b++) {
                    if (bishops.get(b).from == from) {
                        best = b;
                    }
                }
            }
            return best;
        }

        int delight(Stall s, int b) {
            return s.bears < 0 ? 0 : s.quality - 2 * Math.abs(beasts.get(s.bears).grim - bishops.get(b).grim);
        }

        int pleasure(int b) {
            return stalls.stream().mapToInt(s -> delight(s, b) - (s.rust > 7 ? 3 : 0)).sum();
        }

        void day() {
            for (int c = 0; c < carvers.size(); c++) {
                int o = c == without ? -1 : workToday(c);
                if (o < 0) {
                    continue;
                }
                Order order = orders.get(o);
                Carver carver = carvers.get(c);
                Stall stall = stalls.get(order.stall);
                int likes = carver.likes == order.beast ? 1 : 0;
                order.work += carver.skill * (1 + likes);
                if (order.work >= stall.oak * beasts.get(order.beast).fine * 2) {
                    order.work = 0;
                    stall.bears = order.beast;
                    stall.worms = 0;
                    stall.quality = Math.max(1, 3 * carver.skill - stall.oak + 5 * likes);
                    carver.carved++;
                    carved++;
                }
            }
            for (Order o : orders) {
                if (o.oil && holds(o)) {
                    stalls.get(o.stall).rust = 0;
                }
            }
            for (Stall s : stalls) {
                s.rust = Math.min(20, s.rust + (damp >= 4 || day % 3 == 0 ? 1 : 0));
            }
            int[] worms = stalls.stream().mapToInt(s -> s.worms).toArray();
            for (int s = 0; s < worms.length; s++) {
                int more = damp / 2;
                if (s > 0 && worms[s - 1] >= 10 || s + 1 < worms.length && worms[s + 1] >= 10) {
                    more++;
                }
                Stall stall = stalls.get(s);
                stall.worms = Math.min(99, Math.max(0, worms[s] + more - stall.oak / 4));
                if (stall.worms >= 30 && stall.bears >= 0 && stall.quality > 0) {
                    stall.quality--;
                }
            }
            int b = bishop();
            if (b >= 0 && pleasure(b) >= 10) {
                coins += pleasure(b) / 10;
            }
            day++;
        }

        World behind(int days) {
            World w = copy();
            w.without = without;
            for (int i = 0; i < days; i++) {
                w.day();
            }
            return w;
        }
    }

    private final StringBuilder tape = new StringBuilder();
    private World w = new World();
    private int errorAt = -1;

    // ---- the language

    static final class Token { String kind; String text; int at; }

    private static final Set<String> KEYWORDS = Set.of(("beast grim fine carver skill pace likes stall oak bishop from "
            + "carve on by oil when day damp quality worms rust coins bears squeaks not and or min max").split(" "));

    private List<Token> tokens(String text) {
        List<Token> all = new ArrayList<>();
        java.util.regex.Matcher m = java.util.regex.Pattern
                .compile("[ \n]+|[a-z][a-z0-9]*|[0-9]+|<=|>=|[\\x00-\\xff]", java.util.regex.Pattern.DOTALL).matcher(text);
        while (m.find()) {
            String s = m.group();
            if (s.isBlank() && s.trim().isEmpty() && (s.charAt(0) == ' ' || s.charAt(0) == '\n')) {
                continue;
            }
            Token t = new Token();
            t.text = s;
            t.at = m.start();
            if (Character.isLetter(s.charAt(0)) && s.charAt(0) < 128 && Character.isLowerCase(s.charAt(0))) {
                t.kind = KEYWORDS.contains(s) ? s : s.length() > 10 ? "bad" : "name";
            } else if (s.charAt(0) >= '0' && s.charAt(0) <= '9') {
                t.kind = s.length() > 6 ? "bad" : "number";
            } else {
                t.kind = s.length() == 2 || "()[];,+-*/<>=".contains(s) ? s : "bad";
            }
            all.add(t);
        }
        Token end = new Token();
        end.kind = "end";
        end.at = text.length();
        all.add(end);
        return all;
    }

    private static final Map<String, List<String[]>> RULES = rules();

    private static void rule(Map<String, List<String[]>> all, String left, String right) {
        all.computeIfAbsent(left, k -> new ArrayList<>()).add(right.isEmpty() ? new String[0] : right.split(" "));
    }

    private static Map<String, List<String[]>> rules() {
        Map<String, List<String[]>> r = new HashMap<>();
        rule(r, "$START", "$LIST end");
        rule(r, "$LIST", "");
        rule(r, "$LIST", "$LIST $LINE ;");
        rule(r, "$LINE", "beast name grim number fine number");
        rule(r, "$LINE", "carver name skill number pace number");
        rule(r, "$LINE", "carver name skill number pace number likes name");
        rule(r, "$LINE", "stall name oak number");
        rule(r, "$LINE", "bishop name grim number from number");
        rule(r, "$LINE", "carve name on name by name");
        rule(r, "$LINE", "carve name on name by name when $TEST0");
        rule(r, "$LINE", "oil name");
        rule(r, "$LINE", "oil name when $TEST0");
        for (int d = 0; d <= 8; d++) {
            rule(r, "$TEST" + d, "$BOTH" + d);
            rule(r, "$TEST" + d, "$TEST" + d + " or $BOTH" + d);
            rule(r, "$BOTH" + d, "$SINGLE" + d);
            rule(r, "$BOTH" + d, "$BOTH" + d + " and $SINGLE" + d);
            rule(r, "$SINGLE" + d, "bears name name");
            rule(r, "$SINGLE" + d, "squeaks name");
            for (String c : new String[] {"<", ">", "=", "<=", ">="}) {
                rule(r, "$SINGLE" + d, "$SUM" + d + " " + c + " $SUM" + d);
            }
            rule(r, "$SUM" + d, "$PRODUCT" + d);
            rule(r, "$SUM" + d, "$SUM" + d + " + $PRODUCT" + d);
            rule(r, "$SUM" + d, "$SUM" + d + " - $PRODUCT" + d);
            rule(r, "$PRODUCT" + d, "$VALUE" + d);
            rule(r, "$PRODUCT" + d, "$PRODUCT" + d + " * $VALUE" + d);
            rule(r, "$PRODUCT" + d, "$PRODUCT" + d + " / $VALUE" + d);
            for (String v : new String[] {"number", "day", "damp", "coins", "quality name", "worms name", "rust name"}) {
                rule(r, "$VALUE" + d, v);
            }
            if (d == 8) {
                // min and max are told apart from their (, at which the error is.
                rule(r, "$VALUE8", "min nothing");
                rule(r, "$VALUE8", "max nothing");
                continue;
            }
            int e = d + 1;
            rule(r, "$SINGLE" + d, "not $SINGLE" + e);
            rule(r, "$SINGLE" + d, "[ $TEST" + e + " ]");
            rule(r, "$VALUE" + d, "- $VALUE" + e);
            rule(r, "$VALUE" + d, "( $SUM" + e + " )");
            rule(r, "$VALUE" + d, "min ( $SUM" + e + " , $SUM" + e + " )");
            rule(r, "$VALUE" + d, "max ( $SUM" + e + " , $SUM" + e + " )");
        }
        return r;
    }

    private record Item(String left, String[] right, int dot, int from) {
        String next() {
            return dot < right.length ? right[dot] : null;
        }

        @Override
        public boolean equals(Object o) {
            return o instanceof Item i && i.right == right && i.dot == dot && i.from == from && i.left.equals(left);
        }

        @Override
        public int hashCode() {
            return System.identityHashCode(right) * 31 + dot * 7 + from;
        }
    }

    /** The number of the first token that does not go on with a list, -1 if there is none. */
    private static int firstBad(List<Token> tokens) {
        List<List<Item>> rows = new ArrayList<>();
        List<Item> row = new ArrayList<>();
        row.add(new Item("$START", RULES.get("$START").get(0), 0, 0));
        for (int t = 0; t < tokens.size(); t++) {
            rows.add(row);
            Set<Item> seen = new HashSet<>(row);
            for (int i = 0; i < row.size(); i++) {
                Item item = row.get(i);
                List<Item> more = new ArrayList<>();
                if (item.next() == null) {
                    for (Item back : rows.get(item.from)) {
                        if (item.left.equals(back.next())) {
                            more.add(new Item(back.left, back.right, back.dot + 1, back.from));
                        }
                    }
                } else if (item.next().startsWith("$")) {
                    for (String[] right : RULES.get(item.next())) {
                        more.add(new Item(item.next(), right, 0, t));
                    }
                    if (item.next().equals("$LIST")) {
                        more.add(new Item(item.left, item.right, item.dot + 1, item.from));
                    }
                }
                for (Item m : more) {
                    if (seen.add(m)) {
                        row.add(m);
                    }
                }
            }
            List<Item> after = new ArrayList<>();
            String kind = tokens.get(t).kind;
            if (t == 400 && !kind.equals("end")) {
                return t;
            }
            for (Item item : row) {
                if (kind.equals(item.next())) {
                    after.add(new Item(item.left, item.right, item.dot + 1, item.from));
                }
            }
            if (after.isEmpty()) {
                return t;
            }
            row = after;
        }
        return -1;
    }

    /** An error 2 to 5 that ends the reading. */
    private static final class Fault extends RuntimeException {
        final int number;
        final int at;

        Fault(int number, int at) {
            this.number = number;
            this.at = at;
        }
    }

    private List<Token> list;
    private int next;
    private World draft;

    private Token take() {
        return list.get(next++);
    }

    private String peek() {
        return list.get(next).kind;
    }

    private boolean takeIf(String kind) {
        if (peek().equals(kind)) {
            next++;
            return true;
        }
        return false;
    }

    private List<String> names(String sort) {
        return switch (sort) {
            case "beast" -> draft.beasts.stream().map(b -> b.name).toList();
            case "carver" -> draft.carvers.stream().map(b -> b.name).toList();
            case "stall" -> draft.stalls.stream().map(b -> b.name).toList();
            default -> draft.bishops.stream().map(b -> b.name).toList();
        };
    }

    private int known(String sort) {
        Token t = take();
        int n = names(sort).indexOf(t.text);
        if (n < 0) {
            throw new Fault(3, t.at);
        }
        return n;
    }

    private String fresh(String sort, int most) {
        Token t = take();
        List<String> names = names(sort);
        if (names.contains(t.text)) {
            throw new Fault(2, t.at);
        }
        if (names.size() == most) {
            throw new Fault(4, t.at);
        }
        return t.text;
    }

    private int ranged(int least, int most) {
        take();
        Token t = take();
        int n = Integer.parseInt(t.text);
        if (n < least || n > most) {
            throw new Fault(5, t.at);
        }
        return n;
    }

    private void build() {
        while (!peek().equals("end")) {
            Token t = take();
            switch (t.kind) {
                case "beast" -> {
                    Beast b = new Beast();
                    b.name = fresh("beast", 8);
                    b.grim = ranged(0, 9);
                    b.fine = ranged(1, 9);
                    draft.beasts.add(b);
                }
                case "carver" -> {
                    Carver c = new Carver();
                    c.name = fresh("carver", 5);
                    c.skill = ranged(1, 9);
                    c.pace = ranged(1, 4);
                    c.likes = takeIf("likes") ? known("beast") : -1;
                    draft.carvers.add(c);
                }
                case "stall" -> {
                    Stall s = new Stall();
                    s.name = fresh("stall", 10);
                    s.oak = ranged(1, 9);
                    draft.stalls.add(s);
                }
                case "bishop" -> {
                    Bishop b = new Bishop();
                    b.name = fresh("bishop", 6);
                    b.grim = ranged(0, 9);
                    b.from = ranged(0, 999);
                    draft.bishops.add(b);
                }
                default -> order(t);
            }
            take();
        }
    }

    private void order(Token t) {
        if (draft.orders.size() == 20) {
            throw new Fault(4, t.at);
        }
        Order o = new Order();
        o.oil = t.kind.equals("oil");
        if (!o.oil) {
            o.beast = known("beast");
            take();
        }
        o.stall = known("stall");
        if (!o.oil) {
            take();
            o.carver = known("carver");
        }
        o.test = takeIf("when") ? test() : null;
        draft.orders.add(o);
    }

    private Tree test() {
        Tree left = both();
        while (takeIf("or")) {
            Tree a = left;
            Tree b = both();
            left = w -> a.of(w) + b.of(w) > 0 ? 1 : 0;
        }
        return left;
    }

    private Tree both() {
        Tree left = single();
        while (takeIf("and")) {
            Tree a = left;
            Tree b = single();
            left = w -> a.of(w) * b.of(w);
        }
        return left;
    }

    private Tree single() {
        if (takeIf("not")) {
            Tree a = single();
            return w -> a.of(w) == 0 ? 1 : 0;
        }
        if (takeIf("[")) {
            Tree a = test();
            take();
            return a;
        }
        if (takeIf("bears")) {
            int s = known("stall");
            int b = known("beast");
            return w -> w.stalls.get(s).bears == b ? 1 : 0;
        }
        if (takeIf("squeaks")) {
            int s = known("stall");
            return w -> w.stalls.get(s).rust >= 8 ? 1 : 0;
        }
        Tree a = sum();
        String op = take().kind;
        Tree b = sum();
        return w -> {
            int c = Integer.compare(a.of(w), b.of(w));
            boolean yes = switch (op) {
                case "<" -> c < 0;
                case ">" -> c > 0;
                case "=" -> c == 0;
                case "<=" -> c <= 0;
                default -> c >= 0;
            };
            return yes ? 1 : 0;
        };
    }

    private Tree sum() {
        Tree left = product();
        while (peek().equals("+") || peek().equals("-")) {
            int sign = take().kind.equals("+") ? 1 : -1;
            Tree a = left;
            Tree b = product();
            left = w -> (int) ((long) a.of(w) + sign * (long) b.of(w));
        }
        return left;
    }

    private Tree product() {
        Tree left = value();
        while (peek().equals("*") || peek().equals("/")) {
            boolean times = take().kind.equals("*");
            Tree a = left;
            Tree b = value();
            left = times ? w -> (int) ((long) a.of(w) * b.of(w))
                    : w -> b.of(w) == 0 ? 0 : (int) ((long) a.of(w) / b.of(w));
        }
        return left;
    }

    private Tree value() {
        Token t = take();
        switch (t.kind) {
            case "number": {
                int n = Integer.parseInt(t.text);
                return w -> n;
            }
            case "day": return w -> w.day;
            case "damp": return w -> w.damp;
            case "coins": return w -> w.coins;
            case "quality": {
                int s = known("stall");
                return w -> w.stalls.get(s).quality;
            }
            case "worms": {
                int s = known("stall");
                return w -> w.stalls.get(s).worms;
            }
            case "rust": {
                int s = known("stall");
                return w -> w.stalls.get(s).rust;
            }
            case "-": {
                Tree a = value();
                return w -> (int) -(long) a.of(w);
            }
            case "(": {
                Tree a = sum();
                take();
                return a;
            }
            default: {
                take();
                Tree a = sum();
                take();
                Tree b = sum();
                take();
                return t.kind.equals("min") ? w -> Math.min(a.of(w), b.of(w)) : w -> Math.max(a.of(w), b.of(w));
            }
        }
    }

    int teach() {
        list = tokens(tape.toString());
        tape.setLength(0);
        next = 0;
        int bad = firstBad(list);
        if (bad >= 0) {
            errorAt = list.get(bad).at;
            return 1;
        }
        draft = new World();
        draft.day = w.day;
        draft.damp = w.damp;
        try {
            build();
        } catch (Fault f) {
            errorAt = f.at;
            return f.number;
        }
        errorAt = -1;
        w = draft;
        return 0;
    }

    // ---- the rest of the face

    private static void index(boolean good) {
        if (!good) {
            throw new IndexOutOfBoundsException();
        }
    }

    private static void argument(boolean good) {
        if (!good) {
            throw new IllegalArgumentException();
        }
    }

    private static boolean in(int i, int end) {
        return i >= 0 && i < end;
    }

    int feed(int... numbers) {
        if (tape.length() > 1980) {
            throw new IllegalStateException();
        }
        for (int n : numbers) {
            for (byte b : java.nio.ByteBuffer.allocate(4).putInt(n).array()) {
                tape.append((char) (b & 255));
            }
        }
        return tape.length();
    }

    int trim(int n) {
        argument(in(n, tape.length() + 1));
        tape.setLength(n);
        return n;
    }

    int errorAt() {
        return errorAt;
    }

    int count(int what) {
        index(in(what, 14));
        long[] all = {w.day, w.damp, w.beasts.size(), w.carvers.size(), w.stalls.size(), w.bishops.size(),
            w.orders.size(), w.stalls.stream().filter(s -> s.bears >= 0).count(),
            w.stalls.stream().filter(s -> s.rust >= 8).count(), w.stalls.stream().mapToInt(s -> s.worms).sum(),
            w.coins, w.carved, w.orders.stream().filter(w::open).count(), tape.length()};
        return (int) all[what];
    }

    int beast(int b, int what) {
        index(in(b, w.beasts.size()) && in(what, 3));
        return new int[] {w.beasts.get(b).grim, w.beasts.get(b).fine,
            (int) w.stalls.stream().filter(s -> s.bears == b).count()}[what];
    }

    int carver(int c, int what) {
        index(in(c, w.carvers.size()) && in(what, 5));
        Carver x = w.carvers.get(c);
        return new int[] {x.skill, x.pace, x.likes, w.workToday(c), x.carved}[what];
    }

    int stall(int s, int what) {
        index(in(s, w.stalls.size()) && in(what, 7));
        Stall x = w.stalls.get(s);
        return new int[] {x.oak, x.bears, x.quality, x.worms, x.rust, x.rust >= 8 ? 1 : 0,
            w.bishop() < 0 ? 0 : w.delight(x, w.bishop())}[what];
    }

    int order(int o, int what) {
        index(in(o, w.orders.size()) && in(what, 6));
        Order x = w.orders.get(o);
        return new int[] {x.oil ? 1 : 0, x.stall, x.beast, x.carver, x.work,
            (x.oil || w.open(x)) && w.holds(x) ? 1 : 0}[what];
    }

    int bishop() {
        return w.bishop();
    }

    int pleasure(int b) {
        index(in(b, w.bishops.size()));
        return w.pleasure(b);
    }

    int worst(int b) {
        index(in(b, w.bishops.size()));
        return w.stalls.stream().filter(s -> s.bears >= 0)
                .min(java.util.Comparator.comparingInt(s -> w.delight(s, b) - (s.rust >= 8 ? 3 : 0)))
                .map(s -> w.stalls.indexOf(s)).orElse(-1);
    }

    int setDamp(int damp) {
        argument(in(damp, 10));
        int before = w.damp;
        w.damp = damp;
        return before;
    }

    int oil(int s) {
        index(in(s, w.stalls.size()));
        int before = w.stalls.get(s).rust;
        w.stalls.get(s).rust = 0;
        return before;
    }

    int smoke(int s) {
        index(in(s, w.stalls.size()));
        if (w.coins == 0) {
            throw new IllegalStateException();
        }
        w.coins--;
        return w.stalls.get(s).worms /= 2;
    }

    int strip(int s) {
        index(in(s, w.stalls.size()));
        int before = w.stalls.get(s).bears;
        if (before < 0) {
            throw new IllegalStateException();
        }
        w.stalls.get(s).bears = -1;
        w.stalls.get(s).quality = 0;
        return before;
    }

    int pass(int days) {
        argument(days >= 1 && days <= 120);
        int before = w.carved;
        w = w.behind(days);
        return w.carved - before;
    }

    int until(int s, int what) {
        index(in(s, w.stalls.size()) && in(what, 3));
        World v = w.copy();
        for (int d = 0; d <= 200; d++) {
            Stall x = v.stalls.get(s);
            if (new boolean[] {x.bears >= 0, x.rust >= 8, x.worms >= 30}[what]) {
                return d;
            }
            v.day();
        }
        return -1;
    }

    int foresee(int days, int what) {
        argument(days >= 1 && days <= 120);
        index(in(what, 5));
        World v = w.behind(days);
        return new int[] {v.coins - w.coins, v.carved - w.carved,
            (int) v.stalls.stream().filter(s -> s.rust >= 8).count(), v.stalls.stream().mapToInt(s -> s.worms).sum(),
            v.bishop() < 0 ? 0 : v.pleasure(v.bishop())}[what];
    }

    int advise(int days) {
        argument(days >= 1 && days <= 90);
        int best = 9;
        int most = -1;
        for (int damp = 9; damp >= 0; damp--) {
            World v = w.copy();
            v.damp = damp;
            int coins = v.behind(days).coins;
            if (coins > most) {
                most = coins;
                best = damp;
            }
        }
        return best;
    }

    int spare(int days) {
        argument(days >= 1 && days <= 90);
        int best = -1;
        int most = -1;
        for (int c = w.carvers.size() - 1; c >= 0; c--) {
            World v = w.copy();
            v.without = c;
            int coins = v.behind(days).coins;
            if (coins >= most) {
                most = coins;
                best = c;
            }
        }
        return best;
    }

    double mean() {
        return w.stalls.stream().filter(s -> s.bears >= 0).mapToInt(s -> s.quality).average().orElse(0);
    }

    long digest() {
        List<Integer> all = new ArrayList<>();
        for (int i = 0; i < 14; i++) {
            all.add(count(i));
        }
        for (int b = 0; b < w.beasts.size(); b++) {
            for (int i = 0; i < 3; i++) {
                all.add(beast(b, i));
            }
        }
        for (int c = 0; c < w.carvers.size(); c++) {
            for (int i = 0; i < 5; i++) {
                all.add(carver(c, i));
            }
        }
        for (int s = 0; s < w.stalls.size(); s++) {
            for (int i = 0; i < 7; i++) {
                all.add(stall(s, i));
            }
        }
        for (int b = 0; b < w.bishops.size(); b++) {
            all.add(pleasure(b));
        }
        for (int o = 0; o < w.orders.size(); o++) {
            for (int i = 0; i < 6; i++) {
                all.add(order(o, i));
            }
        }
        long d = 823;
        for (int x : all) {
            d = d * 31 + x;
        }
        return d;
    }
}

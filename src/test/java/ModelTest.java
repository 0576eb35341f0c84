import java.util.ArrayList;
import java.util.List;
import java.util.Random;

/** Random runs on ChoirStalls and on Model: both have to answer alike. The seeds are fixed. */
public final class ModelTest {
    private static final int RUNS = Integer.getInteger("runs", 150);
    private static final int LISTS = Integer.getInteger("lists", 4000);
    private static final int FIRST_SEED = Integer.getInteger("seed", 1);
    // Behind so many calls an object's answers are free.
    private static final int MOST_CALLS = 512;
    private static final int CALLS_OF_STEP = 2;
    // Beside those of feed: trim, teach, errorAt, digest.
    private static final int CALLS_OF_TEACH = 4;

    private final Random random;
    private final List<String> words = new ArrayList<>();
    private int beasts;
    private int carvers;
    private int stalls;

    private ModelTest(long seed) {
        random = new Random(seed);
    }

    public static void main(String[] args) {
        for (int seed = FIRST_SEED; seed < FIRST_SEED + LISTS; seed++) {
            new ModelTest(seed).compareLists(seed);
        }
        for (int seed = FIRST_SEED; seed < FIRST_SEED + RUNS; seed++) {
            new ModelTest(1000003L * seed).compareRun(seed);
        }
        System.out.println("lists read with error 0 to 5: " + java.util.Arrays.toString(TOLD));
        Check.finish("ModelTest");
    }

    // ---- random lists

    private int below(int end) {
        return random.nextInt(end);
    }

    private boolean chance(int percent) {
        return below(100) < percent;
    }

    private void put(String text) {
        for (String word : text.split(" ")) {
            words.add(word);
        }
    }

    private String one(String... all) {
        return all[below(all.length)];
    }

    /** Makes a list in words; rarely with names or numbers that are not right. */
    private void makeList(boolean faulty) {
        words.clear();
        beasts = 1 + below(faulty && chance(10) ? 9 : 8);
        carvers = 1 + below(faulty && chance(10) ? 6 : 5);
        stalls = 1 + below(faulty && chance(10) ? 11 : 10);
        int bishops = below(faulty && chance(10) ? 8 : 7);
        for (int b = 0; b < beasts; b++) {
            put("beast " + named("b", b, faulty) + " grim " + ranged(0, 9, faulty) + " fine "
                    + (chance(70) ? ranged(1, 3, faulty) : ranged(1, 9, faulty)) + " ;");
        }
        for (int c = 0; c < carvers; c++) {
            put("carver " + named("c", c, faulty) + " skill " + ranged(1, 9, faulty) + " pace " + ranged(1, 4, faulty)
                    + (chance(50) ? " likes " + known("b", beasts, faulty) : "") + " ;");
        }
        for (int s = 0; s < stalls; s++) {
            put("stall " + named("s", s, faulty) + " oak " + ranged(1, 9, faulty) + " ;");
        }
        for (int b = 0; b < bishops; b++) {
            put("bishop " + named("p", b, faulty) + " grim " + ranged(0, 9, faulty) + " from "
                    + (chance(60) ? 20 * below(4) : ranged(0, 999, faulty)) + " ;");
        }
        int orders = below(faulty && chance(5) ? 23 : 21);
        for (int o = 0; o < orders; o++) {
            int before = words.size();
            if (chance(75)) {
                put("carve " + known("b", beasts, faulty) + " on " + known("s", stalls, faulty) + " by "
                        + known("c", carvers, faulty));
            } else {
                put("oil " + known("s", stalls, faulty));
            }
            if (chance(55)) {
                put("when");
                putTest(0, faulty);
            }
            put(";");
            if (words.size() > 400 && chance(90)) {
                while (words.size() > before) {
                    words.remove(words.size() - 1);
                }
                break;
            }
        }
    }

    private String named(String sort, int number, boolean faulty) {
        return sort + (faulty && chance(2) ? below(8) : number);
    }

    private String known(String sort, int count, boolean faulty) {
        return faulty && chance(1) ? one("b", "c", "s", "p", "zz") + below(10) : sort + below(count);
    }

    private int ranged(int least, int most, boolean faulty) {
        return faulty && chance(1) ? (chance(50) ? 0 : most + 1) : least + below(most - least + 1);
    }

    private void putTest(int depth, boolean faulty) {
        int kind = below(100);
        boolean deeper = depth < 8 || faulty && chance(3);
        if (kind < 12 && deeper) {
            put("not");
            putSingle(depth + 1, faulty);
        } else if (kind < 35) {
            putSingle(depth, faulty);
            put(one("and", "or"));
            putSingle(depth, faulty);
            if (chance(40)) {
                put(one("and", "or"));
                putSingle(depth, faulty);
            }
        } else {
            putSingle(depth, faulty);
        }
    }

    private void putSingle(int depth, boolean faulty) {
        int kind = below(100);
        boolean deeper = depth < 8 || faulty && chance(3);
        if (kind < 15) {
            put("bears " + known("s", stalls, faulty) + " " + known("b", beasts, faulty));
        } else if (kind < 30) {
            put("squeaks " + known("s", stalls, faulty));
        } else if (kind < 42 && deeper) {
            put("[");
            putTest(depth + 1, faulty);
            put("]");
        } else if (kind < 50 && deeper) {
            put("not");
            putSingle(depth + 1, faulty);
        } else {
            putSum(depth, faulty);
            put(one("<", ">", "=", "<=", ">="));
            putSum(depth, faulty);
        }
    }

    private void putSum(int depth, boolean faulty) {
        putValue(depth, faulty);
        while (chance(25)) {
            put(one("+", "-", "*", "*", "/"));
            putValue(depth, faulty);
        }
    }

    private void putValue(int depth, boolean faulty) {
        int kind = below(100);
        boolean deeper = depth < 8 || faulty && chance(3);
        if (kind < 30 || !deeper) {
            put(chance(80) ? "" + below(40) : "" + below(1000000));
        } else if (kind < 45) {
            put(one("day", "damp", "coins"));
        } else if (kind < 75) {
            put(one("quality", "worms", "rust") + " " + known("s", stalls, faulty));
        } else if (kind < 83) {
            put("-");
            putValue(depth + 1, faulty);
        } else if (kind < 91) {
            put("(");
            putSum(depth + 1, faulty);
            put(")");
        } else {
            put(one("min", "max") + " (");
            putSum(depth + 1, faulty);
            put(",");
            putSum(depth + 1, faulty);
            put(")");
        }
    }

    /** Changes a word or two into others, or doubles, swaps or leaves out some. */
    private void disturbWords() {
        for (int i = 1 + below(2); i > 0 && !words.isEmpty(); i--) {
            int at = below(words.size());
            switch (below(5)) {
                case 0: words.remove(at); break;
                case 1: words.add(at, words.get(below(words.size()))); break;
                case 2: words.set(at, words.get(below(words.size()))); break;
                case 3: words.add(at, one("(", "[", "-", "not", "min", "max", ",", "]", ")", "<=", "or", "when", "likes", ";",
                        "1234567", "abcdefghij", "abcdefghijk", "?", "00", "007", "Z", "\t", "\u00e9", "\u0000")); break;
                default: words.add(at, one("day", "beast", "b0", "s0", "7", "=", "a", "z9", "+", "/", "*")); break;
            }
        }
    }

    private String text() {
        StringBuilder all = new StringBuilder();
        boolean tight = chance(50);
        for (String word : words) {
            boolean needed = all.length() > 0 && Character.isLetterOrDigit(all.charAt(all.length() - 1))
                    && Character.isLetterOrDigit(word.charAt(0));
            if (needed || !tight && chance(50)) {
                all.append(chance(90) ? ' ' : '\n');
            }
            all.append(word);
        }
        for (int i = below(3); i > 0; i--) {
            all.append(one(" ", "\n"));
        }
        if (all.length() > 2000) {
            all.setLength(2000);
        }
        return all.toString();
    }

    private static void write(Model m, String text) {
        StringBuilder padded = new StringBuilder(text);
        while (padded.length() % 20 != 0) {
            padded.append(' ');
        }
        for (int i = 0; i < padded.length(); i += 20) {
            m.feed(Check.number(padded, i), Check.number(padded, i + 4), Check.number(padded, i + 8),
                    Check.number(padded, i + 12), Check.number(padded, i + 16));
        }
        m.trim(text.length());
    }

    private void compareLists(int seed) {
        makeList(chance(60));
        if (chance(50)) {
            disturbWords();
        }
        String text = text();
        if (chance(10) && !text.isEmpty()) {
            text = text.substring(0, below(text.length()));
        }
        ChoirStalls x = new ChoirStalls();
        Model m = new Model();
        compareTeach(x, m, text, "list " + seed);
    }

    private static int compareTeach(ChoirStalls x, Model m, String text, String where) {
        Check.write(x, text);
        write(m, text);
        int error = x.teach();
        TOLD[error]++;
        Check.same(where + " teach " + text, error, m.teach());
        Check.same(where + " errorAt " + text, x.errorAt(), m.errorAt());
        Check.same(where + " digest " + text, x.digest(), m.digest());
        return error;
    }

    static final int[] TOLD = new int[6];

    // ---- random runs

    private void compareRun(int seed) {
        ChoirStalls x = new ChoirStalls();
        Model m = new Model();
        int before = Check.wrongSoFar();
        String where = "run " + seed;
        int left = MOST_CALLS - 1;
        for (int call = 0; left > CALLS_OF_STEP && Check.wrongSoFar() == before; call++) {
            if (call == 0 || chance(2)) {
                makeList(chance(20));
                String text = text();
                int calls = CALLS_OF_TEACH + (text.length() + 19) / 20;
                if (left > CALLS_OF_STEP + calls) {
                    compareTeach(x, m, text, where);
                    left -= calls;
                }
            }
            compareCall(x, m, where + " call " + call);
            left--;
            if (call % 4 == 0) {
                Check.same(where + " digest", x.digest(), m.digest());
                left--;
            }
        }
        // Answers of NaN would not be equal to themselves by ==, but are by equals.
        Check.same(where + " mean", x.mean(), m.mean());
    }

    private int near(int least, int most) {
        switch (below(64)) {
            case 0: return least - 1;
            case 1: return most + 1;
            case 2: return Integer.MIN_VALUE;
            case 3: return Integer.MAX_VALUE;
            default: return least + below(most - least + 1);
        }
    }

    private void compareCall(ChoirStalls x, Model m, String where) {
        int i = near(0, 9);
        int what = near(0, 6);
        int days = near(1, chance(50) ? 120 : 20);
        switch (below(22)) {
            case 0: same(where + " count " + 2 * what, () -> x.count(2 * what), () -> m.count(2 * what)); break;
            case 1: same(where + " beast " + i + " " + what, () -> x.beast(i, what), () -> m.beast(i, what)); break;
            case 2: same(where + " carver " + i + " " + what, () -> x.carver(i, what), () -> m.carver(i, what)); break;
            case 3: same(where + " stall " + i + " " + what, () -> x.stall(i, what), () -> m.stall(i, what)); break;
            case 4: same(where + " order " + 2 * i, () -> x.order(2 * i, what), () -> m.order(2 * i, what)); break;
            case 5: same(where + " bishop", x::bishop, m::bishop); break;
            case 6: same(where + " pleasure " + i, () -> x.pleasure(i), () -> m.pleasure(i)); break;
            case 7: same(where + " worst " + i, () -> x.worst(i), () -> m.worst(i)); break;
            case 8: same(where + " setDamp " + i, () -> x.setDamp(i), () -> m.setDamp(i)); break;
            case 9: same(where + " oil " + i, () -> x.oil(i), () -> m.oil(i)); break;
            case 10: same(where + " smoke " + i, () -> x.smoke(i), () -> m.smoke(i)); break;
            case 11: same(where + " strip " + i, () -> x.strip(i), () -> m.strip(i)); break;
            case 12: case 13: case 14: same(where + " pass " + days, () -> x.pass(days), () -> m.pass(days)); break;
            case 15: case 16: same(where + " until " + i + " " + what, () -> x.until(i, what), () -> m.until(i, what)); break;
            case 17: case 18: same(where + " foresee " + days + " " + what, () -> x.foresee(days, what), () -> m.foresee(days, what)); break;
            case 19: same(where + " advise " + days, () -> x.advise(days), () -> m.advise(days)); break;
            case 20: same(where + " spare " + days, () -> x.spare(days), () -> m.spare(days)); break;
            default: same(where + " mean", x::mean, m::mean); break;
        }
    }

    private static void same(String where, Check.Call got, Check.Call due) {
        Check.same(where, Check.answerOf(got), Check.answerOf(due));
    }
}

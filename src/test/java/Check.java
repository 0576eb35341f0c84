import java.io.IOException;
import java.nio.file.Files;
import java.nio.file.Path;

/** Counts and prints answers that are not as due, and feeds texts. */
final class Check {
    interface Call {
        Object answer();
    }

    // With -Ddoc=../shared/DOC.md it is also looked up whether the document has each sentence word by word.
    private static final String DOCUMENT = System.getProperty("doc");

    // Far more than any test takes: one that goes on for ever has failed.
    private static final int MOST_SECONDS = 120;

    private static int done = 0;
    private static int wrong = 0;
    private static String heading = "";

    /** Ends the test of one sentence at its first wrong answer. */
    private static final class Wrong extends Error {
        private static final long serialVersionUID = 1L;
    }

    static {
        Thread watch = new Thread(Check::endInTime);
        watch.setDaemon(true);
        watch.start();
    }

    private Check() {
    }

    private static void endInTime() {
        try {
            Thread.sleep(MOST_SECONDS * 1000L);
        } catch (InterruptedException e) {
            return;
        }
        System.out.println(heading + "the test takes too long");
        Runtime.getRuntime().halt(1);
    }

    static void same(String what, Object got, Object due) {
        done++;
        if (!due.equals(got)) {
            wrong++;
            if (wrong <= 50) {
                System.out.println(heading + what + " answered " + got + ", due is " + due);
            }
            if (!heading.isEmpty()) {
                throw new Wrong();
            }
        }
    }

    /** One sentence of the document and the test that holds it; what goes wrong in it is told with both. */
    static void sentence(String where, String words, Runnable test) {
        heading = where + " \"" + words + "\": ";
        int before = done;
        try {
            test.run();
            same("the test", done == before ? "checks nothing" : "checks", "checks");
            if (DOCUMENT != null) {
                same("the document", quotes(words), true);
            }
        } catch (Wrong e) {
            // It is counted and printed.
        } catch (RuntimeException e) {
            wrong++;
            System.out.println(heading + "the test threw " + e);
        }
        heading = "";
    }

    private static boolean quotes(String words) {
        try {
            return Files.readString(Path.of(DOCUMENT)).replace("`", "").contains(words);
        } catch (IOException e) {
            throw new IllegalStateException(e);
        }
    }

    /** What a call answers, or the simple name of the exception that it throws. */
    static Object answerOf(Call call) {
        try {
            return call.answer();
        } catch (RuntimeException e) {
            return e.getClass().getSimpleName();
        }
    }

    /** The call throws this, and the object is as before. */
    static void refuses(ChoirStalls x, String what, Class<? extends RuntimeException> due, Call call) {
        long before = x.digest();
        int errorBefore = x.errorAt();
        Object answer = answerOf(call);
        same(what, answer, due.getSimpleName());
        if (!answer.equals(due.getSimpleName())) {
            // The next one might be let through too, with days without end.
            throw new Wrong();
        }
        same(what + ", digest behind it", x.digest(), before);
        same(what + ", errorAt behind it", x.errorAt(), errorBefore);
    }

    /** What a row of answers is, from number 0 on. */
    static void rows(String what, int[] due, java.util.function.IntUnaryOperator got) {
        for (int i = 0; i < due.length; i++) {
            same(what + " " + i, got.applyAsInt(i), due[i]);
        }
    }

    /** Both have just the same told, on the same day, and go on alike; the tapes are read in the end. */
    static void alike(String what, ChoirStalls x, ChoirStalls y) {
        same(what + ": errorAt", x.errorAt(), y.errorAt());
        for (int i = 0; i < 3; i++) {
            same(what + ": digest " + i, x.digest(), y.digest());
            same(what + ": mean " + i, x.mean(), y.mean());
            foreseeAlike(what, x, y);
            same(what + ": pass " + i, x.pass(5), y.pass(5));
        }
        same(what + ": teach", x.teach(), y.teach());
        same(what + ": errorAt behind teach", x.errorAt(), y.errorAt());
        same(what + ": digest behind teach", x.digest(), y.digest());
        same(what + ": pass behind teach", x.pass(9), y.pass(9));
        same(what + ": digest in the end", x.digest(), y.digest());
    }

    private static void foreseeAlike(String what, ChoirStalls x, ChoirStalls y) {
        for (int i = 0; i < 5; i++) {
            same(what + ": foresee " + i, x.foresee(40, i), y.foresee(40, i));
        }
        for (int i = 0; i < 3 * x.count(4); i++) {
            same(what + ": until " + i, x.until(i / 3, i % 3), y.until(i / 3, i % 3));
        }
        same(what + ": advise", x.advise(30), y.advise(30));
        same(what + ": spare", x.spare(30), y.spare(30));
    }

    static int wrongSoFar() {
        return wrong;
    }

    /** Fills the empty tape with just this text. */
    static void write(ChoirStalls x, String text) {
        StringBuilder padded = new StringBuilder(text);
        while (padded.length() % 20 != 0) {
            padded.append(' ');
        }
        for (int i = 0; i < padded.length(); i += 20) {
            x.feed(number(padded, i), number(padded, i + 4), number(padded, i + 8),
                    number(padded, i + 12), number(padded, i + 16));
        }
        x.trim(text.length());
    }

    static int number(CharSequence text, int at) {
        return text.charAt(at) << 24 | text.charAt(at + 1) << 16 | text.charAt(at + 2) << 8 | text.charAt(at + 3);
    }

    static int teach(ChoirStalls x, String text) {
        write(x, text);
        return x.teach();
    }

    /** A new object that was taught this list, which has no error. */
    static ChoirStalls taught(String text) {
        ChoirStalls x = new ChoirStalls();
        same("teach of " + text, teach(x, text), 0);
        return x;
    }

    static void finish(String name) {
        System.out.println(name + ": " + (done - wrong) + " answers as due, " + wrong + " not");
        if (wrong != 0 || done == 0) {
            System.exit(1);
        }
    }
}

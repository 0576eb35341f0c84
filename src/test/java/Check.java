/** Counts and prints answers that are not as due, and feeds texts. */
final class Check {
    interface Call {
        Object answer();
    }

    private static int done = 0;
    private static int wrong = 0;

    private Check() {
    }

    static void same(String what, Object got, Object due) {
        done++;
        if (!due.equals(got)) {
            wrong++;
            if (wrong <= 50) {
                System.out.println(what + " answered " + got + ", due is " + due);
            }
        }
    }

    /** What a call answers, or the simple name of the exception that it throws. */
    static Object answerOf(Call call) {
        try {
            return call.answer();
        } catch (RuntimeException e) {
            return e.getClass().getSimpleName();
        }
    }

    /** The call throws this, and the object is as before. */
    static void refuses(ChoirStalls x, String what, Class<? extends RuntimeException> due, Call call) {
        long before = x.digest();
        int errorBefore = x.errorAt();
        same(what, answerOf(call), due.getSimpleName());
        same(what + ", digest behind it", x.digest(), before);
        same(what + ", errorAt behind it", x.errorAt(), errorBefore);
    }

    static int wrongSoFar() {
        return wrong;
    }

    /** Fills the empty tape with just this text. */
    static void write(ChoirStalls x, String text) {
        StringBuilder padded = new StringBuilder(text);
        while (padded.length() % 20 != 0) {
            padded.append(' ');
        }
        for (int i = 0; i < padded.length(); i += 20) {
            x.feed(number(padded, i), number(padded, i + 4), number(padded, i + 8),
                    number(padded, i + 12), number(padded, i + 16));
        }
        x.trim(text.length());
    }

    static int number(CharSequence text, int at) {
        return text.charAt(at) << 24 | text.charAt(at + 1) << 16 | text.charAt(at + 2) << 8 | text.charAt(at + 3);
    }

    static int teach(ChoirStalls x, String text) {
        write(x, text);
        return x.teach();
    }

    /** A new object that was taught this list, which has no error. */
    static ChoirStalls taught(String text) {
        ChoirStalls x = new ChoirStalls();
        same("teach of " + text, teach(x, text), 0);
        return x;
    }

    static void finish(String name) {
        System.out.println(name + ": " + (done - wrong) + " answers as due, " + wrong + " not");
        if (wrong != 0 || done == 0) {
            System.exit(1);
        }
    }
}

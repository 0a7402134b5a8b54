/** What the tests share: comparing answers, and feeding texts. */
final class Check {
    private static int wrong = 0;
    private static String sentence = "";

    private Check() {
    }

    interface Call {
        void make();
    }

    /** The sentence of the document that the checks from here on test; a wrong answer names it. */
    static void about(String ofTheDocument) {
        sentence = ofTheDocument + ": ";
    }

    static void is(String what, long got, long due) {
        if (got != due) {
            fail(what + " answered " + got + ", due is " + due);
        }
    }

    static void is(String what, String got, String due) {
        if (!got.equals(due)) {
            fail(what + " answered " + got + ", due is " + due);
        }
    }

    static void is(String what, boolean got, boolean due) {
        is(what, got ? 1 : 0, due ? 1 : 0);
    }

    static void raises(String what, Class<? extends RuntimeException> due, Call call) {
        try {
            call.make();
        } catch (RuntimeException e) {
            if (e.getClass() != due) {
                fail(what + " threw " + e.getClass().getName() + ", due is " + due.getName());
            }
            return;
        }
        fail(what + " threw nothing, due is " + due.getName());
    }

    static void noElement(String what, Call call) {
        raises(what, java.util.NoSuchElementException.class, call);
    }

    static void noArgument(String what, Call call) {
        raises(what, IllegalArgumentException.class, call);
    }

    static void noState(String what, Call call) {
        raises(what, IllegalStateException.class, call);
    }

    static void fail(String what) {
        wrong++;
        System.out.println(sentence + what);
    }

    static int wrongAnswers() {
        return wrong;
    }

    /** Feeds a text, each char a byte, with spaces behind it up to a multiple of 20; tells its length. */
    static int feed(RebuildScheduler x, String text) {
        StringBuilder padded = new StringBuilder(text);
        while (padded.length() % 20 != 0) {
            padded.append(' ');
        }
        for (int at = 0; at < padded.length(); at += 20) {
            x.feed(word(padded, at), word(padded, at + 4), word(padded, at + 8), word(padded, at + 12),
                    word(padded, at + 16));
        }
        return text.length();
    }

    static int word(CharSequence text, int at) {
        return text.charAt(at) << 24 | text.charAt(at + 1) << 16 | text.charAt(at + 2) << 8 | text.charAt(at + 3);
    }

    static RebuildScheduler loaded(String array) {
        RebuildScheduler x = new RebuildScheduler();
        x.loadArray(feed(x, array));
        return x;
    }

    static int trace(RebuildScheduler x, String trace) {
        return x.loadTrace(feed(x, trace));
    }

    /** Lets ticks pass up to a tick, in as few calls as possible. */
    static void advanceTo(RebuildScheduler x, int tick) {
        while (x.now() < tick) {
            x.advance(Math.min(2000, tick - x.now()));
        }
    }

    static void end() {
        System.out.println(wrong == 0 ? "all answers are as due" : wrong + " answers are not as due");
        if (wrong != 0) {
            System.exit(1);
        }
    }
}

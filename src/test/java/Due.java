import java.util.NoSuchElementException;

/** Compares answers with those that are due, and ends a test with exit code 1 if one differs. */
final class Due {
    interface Act {
        void on(Desk x);
    }

    interface Ask {
        long of(Desk x);
    }

    private final Document document;
    private String about = "";
    private int looked = 0;
    private int wrong = 0;

    /** What is due by the tests' own words. */
    Due() {
        this(null);
    }

    /** What is due by the sentences of a document. */
    Due(Document document) {
        this.document = document;
    }

    /** Makes each of the tests; one that is stopped by an exception is told, and the next one is made. */
    void all(Runnable... tests) {
        for (Runnable test : tests) {
            try {
                test.run();
            } catch (RuntimeException | AssertionError e) {
                tell("the test is stopped by " + e + place(e));
            }
        }
    }

    private static String place(Throwable e) {
        for (StackTraceElement call : e.getStackTrace()) {
            if (call.getClassName().endsWith("Bounds")) {
                return " in " + call;
            }
        }
        return "";
    }

    /** The answers from here on are due by this sentence of this promise; 0 stands for "Terms". */
    void about(int promise, String sentence) {
        about = (promise == 0 ? "Terms" : "promise " + promise) + ", \"" + sentence + "\": ";
        holds("the document says so", document.tells(promise, sentence));
    }

    void equal(String what, long got, long want) {
        looked++;
        if (got != want) {
            tell(what + " answered " + got + ", due is " + want);
        }
    }

    void equal(String what, String got, String want) {
        looked++;
        if (!got.equals(want)) {
            tell(what + " answered \"" + got + "\", due is \"" + want + "\"");
        }
    }

    void same(String what, double got, double want) {
        looked++;
        if (got != want) {
            tell(what + " answered " + got + ", due is " + want);
        }
    }

    void holds(String what, boolean got) {
        looked++;
        if (!got) {
            tell(what + " does not hold");
        }
    }

    /** The call answers this, and changes nothing. */
    void asked(String what, Desk x, long want, Ask ask) {
        Whole before = new Whole(x);
        equal(what, ask.of(x), want);
        unchanged(what, x, before);
    }

    /** The call throws an exception of just this class, and changes nothing. */
    void thrown(String what, Desk x, Class<?> want, Act act) {
        Whole before = new Whole(x);
        throwsJust(what, x, want, act);
        unchanged(what, x, before);
    }

    /** The call is refused for this reason; none stands behind, also if one did before; nothing else has changed. */
    void refused(String what, Desk x, int reason, int detail, Act act) {
        Whole before = new Whole(x);
        Desk y = x.again();
        throwsJust(what, x, UnsupportedOperationException.class, act);
        plainly(what, x.again(), reason, detail);
        unchanged(what, x, before, Whole.REASONS);
        if (y.account(11) == 0) {
            Deeds.feed(y, "hail 9");
            throwsJust(what + ": a run ahead of it", y, UnsupportedOperationException.class, Desk::run);
            throwsJust(what + ": behind a run", y, UnsupportedOperationException.class, act);
            plainly(what + ": behind a run", y, reason, detail);
        }
    }

    private void plainly(String what, Desk x, int reason, int detail) {
        kept(what, x, reason, detail);
        throwsJust(what + ": a reason behind", x, NoSuchElementException.class, y -> y.reason(true, false));
        throwsJust(what + ": a detail behind", x, NoSuchElementException.class, y -> y.reason(true, true));
    }

    /** The text is refused at this order, for this reason; the tape is empty then; nothing else has changed. */
    void refusedText(String text, Desk x, int order, int reason, int detail) {
        Whole before = new Whole(x);
        Deeds.feed(x, text);
        throwsJust("run of \"" + text + "\"", x, UnsupportedOperationException.class, Desk::run);
        Desk y = x.again();
        kept("run of \"" + text + "\"", y, 10, order);
        behind("run of \"" + text + "\"", y, reason, detail);
        equal("the tape after \"" + text + "\"", y.account(11), 0);
        unchanged("run of \"" + text + "\"", x, before, Whole.REASONS, Whole.TAPE);
    }

    /** The text has its fault at this place; the tape is empty then; nothing else has changed. */
    void fault(String text, Desk x, int position) {
        Whole before = new Whole(x);
        Deeds.feed(x, text);
        throwsJust("run of \"" + text + "\"", x, IllegalArgumentException.class, Desk::run);
        Desk y = x.again();
        try {
            equal("fault position of \"" + text + "\"", y.faultPosition(), position);
        } catch (NoSuchElementException e) {
            tell("run of \"" + text + "\": no fault position was kept");
        }
        equal("the tape after \"" + text + "\"", y.account(11), 0);
        unchanged("run of \"" + text + "\"", x, before, Whole.FAULT, Whole.TAPE);
    }

    void kept(String what, Desk x, int reason, int detail) {
        try {
            equal(what + ": reason", x.reason(false, false), reason);
            equal(what + ": detail", x.reason(false, true), detail);
        } catch (NoSuchElementException e) {
            tell(what + ": no reason was kept");
        }
    }

    void behind(String what, Desk x, int reason, int detail) {
        try {
            equal(what + ": reason behind", x.reason(true, false), reason);
            equal(what + ": detail behind", x.reason(true, true), detail);
        } catch (NoSuchElementException e) {
            tell(what + ": no reason stands behind");
        }
    }

    void throwsJust(String what, Desk x, Class<?> want, Act act) {
        looked++;
        try {
            act.on(x);
        } catch (RuntimeException e) {
            if (e.getClass() != want) {
                tell(what + " throws " + e.getClass().getName() + ", due is " + want.getName());
            }
            return;
        }
        tell(what + " throws nothing, due is " + want.getName());
    }

    private void unchanged(String what, Desk x, Whole before, String... but) {
        equal(what + ": what has changed", new Whole(x).changedSince(before, but), "");
    }

    private void tell(String message) {
        wrong++;
        System.out.println(about + message);
    }

    void end() {
        System.out.println(looked + " answers, " + wrong + " not as due");
        if (wrong != 0) {
            System.exit(1);
        }
    }
}

/** Compares answers with those that are due, and ends a test with exit code 1 if one differs. */
final class Due {
    interface Call {
        void make();
    }

    private int looked = 0;
    private int wrong = 0;

    void equal(String what, long got, long want) {
        looked++;
        if (got != want) {
            tell(what + " answered " + got + ", due is " + want);
        }
    }

    void equal(String what, String got, String want) {
        looked++;
        if (!got.equals(want)) {
            tell(what + " answered \"" + got + "\", due is \"" + want + "\"");
        }
    }

    void same(String what, double got, double want) {
        looked++;
        if (got != want) {
            tell(what + " answered " + got + ", due is " + want);
        }
    }

    void holds(String what, boolean got) {
        looked++;
        if (!got) {
            tell(what + " does not hold");
        }
    }

    /** The call throws an exception of just this class. */
    void thrown(String what, Class<?> want, Call call) {
        looked++;
        try {
            call.make();
        } catch (RuntimeException e) {
            if (e.getClass() != want) {
                tell(what + " throws " + e.getClass().getName() + ", due is " + want.getName());
            }
            return;
        }
        tell(what + " throws nothing, due is " + want.getName());
    }

    /** The call is refused for this reason, and nothing of the office is other than before. */
    void refused(String what, CloudDeeds x, int reason, int detail, Call call) {
        String before = Deeds.office(x);
        thrown(what, UnsupportedOperationException.class, call);
        kept(what, x, reason, detail);
        thrown(what + ": a reason behind", java.util.NoSuchElementException.class, () -> x.reason(true, false));
        thrown(what + ": a detail behind", java.util.NoSuchElementException.class, () -> x.reason(true, true));
        equal(what + ": the office", Deeds.office(x), before);
    }

    void kept(String what, CloudDeeds x, int reason, int detail) {
        try {
            equal(what + ": reason", x.reason(false, false), reason);
            equal(what + ": detail", x.reason(false, true), detail);
        } catch (java.util.NoSuchElementException e) {
            tell(what + ": no reason was kept");
        }
    }

    private void tell(String message) {
        wrong++;
        System.out.println(message);
    }

    void end() {
        System.out.println(looked + " answers, " + wrong + " not as due");
        if (wrong != 0) {
            System.exit(1);
        }
    }
}

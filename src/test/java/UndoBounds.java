/** Promises 36 to 38: the boundary cases that their sentences name. */
final class UndoBounds {
    private static final Class<?> BAD_STATE = IllegalStateException.class;

    private final Due due;

    UndoBounds(Due due) {
        this.due = due;
    }

    void test() {
        due.all(this::undo, this::undoOfEachChange, this::undoNumber, this::undoThrows, this::save, this::restore,
            this::restoreForgetsChanges, this::restoreNumber, this::restoreThrows);
    }

    /** What goes back: the office without how many changes can be undone, which is told last. */
    private static String office(Desk x) {
        String office = Deeds.office(x);
        return office.substring(0, office.lastIndexOf(' '));
    }

    private void undo() {
        due.about(36, "Undoes the latest change that was not undone.");
        Desk x = new Desk();
        String[] were = new String[13];
        for (int n = 0; n < 12; n++) {
            were[n] = office(x);
            if (n % 2 == 0) {
                x.cloud(n / 2, 0, 1 + n / 2);
            } else {
                x.dawn();
            }
        }
        for (int n = 11; n >= 4; n--) {
            x.undo();
            due.equal("the office ahead of change " + n, office(x), were[n]);
        }
        due.thrown("a change that is too old", x, BAD_STATE, Desk::undo);
        due.equal("the office as it stays", office(x), were[4]);
        x.hail(0);
        x.hail(1);
        x.undo();
        x.wind(1);
        x.undo();
        x.undo();
        due.equal("the office ahead of changes of which one was undone", office(x), were[4]);
    }

    private void undoOfEachChange() {
        due.about(36, "Undoes the latest change that was not undone.");
        Desk x = new Desk();
        x.cloud(0, 0, 3);
        x.cloud(0, 1, 1);
        x.cloud(0, 2, 2);
        x.title(0, 0);
        x.title(1, 2);
        x.pledge(1, 3);
        x.vine(1, 3);
        x.dawn();
        isUndone("cloud", x, d -> d.cloud(5, 5, 9));
        isUndone("vine", x, d -> d.vine(0, 0));
        isUndone("vine to none", x, d -> d.vine(1, -1));
        isUndone("title", x, d -> d.title(2, 0));
        isUndone("sell", x, d -> d.sell(0, 1, 20));
        isUndone("pledge", x, d -> d.pledge(0, 1));
        isUndone("redeem", x, d -> d.redeem(1));
        isUndone("wind", x, d -> d.wind(-3));
        isUndone("hail that forecloses one", x, d -> d.hail(0));
        isUndone("dawn", x, Desk::dawn);
        x.wind(1);
        isUndone("a dawn at which all lapse", x, Desk::dawn);
        x.dawn();
        isUndone("hail by which one is gone", x, d -> d.hail(1));
        isUndone("a text", x, d -> Deeds.run(d, "hail 1;hail 1;hail 1;cloud 0 0 1;dawn;dawn;dawn;dawn;dawn"));
        for (int n = 0; n < 5; n++) {
            x.cloud(0, 0, 1);
            x.hail(0);
            x.dawn();
        }
        isUndone("a sixth dawn", x, Desk::dawn);
    }

    private void isUndone(String what, Desk x, Due.Act act) {
        Desk y = x.again();
        String before = office(y);
        act.on(y);
        due.holds(what + " changes the office", !office(y).equals(before));
        y.undo();
        due.equal("the office ahead of " + what, office(y), before);
    }

    private void undoNumber() {
        due.about(36, "Returns the number of changes that can still be undone.");
        for (int changes : new int[] {1, 2, 7, 8, 9, 12, 17}) {
            Desk x = new Desk();
            for (int n = 0; n < changes; n++) {
                x.dawn();
            }
            for (int left = Math.min(changes, 8) - 1; left >= 0; left--) {
                due.equal("changes that are left of " + changes, x.undo(), left);
                due.equal("the account of them", x.account(12), left);
                due.equal("dawns", x.account(4), changes - Math.min(changes, 8) + left);
            }
        }
        Desk x = new Desk();
        for (int n = 0; n < 10; n++) {
            x.dawn();
        }
        for (int n = 0; n < 5; n++) {
            x.undo();
        }
        x.dawn();
        due.equal("changes that are left: 8 less 5, and 1 that is undone again", x.undo(), 3);
        for (int n = 0; n < 7; n++) {
            x.dawn();
        }
        due.equal("changes that are left: 8 of 10, less 1", x.undo(), 7);
    }

    private void undoThrows() {
        due.about(36, "Throws `IllegalStateException` if there is none");
        Desk x = new Desk();
        due.thrown("at first", x, BAD_STATE, Desk::undo);
        due.refused("a wind 0", x, 3, 0, d -> d.wind(0));
        due.fault("x", x, 0);
        due.refusedText("dawn;wind 0", x, 1, 3, 0);
        x.save();
        due.thrown("after what is no change", x, BAD_STATE, Desk::undo);
        x.dawn();
        due.equal("after a change", x.undo(), 0);
        due.thrown("after it was undone", x, BAD_STATE, Desk::undo);
        due.thrown("again", x, BAD_STATE, Desk::undo);
        for (int n = 0; n < 9; n++) {
            x.dawn();
        }
        for (int n = 0; n < 8; n++) {
            x.undo();
        }
        due.thrown("the ninth change from the end", x, BAD_STATE, Desk::undo);
        due.asked("dawns", x, 1, d -> d.account(4));
    }

    private void save() {
        due.about(37, "Saves all that goes back when a change is undone, in place of what was saved before.");
        Desk x = TextTermsBounds.eventful();
        x.vine(0, 1);
        Whole before = new Whole(x);
        String saved = office(x);
        x.save();
        due.equal("what save has changed", new Whole(x).changedSince(before, Whole.SAVED), "");
        x.run();
        x.hail(0);
        x.hail(2);
        x.dawn();
        x.vine(5, 0);
        due.holds("the office is other than it was", !office(x).equals(saved));
        x.restore();
        due.equal("the office as it was saved", office(x), saved);
        x.cloud(0, 0, 1);
        String later = office(x);
        x.save();
        x.dawn();
        x.restore();
        due.equal("the office as it was saved later", office(x), later);
        due.about(37, "Returns the clouds.");
        Desk y = new Desk();
        for (int n = 0; n < 6; n++) {
            due.equal("clouds", y.save(), n);
            y.cloud(0, 0, 1);
        }
        due.equal("clouds, all there can be", y.save(), 6);
        y.hail(0);
        due.equal("no clouds again", y.save(), 0);
    }

    private void restore() {
        due.about(38, "Restores what was saved last, which stays saved.");
        Desk x = TextTermsBounds.eventful();
        x.save();
        String saved = office(x);
        for (int n = 0; n < 3; n++) {
            x.dawn();
            x.hail(n % 2);
            x.wind(1);
            Whole before = new Whole(x);
            x.restore();
            String changed = new Whole(x).changedSince(before, Whole.OFFICE, Whole.CHANGES, Whole.TAPE);
            due.equal("what restore has changed beside the office", changed, "");
            due.equal("the office as it was saved", office(x), saved);
        }
        due.asked("characters on the tape, which stay", x, 6, d -> d.account(11));
        x.restore();
        due.equal("the office, restored at once again", office(x), saved);
        Desk y = new Desk();
        y.save();
        y.cloud(0, 0, 1);
        y.undo();
        y.restore();
        due.equal("an office as new", office(y), office(new Desk()));
        y.dawn();
        y.save();
        y.undo();
        y.restore();
        due.asked("a dawn that was undone since", y, 1, d -> d.account(4));
    }

    private void restoreForgetsChanges() {
        due.about(38, "Nothing can be undone then.");
        for (int changes : new int[] {0, 1, 8, 9}) {
            Desk x = new Desk();
            x.save();
            for (int n = 0; n < changes; n++) {
                x.dawn();
            }
            x.restore();
            due.asked("changes that can be undone", x, 0, d -> d.account(12));
            due.thrown("undo", x, BAD_STATE, Desk::undo);
            x.cloud(0, 0, 1);
            x.cloud(0, 0, 1);
            due.equal("undo of what came since", x.undo(), 1);
            due.equal("undo of what came since", x.undo(), 0);
            due.thrown("undo of what was ahead of it", x, BAD_STATE, Desk::undo);
            due.asked("clouds", x, 0, d -> d.account(0));
        }
    }

    private void restoreNumber() {
        due.about(38, "Returns the clouds.");
        for (int clouds = 0; clouds <= 6; clouds++) {
            Desk x = new Desk();
            for (int n = 0; n < clouds; n++) {
                x.cloud(0, 0, 1);
            }
            x.save();
            x.hail(0);
            due.equal("clouds, instead of none", x.restore(), clouds);
            while (x.account(0) < 6) {
                x.cloud(0, 0, 1);
            }
            due.equal("clouds, instead of six", x.restore(), clouds);
            due.asked("clouds", x, clouds, d -> d.account(0));
        }
    }

    private void restoreThrows() {
        due.about(38, "Throws `IllegalStateException` if nothing was saved");
        Desk x = new Desk();
        due.thrown("at first", x, BAD_STATE, Desk::restore);
        x.cloud(0, 0, 1);
        x.dawn();
        x.undo();
        Deeds.feed(x, "dawn");
        due.thrown("without a save", x, BAD_STATE, Desk::restore);
        x.save();
        due.equal("with a save", x.restore(), 1);
        x.cloud(0, 0, 1);
        x.undo();
        due.equal("a save is not undone", x.restore(), 1);
    }
}

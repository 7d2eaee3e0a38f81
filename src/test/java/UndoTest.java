/** Promises 36 to 38: undo and the snapshot. */
public final class UndoTest {
    private static final Class<?> BAD_STATE = IllegalStateException.class;
    private static final Due due = new Due();

    public static void main(String[] args) {
        promise36UndoEachChange();
        promise36UndoDawns();
        promise36UndoMost();
        promise36UndoWhatIsNoChange();
        promise37Save();
        promise38Restore();
        due.end();
    }

    private static void promise36UndoEachChange() {
        Desk x = new Desk();
        due.thrown("nothing to undo", x, BAD_STATE, Desk::undo);
        Deeds.run(x, "cloud 0 0 3;cloud 0 3 1;title 0>0;dawn;vine 1>1");
        String[] texts = {"cloud 2 2 2", "vine 0>3", "title 1>1", "sell 0>2=9", "pledge 0>1", "redeem 0", "wind 2",
            "hail 0", "dawn"};
        Due.Act[] changes = {d -> d.cloud(2, 2, 2), d -> d.vine(0, 3), d -> d.title(1, 1), d -> d.sell(0, 2, 9),
            d -> d.pledge(0, 1), d -> d.redeem(0), d -> d.wind(2), d -> d.hail(0), Desk::dawn};
        for (int n = 0; n < changes.length; n++) {
            String before = Deeds.office(x);
            if (texts[n].startsWith("redeem")) {
                x.pledge(0, 1);
                before = Deeds.office(x);
            }
            changes[n].on(x);
            String after = Deeds.office(x);
            due.holds(texts[n] + " is a change", !after.equals(before));
            x.undo();
            due.equal(texts[n] + " is undone", Deeds.office(x), before);
            Deeds.run(x, texts[n]);
            due.equal(texts[n] + " as an order", Deeds.office(x), after);
            x.undo();
            due.equal(texts[n] + " is undone as an order", Deeds.office(x), before);
            if (texts[n].startsWith("redeem")) {
                x.undo();
            }
        }
        due.equal("undo", x.undo(), 0);
        due.equal("as new", Deeds.office(x), Deeds.office(new Desk()));
        due.thrown("nothing to undo", x, BAD_STATE, Desk::undo);
    }

    private static void promise36UndoDawns() {
        Desk x = new Desk();
        for (int n = 0; n < 6; n++) {
            x.cloud(0, 0, 1);
            x.dawn();
        }
        due.equal("six dawns", Deeds.dawnLine(x, 0) + Deeds.dawnLine(x, 4), "--------");
        x.undo();
        due.equal("the latest then", Deeds.dawnLine(x, 0), "-----");
        due.equal("the first again", Deeds.dawnLine(x, 4), "-");
        due.equal("the second", x.recorded(3, 1), -1);
        x.undo();
        x.undo();
        due.equal("the latest then", Deeds.dawnLine(x, 0), "----");
        due.thrown("a dawn that is undone", x, java.util.NoSuchElementException.class, d -> d.dawnLine(4));
        x.save();
        x.hail(0);
        x.dawn();
        due.equal("a dawn without clouds", x.dawnLine(0), 0);
        x.restore();
        due.equal("the latest of the snapshot", Deeds.dawnLine(x, 0), "----");
        due.equal("the first of the snapshot", Deeds.dawnLine(x, 3), "-");
        due.thrown("a dawn that is no more", x, java.util.NoSuchElementException.class, d -> d.dawnLine(4));
    }

    private static void promise36UndoMost() {
        Desk x = new Desk();
        for (int n = 1; n <= 12; n++) {
            x.dawn();
            due.equal("changes", x.account(12), Math.min(n, 8));
        }
        for (int n = 1; n <= 8; n++) {
            due.equal("undo", x.undo(), 8 - n);
            due.equal("dawns", x.account(4), 12 - n);
        }
        due.thrown("nothing to undo", x, BAD_STATE, Desk::undo);
        due.equal("dawns", x.account(4), 4);
        x.cloud(0, 0, 1);
        x.cloud(0, 0, 2);
        due.equal("undo", x.undo(), 1);
        x.cloud(0, 0, 3);
        due.equal("changes", x.account(12), 2);
        x.undo();
        due.equal("undo", x.undo(), 0);
        due.equal("clouds", x.account(0), 0);
    }

    private static void promise36UndoWhatIsNoChange() {
        Desk x = new Desk();
        x.cloud(0, 0, 1);
        Deeds.feed(x, "dawn;y");
        due.throwsJust("run", x, IllegalArgumentException.class, Desk::run);
        Deeds.feed(x, "dawn;vine 0-");
        due.throwsJust("run", x, UnsupportedOperationException.class, Desk::run);
        due.refused("vine", x, 4, -1, d -> d.vine(0, -1));
        x.line(0);
        x.would(0, 1);
        x.bestWind(0);
        x.save();
        x.isBalanced();
        Deeds.feed(x, "abc");
        due.equal("changes", x.account(12), 1);
        due.equal("undo", x.undo(), 0);
        due.equal("clouds", x.account(0), 0);
        due.equal("the tape does not go back", x.account(11), 3);
        due.equal("the line does not go back", x.character(0), '0');
        due.equal("the fault does not go back", x.faultPosition(), 5);
        due.kept("the reason does not go back", x, 4, -1);
    }

    private static void promise37Save() {
        Desk x = new Desk();
        due.equal("save", x.save(), 0);
        x.cloud(0, 0, 2);
        x.cloud(1, 0, 1);
        due.equal("save in place of it", x.save(), 2);
        due.equal("save is no change", x.account(12), 2);
        x.hail(1);
        due.equal("restore the latest", x.restore(), 2);
        due.equal("save", x.save(), 2);
    }

    private static void promise38Restore() {
        Desk x = new Desk();
        due.thrown("nothing was saved", x, BAD_STATE, Desk::restore);
        Deeds.run(x, "cloud 0 0 3;cloud 1 3 1;title 0>0;pledge 0>2;vine 1>1;dawn");
        x.undo();
        Deeds.run(x, "cloud 0 0 3;cloud 1 3 1;title 0>0;pledge 0>2;vine 1>1;dawn");
        String before = Deeds.office(x);
        x.save();
        Deeds.run(x, "wind 1;dawn;hail 1;hail 1;hail 2;vine 5>3");
        Deeds.feed(x, "xyz");
        due.equal("restore", x.restore(), 2);
        due.equal("nothing can be undone", x.account(12), 0);
        due.thrown("nothing can be undone", x, BAD_STATE, Desk::undo);
        due.equal("the tape stays", x.account(11), 3);
        due.throwsJust("run", x, IllegalArgumentException.class, Desk::run);
        String restored = Deeds.office(x);
        due.equal("the office", restored, before.substring(0, before.length() - 1) + "0");
        x.dawn();
        x.hail(0);
        due.equal("undo", x.undo(), 1);
        due.equal("restore again", x.restore(), 2);
        due.equal("the office again", Deeds.office(x), restored);
        x.cloud(5, 5, 5);
        due.equal("undo after restore", x.undo(), 0);
        due.equal("the office again", Deeds.office(x), restored);
    }
}

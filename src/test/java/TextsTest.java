import java.util.NoSuchElementException;

/** Promises 25 to 35: texts, lines, accounts. */
public final class TextsTest {
    private static final Class<?> FAULT = IllegalArgumentException.class;
    private static final Class<?> REFUSED = UnsupportedOperationException.class;
    private static final Class<?> NO_INDEX = IndexOutOfBoundsException.class;
    private static final Class<?> NO_ELEMENT = NoSuchElementException.class;
    private static final Due due = new Due();

    public static void main(String[] args) {
        promise25Feed();
        promise26RunEachOrder();
        promise26RunFaultEmptiesTape();
        promise26RunAllOrNone();
        promise26RunLongest();
        promise27Faults();
        promise27FaultPosition();
        promise28ReasonsOfOrders();
        promise28Reason();
        promise29Line();
        promise30DawnLine();
        promise31Character();
        promise32MeanSize();
        promise33TitledShare();
        promise34Account();
        promise35IsBalanced();
        due.end();
    }

    private static void promise25Feed() {
        Desk x = new Desk();
        for (int n = 1; n <= 60; n++) {
            due.equal("feed", x.feed((char) (n * 1000)), n);
            due.equal("characters on the tape", x.account(11), n);
        }
        due.thrown("feed a full tape", x, IllegalStateException.class, d -> d.feed('d'));
        due.equal("characters on the tape", x.account(11), 60);
        due.equal("feed is no change", x.account(12), 0);
        due.throwsJust("run", x, FAULT, Desk::run);
        due.equal("characters on the tape", x.account(11), 0);
        due.equal("feed", x.feed((char) 0), 1);
    }

    private static void promise26RunEachOrder() {
        Desk x = new Desk();
        due.equal("run", Deeds.run(x, "cloud 5 3 9;cloud 0 1 2;cloud 0 0 1"), 3);
        due.equal("line", Deeds.line(x, 0), "0@5:3/9");
        due.equal("line", Deeds.line(x, 1), "1@0:1/2");
        due.equal("one change", x.account(12), 1);
        due.equal("run", Deeds.run(x, "vine 5>3;vine 4>0;vine 4-"), 3);
        due.equal("owner", x.vineyardOf(5, 0), 3);
        due.equal("owner", x.vineyardOf(4, 0), -1);
        due.equal("run", Deeds.run(x, "title 1>2;title 2>0"), 2);
        due.equal("owner", x.cloudOf(1, 3), 2);
        due.equal("run", Deeds.run(x, "sell 1>0=12;sell 1>1=7;sell 1>3=05;sell 1>1=0"), 4);
        due.equal("coins", x.ownerOf(2, 0), 30);
        due.equal("coins", x.ownerOf(0, 0), 14);
        due.equal("coins", x.ownerOf(1, 0), 18);
        due.equal("coins", x.ownerOf(3, 0), 15);
        due.equal("run", Deeds.run(x, "pledge 1>0"), 1);
        due.equal("lender", x.cloudOf(1, 5), 0);
        due.equal("run", Deeds.run(x, "redeem 1"), 1);
        due.equal("lender", x.cloudOf(1, 5), -1);
        due.equal("run", Deeds.run(x, "wind 1"), 1);
        due.equal("line", Deeds.line(x, 1), "1@1:2/2=1?");
        due.equal("run", Deeds.run(x, "wind -3"), 1);
        due.equal("line", Deeds.line(x, 1), "1@4:5/2=1?");
        due.equal("run", Deeds.run(x, "hail 4"), 1);
        due.equal("line", Deeds.line(x, 1), "1@4:5/1=1?");
        due.equal("gone", x.account(8), 1);
        due.equal("run", Deeds.run(x, "dawn"), 1);
        due.equal("dawns", x.account(4), 1);
        due.equal("the tape is empty", x.account(11), 0);
        due.equal("changes", x.account(12), 8);
    }

    private static void promise26RunFaultEmptiesTape() {
        Desk x = new Desk();
        String before = Deeds.office(x);
        Deeds.feed(x, "dawn;dawn;x");
        due.throwsJust("run with a fault", x, FAULT, Desk::run);
        due.equal("the tape is empty", x.account(11), 0);
        due.equal("the office stays", Deeds.office(x), before);
        due.thrown("a fault is no reason", x, NO_ELEMENT, d -> d.reason(false, false));
        due.equal("run", Deeds.run(x, "dawn"), 1);
    }

    private static void promise26RunAllOrNone() {
        Desk x = new Desk();
        Deeds.run(x, "cloud 0 0 9;vine 0>1;dawn");
        String before = Deeds.office(x);
        Deeds.feed(x, "dawn;wind 1;cloud 1 1 1;vine 0-;hail 1;dawn;title 9>0");
        due.throwsJust("run refused", x, REFUSED, Desk::run);
        due.equal("the tape is empty", x.account(11), 0);
        due.equal("the office stays", Deeds.office(x), before);
        due.kept("run", x, 10, 6);
        due.equal("reason behind", x.reason(true, false), 2);
        due.equal("detail behind", x.reason(true, true), 9);
        due.equal("run", Deeds.run(x, "dawn;wind 1;hail 1"), 3);
        due.equal("undo a run as a whole", x.undo(), 1);
        due.equal("the office is back", Deeds.office(x), before);
        // An order sees what the orders ahead of it did.
        due.equal("run", Deeds.run(x, "sell 0>2=3;pledge 0>3;wind 2;hail 2"), 4);
        due.equal("line", Deeds.line(x, 0), "0@2:2/9=3");
    }

    private static void promise26RunLongest() {
        Desk x = new Desk();
        due.equal("twelve orders", Deeds.run(x, "dawn;dawn;dawn;dawn;dawn;dawn;dawn;dawn;dawn;dawn;dawn;dawn"), 12);
        due.equal("dawns", x.account(4), 12);
        Deeds.feed(x, "dawn;dawn;dawn;dawn;dawn;dawn;dawn;dawn;dawn;dawn;dawn;dawn;");
        due.throwsJust("a full tape that ends too early", x, FAULT, Desk::run);
        due.equal("fault position", x.faultPosition(), 60);
        due.equal("dawns", x.account(4), 12);
        Deeds.feed(x, "dawn;dawn;dawn;dawn;dawn;dawn;dawn;dawn;dawn;dawn;dawn;dawn ");
        due.throwsJust("run", x, FAULT, Desk::run);
        due.equal("fault position", x.faultPosition(), 59);
    }

    private static void fault(String text, int position) {
        Desk x = new Desk();
        x.cloud(0, 0, 9);
        x.title(0, 0);
        due.fault(text, x, position);
    }

    private static void promise27Faults() {
        fault("", 0);
        fault(" ", 0);
        fault(";", 0);
        fault("Dawn", 0);
        fault("\u0164awn", 0);
        fault("1", 0);
        String[] texts = {"cloud 0 1 2", "vine 0>1", "vine 0-", "title 0>1", "sell 0>1=2", "sell 0>1=23", "pledge 0>1",
            "redeem 0", "wind 1", "wind -1", "hail 0", "dawn"};
        for (String text : texts) {
            boolean endsWithNumber = text.startsWith("sell");
            for (int n = 0; n < text.length(); n++) {
                String start = text.substring(0, n);
                boolean isWhole = text.equals("sell 0>1=23") && n == text.length() - 1;
                if (!isWhole) {
                    fault(start, n);
                    fault("dawn;" + start, 5 + n);
                    fault(start + ";", n);
                }
                fault(start + "x", n);
                fault(start + "\u0000", n);
                fault(start + (char) (text.charAt(n) + 256), n);
            }
            fault(text + " ", text.length());
            fault(text + "\uffff", text.length());
            fault(text + ";", text.length() + 1);
            fault(text + ";;", text.length() + 1);
            fault(text + "; dawn", text.length() + 1);
            if (!endsWithNumber || text.endsWith("23")) {
                fault(text + "0", text.length());
            }
        }
        fault("cloud  0 1 2", 6);
        fault("cloud 0 1 -", 10);
        fault("vine 0=1", 6);
        fault("vine 0--", 7);
        fault("vine -1", 5);
        fault("vine 0>-", 7);
        fault("wind --1", 6);
        fault("wind +1", 5);
        fault("sell 0>1=-1", 9);
        fault("sell 0>1=100", 11);
        fault("sell 0>1=/", 9);
        fault("sell 0>1=:", 9);
        fault("hail /", 5);
        fault("hail :", 5);
        fault("hail \u0661", 5);
        fault("dawn,dawn", 4);
        fault("title 9>9;pledge 9>", 19);
    }

    private static void promise27FaultPosition() {
        Desk x = new Desk();
        due.thrown("no fault", x, NO_ELEMENT, Desk::faultPosition);
        Deeds.run(x, "dawn");
        due.thrown("no fault", x, NO_ELEMENT, Desk::faultPosition);
        Deeds.feed(x, "dawx");
        due.throwsJust("run", x, FAULT, Desk::run);
        due.equal("fault position", x.faultPosition(), 3);
        Deeds.run(x, "dawn");
        due.equal("fault position, after a text without", x.faultPosition(), 3);
        Deeds.feed(x, "wind 0");
        due.throwsJust("run", x, REFUSED, Desk::run);
        due.equal("fault position, after one refused", x.faultPosition(), 3);
        x.undo();
        due.equal("fault position, after undo", x.faultPosition(), 3);
        due.throwsJust("run", x, FAULT, Desk::run);
        due.equal("fault position of nothing", x.faultPosition(), 0);
    }

    private static void promise28ReasonsOfOrders() {
        Desk x = new Desk();
        Deeds.run(x, "cloud 0 0 9;title 0>0;pledge 0>1;cloud 0 0 9;title 1>2");
        due.refusedText("cloud 0 0 1;cloud 0 0 1;cloud 0 0 1;cloud 0 0 1;cloud 0 0 1", x, 4, 1, 6);
        due.refusedText("cloud 6 0 0", x, 0, 2, 6);
        due.refusedText("cloud 0 9 0", x, 0, 3, 9);
        due.refusedText("dawn;cloud 0 0 0", x, 1, 3, 0);
        due.refusedText("vine 7>0", x, 0, 2, 7);
        due.refusedText("vine 0>4", x, 0, 2, 4);
        due.refusedText("vine 0-", x, 0, 4, -1);
        due.refusedText("title 2>0", x, 0, 2, 2);
        due.refusedText("title 0>3", x, 0, 5, 0);
        due.refusedText("cloud 0 0 9;title 2>1", x, 1, 7, 2);
        due.refusedText("sell 0>4=0", x, 0, 2, 4);
        due.refusedText("cloud 0 0 1;sell 2>0=1", x, 1, 6, 2);
        due.refusedText("sell 0>0=1", x, 0, 4, 0);
        due.refusedText("sell 0>3=0", x, 0, 8, 1);
        due.refusedText("sell 1>1=99", x, 0, 7, 2);
        due.refusedText("pledge 0>2", x, 0, 8, 1);
        due.refusedText("redeem 1", x, 0, 9, 1);
        due.refusedText("dawn;dawn;wind -0", x, 2, 3, 0);
        due.refusedText("wind -9", x, 0, 3, -9);
        due.refusedText("wind 4", x, 0, 3, 4);
        due.refusedText("hail 6", x, 0, 2, 6);
    }

    private static void promise28Reason() {
        Desk x = new Desk();
        for (int n = 0; n < 4; n++) {
            boolean isBehind = n >= 2;
            boolean isDetail = n % 2 == 1;
            due.thrown("no reason", x, NO_ELEMENT, d -> d.reason(isBehind, isDetail));
        }
        due.refused("wind", x, 3, -7, d -> d.wind(-7));
        x.dawn();
        due.kept("after a change", x, 3, -7);
        x.undo();
        due.kept("after undo", x, 3, -7);
        Deeds.feed(x, "dawn;redeem 5");
        due.throwsJust("run", x, REFUSED, Desk::run);
        due.kept("run", x, 10, 1);
        due.equal("behind", x.reason(true, false), 2);
        due.equal("behind", x.reason(true, true), 5);
        Deeds.feed(x, "fault");
        due.throwsJust("run", x, FAULT, Desk::run);
        due.thrown("an exception without a reason", x, NO_INDEX, d -> d.line(0));
        due.kept("after a fault", x, 10, 1);
        due.equal("behind", x.reason(true, true), 5);
        due.refused("hail, so that none stands behind any more", x, 2, 8, d -> d.hail(8));
        x.save();
        x.restore();
        due.kept("after restore", x, 2, 8);
    }

    private static void promise29Line() {
        Desk x = new Desk();
        x.cloud(0, 0, 1);
        x.cloud(1, 3, 7);
        due.equal("line", x.line(0), 7);
        due.equal("line", Deeds.line(x, 0), "0@0:0/1");
        x.title(1, 3);
        due.equal("line", Deeds.line(x, 1), "1@1:3/7=3");
        x.pledge(1, 0);
        due.equal("line", Deeds.line(x, 1), "1@1:3/7=3*0");
        x.wind(3);
        x.wind(2);
        due.equal("line", Deeds.line(x, 1), "1@0:2/7=3?*0");
        due.equal("length", x.line(1), 12);
        x.redeem(1);
        due.equal("line", Deeds.line(x, 1), "1@0:2/7=3?");
        for (int cloud : new int[] {-1, 2, 99, Integer.MIN_VALUE, Integer.MAX_VALUE}) {
            due.thrown("line " + cloud, x, NO_INDEX, d -> d.line(cloud));
        }
        due.equal("the line stays", Deeds.read(x, 10), "1@0:2/7=3?");
        x.undo();
        due.equal("the line stays", Deeds.read(x, 10), "1@0:2/7=3?");
        due.thrown("no longer than this", x, NO_INDEX, d -> d.character(10));
    }

    private static void promise30DawnLine() {
        Desk x = new Desk();
        due.thrown("no dawn", x, NO_ELEMENT, d -> d.dawnLine(0));
        x.dawn();
        for (int n = 0; n < 4; n++) {
            x.cloud(n, 0, 1);
        }
        x.title(0, 0);
        x.title(1, 3);
        x.title(3, 1);
        x.dawn();
        due.equal("length", x.dawnLine(0), 4);
        due.equal("record", Deeds.dawnLine(x, 0), "03-1");
        x.hail(0);
        due.equal("record of then", Deeds.dawnLine(x, 0), "03-1");
        x.dawn();
        due.equal("record", Deeds.dawnLine(x, 0), "3-1");
        due.equal("record, one ago", Deeds.dawnLine(x, 1), "03-1");
        due.equal("record without clouds", x.dawnLine(2), 0);
        due.thrown("an empty line", x, NO_INDEX, d -> d.character(0));
        x.dawnLine(1);
        for (int ago : new int[] {-1, 3, 99, Integer.MIN_VALUE, Integer.MAX_VALUE}) {
            due.thrown("dawnLine " + ago, x, NO_ELEMENT, d -> d.dawnLine(ago));
        }
        due.equal("the line stays", Deeds.read(x, 4), "03-1");
        x.wind(1);
        x.dawn();
        x.dawn();
        due.equal("record", Deeds.dawnLine(x, 0), "---");
        due.equal("four ago", x.dawnLine(4), 0);
        x.dawn();
        due.equal("four ago", Deeds.dawnLine(x, 4), "03-1");
        due.thrown("five ago", x, NO_ELEMENT, d -> d.dawnLine(5));
        x.cloud(5, 5, 1);
        x.cloud(5, 5, 1);
        x.cloud(5, 5, 1);
        x.vine(5, 2);
        x.dawn();
        due.equal("six clouds", Deeds.dawnLine(x, 0), "---222");
        due.equal("one ago", Deeds.dawnLine(x, 1), "---");
    }

    private static void promise31Character() {
        Desk x = new Desk();
        due.thrown("an empty line", x, NO_INDEX, d -> d.character(0));
        x.cloud(4, 2, 7);
        x.line(0);
        String want = "0@4:2/7";
        for (int n = 0; n < want.length(); n++) {
            due.equal("character " + n, x.character(n), want.charAt(n));
        }
        for (int index : new int[] {-1, 7, 99, Integer.MIN_VALUE, Integer.MAX_VALUE}) {
            due.thrown("character " + index, x, NO_INDEX, d -> d.character(index));
        }
        x.dawn();
        x.dawnLine(0);
        due.equal("in place of the line before", x.character(0), '-');
        due.thrown("in place of the line before", x, NO_INDEX, d -> d.character(1));
    }

    private static void promise32MeanSize() {
        Desk x = new Desk();
        due.thrown("no clouds", x, ArithmeticException.class, Desk::meanSize);
        x.cloud(0, 0, 9);
        due.same("mean", x.meanSize(), 9.0);
        x.cloud(0, 0, 2);
        due.same("mean", x.meanSize(), 5.5);
        x.cloud(0, 0, 9);
        due.same("mean", x.meanSize(), 20.0 / 3.0);
        x.hail(0);
        due.same("mean", x.meanSize(), 17.0 / 3.0);
        x.hail(0);
        due.same("mean", x.meanSize(), 7.0);
        for (int n = 0; n < 7; n++) {
            x.hail(0);
        }
        due.thrown("no clouds", x, ArithmeticException.class, Desk::meanSize);
    }

    private static void promise33TitledShare() {
        Desk x = new Desk();
        due.thrown("no clouds", x, ArithmeticException.class, Desk::titledShare);
        x.cloud(0, 0, 1);
        due.same("share", x.titledShare(), 0.0f);
        x.title(0, 0);
        due.same("share", x.titledShare(), 1.0f);
        x.cloud(0, 0, 2);
        x.cloud(0, 0, 2);
        due.same("share", x.titledShare(), 1.0f / 3.0f);
        x.title(2, 1);
        due.same("share", x.titledShare(), 2.0f / 3.0f);
        x.hail(0);
        due.same("share", x.titledShare(), 0.5f);
        x.hail(0);
        due.thrown("no clouds", x, ArithmeticException.class, Desk::titledShare);
    }

    private static void accounts(Desk x, int... want) {
        for (int what = 0; what <= 12; what++) {
            due.equal("account " + what, x.account(what), want[what]);
        }
    }

    private static void promise34Account() {
        Desk x = new Desk();
        accounts(x, 0, 0, 0, 0, 0, 0, 0, 0, 0, 0, 0, 0, 0);
        Deeds.run(x, "cloud 0 0 4;cloud 1 1 2;cloud 2 2 1;cloud 3 3 1");
        Deeds.run(x, "vine 0>0;vine 1>0;vine 2>3;title 3>1;pledge 3>2");
        accounts(x, 4, 1, 1, 3, 0, 0, 0, 0, 0, 1, 0, 0, 2);
        x.dawn();
        accounts(x, 4, 4, 1, 3, 1, 0, 3, 0, 0, 1, 3, 0, 3);
        Deeds.run(x, "hail 3;hail 3;hail 2");
        accounts(x, 2, 2, 0, 3, 1, 0, 3, 1, 2, 1, 3, 0, 4);
        Deeds.run(x, "wind -1;dawn;title 0>3");
        accounts(x, 2, 2, 0, 3, 2, 2, 4, 1, 2, 5, 4, 0, 5);
        Deeds.feed(x, "vine");
        accounts(x, 2, 2, 0, 3, 2, 2, 4, 1, 2, 5, 4, 4, 5);
        x.undo();
        accounts(x, 2, 2, 0, 3, 1, 0, 3, 1, 2, 1, 3, 4, 4);
        for (int n = 0; n < 6; n++) {
            x.dawn();
        }
        due.equal("changes that can be undone", x.account(12), 8);
        x.cloud(0, 0, 1);
        due.equal("clouds", x.account(0), 3);
        due.equal("titles", x.account(1), 2);
        x.pledge(0, 1);
        due.equal("pledged", x.account(2), 1);
        x.pledge(1, 2);
        due.equal("pledged", x.account(2), 2);
        for (int what : new int[] {-1, 13, 99, Integer.MIN_VALUE, Integer.MAX_VALUE}) {
            due.thrown("account " + what, x, IllegalArgumentException.class, d -> d.account(what));
        }
    }

    private static void promise35IsBalanced() {
        Desk x = new Desk();
        due.holds("balanced", x.isBalanced());
        String[] texts = {"cloud 0 0 9;cloud 5 1 1;cloud 3 2 4", "title 0>0;title 1>1;pledge 0>3", "vine 0>1;vine 3>2;dawn",
            "wind 3;dawn", "hail 0;hail 2;hail 3", "title 0>0;sell 0>1=4;dawn;dawn"};
        for (String text : texts) {
            Deeds.feed(x, text);
            try {
                x.run();
            } catch (UnsupportedOperationException e) {
                due.kept("run", x, 10, 0);
            }
            due.holds("balanced after " + text, x.isBalanced());
        }
    }
}

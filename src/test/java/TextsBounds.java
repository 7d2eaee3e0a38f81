import java.util.NoSuchElementException;

/** Promises 25 to 35: the boundary cases that their sentences name. */
final class TextsBounds {
    private static final Class<?> NO_INDEX = IndexOutOfBoundsException.class;
    private static final Class<?> NO_ELEMENT = NoSuchElementException.class;
    private static final Class<?> BAD_ARGUMENT = IllegalArgumentException.class;
    private static final Class<?> BAD_STATE = IllegalStateException.class;
    private static final int LEAST = Integer.MIN_VALUE;
    private static final int MOST = Integer.MAX_VALUE;
    private static final String TWELVE = "dawn;dawn;dawn;dawn;dawn;dawn;dawn;dawn;dawn;dawn;dawn;dawn";

    private final Due due;

    TextsBounds(Due due) {
        this.due = due;
    }

    void test() {
        due.all(this::feed, this::feedRefused, this::runAllOrNone, this::runEmptiesTape, this::runNumber,
            this::runThrows, this::faultPosition, this::reason, this::line, this::lineLength, this::dawnLine,
            this::character, this::meanSize, this::titledShare, this::accountsAtMost, this::accountsSoFar,
            this::accountThrows, this::isBalanced);
    }

    private void feed() {
        due.about(25, "Appends a character to the tape.");
        Desk x = new Desk();
        x.feed('d');
        x.feed('a');
        x.feed('w');
        x.feed('n');
        due.equal("the text of four characters", x.run(), 1);
        due.about(25, "any character");
        for (char c : new char[] {0, 1, ' ', '/', '0', '9', ':', ';', 127, 128, 255, 256, 0x7fff, 0x8000, 0xd800, 0xffff}) {
            Desk y = new Desk();
            due.equal("feed of the character " + (int) c, y.feed('d'), 1);
            due.equal("feed of the character " + (int) c, y.feed(c), 2);
            due.asked("characters on the tape", y, 2, d -> d.account(11));
            due.throwsJust("a text with the character " + (int) c, y, BAD_ARGUMENT, Desk::run);
            due.equal("its fault", y.faultPosition(), 1);
        }
        for (int bit = 1; bit <= 0x8000; bit *= 2) {
            due.fault("daw" + (char) ('n' ^ bit), new Desk(), 3);
        }
        due.about(25, "Returns the new length of the tape.");
        Desk z = new Desk();
        for (int n = 1; n <= 60; n++) {
            due.equal("length", z.feed((char) (n * 1092)), n);
            due.equal("characters on the tape", z.account(11), n);
        }
        due.throwsJust("its text", z, BAD_ARGUMENT, Desk::run);
        due.equal("length, when it is empty again", z.feed('x'), 1);
    }

    private void feedRefused() {
        due.about(25, "Throws `IllegalStateException` if the tape has 60 characters");
        Desk x = new Desk();
        Deeds.feed(x, TWELVE);
        due.equal("the 60th character", x.feed(';'), 60);
        for (char c : new char[] {0, 'd', ';', 0xffff}) {
            due.thrown("a 61st character", x, BAD_STATE, d -> d.feed(c));
        }
        due.asked("characters on the tape", x, 60, d -> d.account(11));
        due.throwsJust("its text", x, BAD_ARGUMENT, Desk::run);
        due.equal("its fault, at its end", x.faultPosition(), 60);
        due.equal("the first character again", x.feed('d'), 1);
    }

    private void runAllOrNone() {
        due.about(26, "Reads the tape as a text and does its orders, all or none.");
        Desk x = new Desk();
        due.equal("all", Deeds.run(x, "cloud 5 0 9;vine 5>3;dawn;wind -1;hail 4;vine 5-"), 6);
        due.equal("the cloud", Deeds.line(x, 0), "0@4:1/8=3?");
        due.asked("vineyards with an owner", x, 0, d -> d.account(3));
        due.asked("changes", x, 1, d -> d.account(12));
        due.refusedText("hail 6;dawn;wind 1", x, 0, 2, 6);
        due.refusedText("dawn;wind 1;wind 0;hail 4", x, 2, 3, 0);
        due.refusedText("cloud 0 0 1;vine 0>0;dawn;hail 4;sell 1>1=9;wind 1;redeem 1", x, 6, 9, 1);
        due.fault("dawn;wind 1;cloud 0 0 1;", x, 24);
        due.fault("hail 6;wind 0;x", x, 14);
        Desk y = new Desk();
        for (int n = 0; n < 6; n++) {
            y.cloud(0, 0, 1);
        }
        due.equal("room that the text makes", Deeds.run(y, "hail 0;cloud 1 1 1;wind 1;title 0>0"), 4);
        due.equal("the cloud", Deeds.line(y, 0), "0@2:2/1=0");
        due.equal("undone as one", y.undo(), 6);
        due.asked("clouds", y, 6, d -> d.account(0));
    }

    private void runEmptiesTape() {
        due.about(26, "The tape is empty afterwards, also if an exception is thrown.");
        Desk x = new Desk();
        due.equal("a text", Deeds.run(x, "dawn"), 1);
        due.asked("characters after a text", x, 0, d -> d.account(11));
        Deeds.feed(x, "dawn;wind 0");
        due.throwsJust("a text that is refused", x, UnsupportedOperationException.class, Desk::run);
        due.asked("characters after one that is refused", x, 0, d -> d.account(11));
        Deeds.feed(x, "dawn;wind");
        due.throwsJust("a text with a fault", x, BAD_ARGUMENT, Desk::run);
        due.asked("characters after one with a fault", x, 0, d -> d.account(11));
        due.throwsJust("an empty text", x, BAD_ARGUMENT, Desk::run);
        due.asked("characters after an empty one", x, 0, d -> d.account(11));
        Deeds.feed(x, TWELVE + "x");
        due.throwsJust("the longest text", x, BAD_ARGUMENT, Desk::run);
        due.asked("characters after the longest", x, 0, d -> d.account(11));
        Deeds.feed(x, "dawn");
        due.asked("characters", x, 4, d -> d.account(11));
        due.equal("only the text since", x.run(), 1);
        due.asked("dawns", x, 2, d -> d.account(4));
    }

    private void runNumber() {
        due.about(26, "Returns the number of orders.");
        for (int n = 1; n <= 12; n++) {
            Desk x = new Desk();
            due.equal("orders", Deeds.run(x, TWELVE.substring(0, 5 * n - 1)), n);
            due.asked("dawns", x, n, d -> d.account(4));
            due.asked("changes", x, 1, d -> d.account(12));
        }
    }

    private void runThrows() {
        due.about(26, "Throws `IllegalArgumentException` if the text has a fault; its position is kept");
        Desk x = TextTermsBounds.eventful();
        x.run();
        due.fault("", x, 0);
        due.fault("x", x, 0);
        due.fault("d", x, 1);
        due.fault(TWELVE + "x", x, 59);
        due.fault(TWELVE + ";", x, 60);
        due.fault("dawn;", x, 5);
        x.dawn();
        x.undo();
        x.restore();
        Deeds.run(x, "dawn");
        due.equal("the position that is kept", x.faultPosition(), 5);
        due.about(26, "Throws `UnsupportedOperationException` if it is refused for the reason 10; the reason is kept");
        Desk y = TextTermsBounds.eventful();
        y.run();
        due.refusedText("wind 0", y, 0, 3, 0);
        due.refusedText(TWELVE.substring(0, 50) + "wind -9", y, 10, 3, -9);
        due.refusedText("hail 9;hail 8", y, 0, 2, 9);
        due.refusedText("dawn;vine 9-;hail 6", y, 1, 2, 9);
        y.dawn();
        y.undo();
        y.restore();
        Deeds.run(y, "dawn");
        due.kept("the reason that is kept", y, 10, 1);
        due.behind("the reason that is kept behind it", y, 2, 9);
    }

    private void faultPosition() {
        due.about(27, "Throws `NoSuchElementException` if there was none");
        Desk x = new Desk();
        due.thrown("at first", x, NO_ELEMENT, Desk::faultPosition);
        Deeds.run(x, "dawn");
        due.thrown("after a text without a fault", x, NO_ELEMENT, Desk::faultPosition);
        due.refusedText("wind 0", x, 0, 3, 0);
        due.thrown("after a text that was refused", x, NO_ELEMENT, Desk::faultPosition);
        due.refused("a wind", x, 3, 9, d -> d.wind(9));
        Deeds.feed(x, "x");
        due.thrown("ahead of a fault that is not read yet", x, NO_ELEMENT, Desk::faultPosition);
        due.about(27, "Returns the fault position of the text that was read last with a fault.");
        due.throwsJust("a text with a fault", x, BAD_ARGUMENT, Desk::run);
        due.asked("the first fault", x, 0, Desk::faultPosition);
        due.fault("dawn;daxn", x, 7);
        due.asked("a later place", x, 7, Desk::faultPosition);
        due.fault("dan", x, 2);
        due.asked("an earlier place", x, 2, Desk::faultPosition);
        Deeds.run(x, "dawn");
        due.asked("after a text without a fault", x, 2, Desk::faultPosition);
        due.refusedText("hail 9", x, 0, 2, 9);
        due.asked("after a text that was refused", x, 2, Desk::faultPosition);
        due.about(27, "Returns the position.");
        due.fault("", x, 0);
        due.asked("the least", x, 0, Desk::faultPosition);
        due.fault(TWELVE + ";", x, 60);
        due.asked("the most", x, 60, Desk::faultPosition);
    }

    private void reason() {
        due.about(28, "Throws `NoSuchElementException` if nothing was refused, or none stands behind");
        Desk x = new Desk();
        due.fault("x", x, 0);
        due.thrown("a cloud that is not there", x, NO_INDEX, d -> d.cloudOf(0, 0));
        x.dawn();
        for (int n = 0; n < 4; n++) {
            boolean isBehind = n >= 2;
            boolean isDetail = n % 2 == 1;
            due.thrown("nothing was refused", x, NO_ELEMENT, d -> d.reason(isBehind, isDetail));
        }
        due.refused("a wind", x, 3, LEAST, d -> d.wind(LEAST));
        due.thrown("none stands behind", x, NO_ELEMENT, d -> d.reason(true, false));
        due.thrown("none stands behind", x, NO_ELEMENT, d -> d.reason(true, true));
        due.about(28, "Returns the reason that was kept last, the one that stands behind it, or a detail.");
        due.refused("hail", x, 2, MOST, d -> d.hail(MOST));
        due.asked("the reason kept last", x, 2, d -> d.reason(false, false));
        due.asked("its detail", x, MOST, d -> d.reason(false, true));
        due.refusedText("dawn;vine 0-", x, 1, 4, -1);
        due.asked("the reason kept last", x, 10, d -> d.reason(false, false));
        due.asked("its detail", x, 1, d -> d.reason(false, true));
        due.asked("the one behind", x, 4, d -> d.reason(true, false));
        due.asked("its detail", x, -1, d -> d.reason(true, true));
        due.refusedText("hail 6;vine 0-", x, 0, 2, 6);
        due.asked("the detail 0", x, 0, d -> d.reason(false, true));
        due.asked("the detail behind", x, 6, d -> d.reason(true, true));
        due.refused("a wind 0", x, 3, 0, d -> d.wind(0));
        due.thrown("none stands behind any more", x, NO_ELEMENT, d -> d.reason(true, false));
        due.about(28, "Returns the reason or the detail.");
        due.asked("the reason", x, 3, d -> d.reason(false, false));
        due.asked("the detail", x, 0, d -> d.reason(false, true));
        due.refused("a wind", x, 3, -4, d -> d.wind(-4));
        due.asked("a detail below 0", x, -4, d -> d.reason(false, true));
    }

    private void line() {
        due.about(29, "Writes the line of a cloud, in place of the line before: its number, \"@\" and its vineyard, "
            + "\":\" and its shape, \"/\" and its size, and, with a title, \"=\" and the owner, \"?\" behind that "
            + "if the title is for another shape, and \"*\" and the lender if it is pledged; as in \"1@4:2/7=3?*0\".");
        Desk x = new Desk();
        x.cloud(0, 0, 1);
        x.cloud(3, 1, 7);
        x.title(1, 3);
        x.pledge(1, 0);
        due.equal("pledged", Deeds.line(x, 1), "1@3:1/7=3*0");
        x.wind(1);
        due.equal("the line of the document", Deeds.line(x, 1), "1@4:2/7=3?*0");
        due.equal("without a title, in place of a longer line", Deeds.line(x, 0), "0@1:1/1");
        due.thrown("a character of the longer line", x, NO_INDEX, d -> d.character(7));
        x.redeem(1);
        due.equal("redeemed", Deeds.line(x, 1), "1@4:2/7=3?");
        x.sell(1, 0, 0);
        due.equal("with a title of 0 for the shape", Deeds.line(x, 1), "1@4:2/7=0");
        x.pledge(1, 2);
        due.equal("pledged to 2", Deeds.line(x, 1), "1@4:2/7=0*2");
        Desk y = new Desk();
        for (int n = 0; n < 6; n++) {
            y.cloud(n, n, n + 4);
        }
        due.equal("all at their least", Deeds.line(y, 0), "0@0:0/4");
        due.equal("all at their most", Deeds.line(y, 5), "5@5:5/9");
        y.title(5, 0);
        y.pledge(5, 3);
        y.wind(-1);
        due.equal("the shape after 5", Deeds.line(y, 5), "5@4:0/9=0?*3");
    }

    private void lineLength() {
        due.about(29, "Returns the length of the line.");
        Desk x = new Desk();
        x.cloud(0, 0, 1);
        due.equal("without a title", x.line(0), 7);
        x.title(0, 0);
        due.equal("with a title", x.line(0), 9);
        x.wind(1);
        due.equal("with a title for another shape", x.line(0), 10);
        x.pledge(0, 1);
        due.equal("pledged, with a title for another shape", x.line(0), 12);
        x.wind(-3);
        x.wind(2);
        due.equal("pledged", x.line(0), 11);
        due.about(29, "Throws `IndexOutOfBoundsException` if there is no such cloud");
        due.thrown("cloud 0 of none", new Desk(), NO_INDEX, d -> d.line(0));
        for (int n = 1; n <= 6; n++) {
            for (int far : new int[] {-1, n, LEAST, MOST}) {
                due.thrown("cloud " + far + " of " + n, x, NO_INDEX, d -> d.line(far));
            }
            if (n < 6) {
                due.equal("a cloud more", x.cloud(0, 0, 1), n);
                due.equal("its line", x.line(n), 7);
            }
        }
    }

    private void dawnLine() {
        due.about(30, "Throws `NoSuchElementException` if there is no such dawn");
        Desk x = new Desk();
        for (int far : new int[] {-1, 0, 1, LEAST, MOST}) {
            due.thrown("the dawn " + far + " of none", x, NO_ELEMENT, d -> d.dawnLine(far));
        }
        due.about(30, "Returns the length of the line.");
        for (int n = 0; n <= 6; n++) {
            x.dawn();
            due.equal("clouds at the latest dawn", x.dawnLine(0), n);
            int clouds = n;
            due.thrown("a character behind the line", x, NO_INDEX, d -> d.character(clouds));
            if (n < 6) {
                x.cloud(n, 0, 1);
            }
        }
        due.about(30, "how many dawns ago, from 0 for the latest one");
        for (int ago = 0; ago <= 4; ago++) {
            due.equal(ago + " ago", x.dawnLine(ago), 6 - ago);
        }
        due.about(30, "Throws `NoSuchElementException` if there is no such dawn");
        for (int far : new int[] {-1, 5, 6, LEAST, MOST}) {
            due.thrown("the dawn " + far, x, NO_ELEMENT, d -> d.dawnLine(far));
        }
        due.about(30, "Writes the record of a dawn that is kept, in place of the line before: for each cloud of "
            + "then its owner, or \"-\" for none; as in \"03-1\".");
        Desk y = new Desk();
        for (int n = 0; n < 4; n++) {
            y.cloud(n, 0, 1);
        }
        y.title(0, 0);
        y.title(1, 3);
        y.title(3, 1);
        y.dawn();
        due.equal("the line of the document", Deeds.dawnLine(y, 0), "03-1");
        y.line(0);
        due.equal("in place of a longer line", Deeds.dawnLine(y, 0), "03-1");
        due.thrown("a character of the longer line", y, NO_INDEX, d -> d.character(4));
        y.hail(0);
        y.hail(2);
        due.equal("the clouds of then, two of which are gone", Deeds.dawnLine(y, 0), "03-1");
        y.sell(0, 2, 0);
        y.dawn();
        due.equal("the latest", Deeds.dawnLine(y, 0), "21");
        due.equal("the one ahead of it", Deeds.dawnLine(y, 1), "03-1");
        y.hail(1);
        y.hail(3);
        y.dawn();
        due.equal("no clouds, in place of a longer line", Deeds.dawnLine(y, 0), "");
        due.thrown("a character of the longer line", y, NO_INDEX, d -> d.character(0));
    }

    private void character() {
        due.about(31, "Returns a character of the line, which is empty at first.");
        Desk x = new Desk();
        for (int far : new int[] {-1, 0, 1, LEAST, MOST}) {
            due.thrown("the character " + far + " of none", x, NO_INDEX, d -> d.character(far));
        }
        x.cloud(5, 4, 3);
        due.thrown("the character 0 of none", x, NO_INDEX, d -> d.character(0));
        due.about(31, "the index, from 0");
        due.equal("the length", x.line(0), 7);
        due.asked("the first", x, '0', d -> d.character(0));
        due.asked("the second", x, '@', d -> d.character(1));
        due.asked("the last", x, '3', d -> d.character(6));
        due.about(31, "Returns the character.");
        due.equal("all of them", Deeds.read(x, 7), "0@5:4/3");
        x.wind(1);
        due.equal("all of them, as they were written", Deeds.read(x, 7), "0@5:4/3");
        due.about(31, "Throws `IndexOutOfBoundsException` if there is no such index");
        for (int far : new int[] {-1, 7, LEAST, MOST}) {
            due.thrown("the character " + far, x, NO_INDEX, d -> d.character(far));
        }
        x.dawn();
        x.dawnLine(0);
        due.asked("the only one", x, '-', d -> d.character(0));
        due.thrown("the one behind it", x, NO_INDEX, d -> d.character(1));
    }

    private void meanSize() {
        due.about(32, "Throws `ArithmeticException` if there are none");
        Desk x = new Desk();
        due.thrown("of no clouds", x, ArithmeticException.class, Desk::meanSize);
        due.about(32, "Returns the mean size of the clouds: the sum divided by their number, both converted to "
            + "double.");
        x.cloud(0, 0, 1);
        due.same("of the size 1", x.meanSize(), 1.0);
        x.cloud(0, 0, 2);
        due.same("of the sizes 1 and 2", x.meanSize(), 1.5);
        x.cloud(0, 0, 2);
        due.same("of three", x.meanSize(), 5.0 / 3.0);
        x.cloud(0, 0, 9);
        x.cloud(0, 0, 9);
        x.cloud(0, 0, 9);
        due.same("of six", x.meanSize(), 32.0 / 6.0);
        x.hail(0);
        due.same("of five", x.meanSize(), 26.0 / 5.0);
        due.about(32, "Returns the mean.");
        Desk y = new Desk();
        for (int n = 1; n <= 6; n++) {
            y.cloud(0, 0, 9);
            due.same("of " + n + " of the size 9", y.meanSize(), 9.0);
        }
        for (int n = 8; n >= 1; n--) {
            y.hail(0);
            due.same("of six of the size " + n, y.meanSize(), n);
        }
        y.hail(0);
        due.about(32, "Throws `ArithmeticException` if there are none");
        due.thrown("when all are gone", y, ArithmeticException.class, Desk::meanSize);
        y.undo();
        due.same("of those that are back", y.meanSize(), 1.0);
    }

    private void titledShare() {
        due.about(33, "Throws `ArithmeticException` if there are none");
        Desk x = new Desk();
        due.thrown("of no clouds", x, ArithmeticException.class, Desk::titledShare);
        due.about(33, "Returns the share of the clouds that have a title, both numbers converted to float.");
        for (int n = 0; n < 6; n++) {
            x.cloud(0, 0, 1);
            due.same("none of " + (n + 1), x.titledShare(), 0.0f);
        }
        for (int n = 1; n <= 6; n++) {
            x.title(n - 1, 1);
            due.same(n + " of 6", x.titledShare(), (float) n / 6.0f);
        }
        due.about(33, "Returns the share.");
        x.pledge(0, 0);
        x.wind(1);
        due.same("titles for other shapes are titles", x.titledShare(), 1.0f);
        x.hail(1);
        due.same("the one that was foreclosed", x.titledShare(), 1.0f);
        due.asked("clouds", x, 1, d -> d.account(0));
        x.hail(1);
        due.about(33, "Throws `ArithmeticException` if there are none");
        due.thrown("when all are gone", x, ArithmeticException.class, Desk::titledShare);
    }

    private void accounts(String what, Desk x, int... want) {
        for (int n = 0; n <= 12; n++) {
            int number = n;
            due.asked(what + ", account " + n, x, want[n], d -> d.account(number));
        }
    }

    private void aboutAccounts() {
        due.about(34, "0 for the clouds, 1 for those with a title, 2 for those that are pledged, 3 for the "
            + "vineyards that belong to an owner, 4 for the dawns so far, 5 for the titles that lapsed so far, 6 "
            + "for the clouds claimed so far, 7 for those foreclosed so far, 8 for those that are gone so far, 9 "
            + "for the coins that the office got so far, 10 for the coins paid at dawns so far, 11 for the "
            + "characters on the tape, 12 for the changes that can be undone");
    }

    private void accountsAtMost() {
        due.about(34, "Returns an account.");
        accounts("at first", new Desk(), 0, 0, 0, 0, 0, 0, 0, 0, 0, 0, 0, 0, 0);
        aboutAccounts();
        Desk x = new Desk();
        for (int n = 0; n < 6; n++) {
            x.cloud(n, 0, 1);
        }
        accounts("six clouds", x, 6, 0, 0, 0, 0, 0, 0, 0, 0, 0, 0, 0, 6);
        for (int n = 0; n < 6; n++) {
            x.title(n, n % 4);
        }
        accounts("all with a title", x, 6, 6, 0, 0, 0, 0, 0, 0, 0, 6, 0, 0, 8);
        for (int n = 0; n < 6; n++) {
            x.pledge(n, 3 - n % 4);
        }
        accounts("all pledged", x, 6, 6, 6, 0, 0, 0, 0, 0, 0, 6, 0, 0, 8);
        for (int n = 0; n < 6; n++) {
            x.vine(n, n % 4);
        }
        Deeds.feed(x, TWELVE + ";");
        accounts("all vineyards with an owner", x, 6, 6, 6, 6, 0, 0, 0, 0, 0, 6, 0, 60, 8);
        x.dawn();
        accounts("all paid for", x, 6, 6, 6, 6, 1, 0, 0, 0, 0, 6, 6, 60, 8);
        x.wind(1);
        x.dawn();
        accounts("all lapsed and claimed", x, 6, 6, 0, 6, 2, 6, 6, 0, 0, 6, 12, 60, 8);
        for (int n = 0; n < 6; n++) {
            x.hail(n);
        }
        accounts("all gone", x, 0, 0, 0, 6, 2, 6, 6, 0, 6, 6, 12, 60, 8);
        for (int n = 0; n < 8; n++) {
            x.undo();
        }
        accounts("eight changes undone", x, 6, 6, 6, 6, 1, 0, 0, 0, 0, 6, 6, 60, 0);
    }

    private void accountsSoFar() {
        due.about(34, "Returns the account.");
        Desk x = new Desk();
        for (int n = 0; n < 6; n++) {
            x.cloud(5, 5, 2);
            x.title(n, 0);
            x.pledge(n, n % 2 == 0 ? 3 : 1);
        }
        x.save();
        x.hail(5);
        accounts("all foreclosed", x, 6, 6, 0, 0, 0, 0, 0, 6, 0, 12, 0, 0, 8);
        x.pledge(0, 0);
        x.pledge(1, 2);
        x.hail(5);
        accounts("two of six foreclosed", x, 6, 6, 0, 0, 0, 0, 0, 8, 0, 12, 0, 0, 8);
        x.hail(5);
        accounts("four of six gone", x, 2, 2, 0, 0, 0, 0, 0, 8, 4, 12, 0, 0, 8);
        x.cloud(4, 0, 9);
        x.title(2, 2);
        accounts("more coins for the office", x, 3, 3, 0, 0, 0, 0, 0, 8, 4, 21, 0, 0, 8);
        x.wind(1);
        x.vine(0, 1);
        x.dawn();
        accounts("three lapsed, two of them claimed", x, 3, 2, 0, 1, 1, 3, 2, 8, 4, 21, 2, 0, 8);
        x.dawn();
        accounts("two more coins", x, 3, 2, 0, 1, 2, 3, 2, 8, 4, 21, 4, 0, 8);
        x.restore();
        accounts("restored", x, 6, 6, 6, 0, 0, 0, 0, 0, 0, 12, 0, 0, 0);
    }

    private void accountThrows() {
        due.about(34, "Throws `IllegalArgumentException` if what is out of range");
        for (int far : new int[] {-1, 13, LEAST, MOST}) {
            due.thrown("account " + far, new Desk(), BAD_ARGUMENT, d -> d.account(far));
            due.thrown("account " + far, TextTermsBounds.eventful(), BAD_ARGUMENT, d -> d.account(far));
        }
    }

    private void isBalanced() {
        due.about(35, "Returns whether the clouds of all owners, coins, and the winds for all clouds and vineyards "
            + "are told alike by both ways.");
        Desk x = new Desk();
        due.asked("at first", x, 1, TextsBounds::balanced);
        for (int n = 0; n < 6; n++) {
            x.cloud(n, n, 9 - n);
            due.asked("with " + (n + 1) + " clouds", x, 1, TextsBounds::balanced);
            x.title(n, n % 4);
            due.asked("with a title", x, 1, TextsBounds::balanced);
            x.vine(n, (n + 1) % 4);
        }
        for (int n = 0; n < 6; n++) {
            x.wind(n % 2 == 0 ? 1 : -2);
            x.dawn();
            x.hail(n);
            due.asked("after a dawn and hail", x, 1, TextsBounds::balanced);
        }
        due.about(35, "Returns whether this is so.");
        x.save();
        while (x.account(0) > 0) {
            x.hail(x.cloudOf(0, 0));
            due.asked("after hail", x, 1, TextsBounds::balanced);
        }
        x.undo();
        due.asked("undone", x, 1, TextsBounds::balanced);
        x.restore();
        due.asked("restored", x, 1, TextsBounds::balanced);
        due.asked("with many coins", TermsBounds.withCoins(3, 140), 1, TextsBounds::balanced);
        due.asked("with all at once", TextTermsBounds.eventful(), 1, TextsBounds::balanced);
    }

    private static int balanced(Desk x) {
        return x.isBalanced() ? 1 : 0;
    }
}

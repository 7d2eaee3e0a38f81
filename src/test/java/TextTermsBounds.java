import java.util.NoSuchElementException;

/** "Terms", from the texts on: the boundary cases that its sentences name. */
final class TextTermsBounds {
    private static final Class<?> NO_INDEX = IndexOutOfBoundsException.class;
    private static final Class<?> NO_ELEMENT = NoSuchElementException.class;
    private static final Class<?> BAD_ARGUMENT = IllegalArgumentException.class;
    private static final Class<?> BAD_STATE = IllegalStateException.class;

    /** The forms of the orders: '#' stands for a digit. */
    private static final String[] FORMS = {"cloud # # #", "vine #>#", "vine #-", "title #>#", "sell #>#=#", "sell #>#=##",
        "pledge #>#", "redeem #", "wind #", "wind -#", "hail #", "dawn"};

    private final Due due;

    TextTermsBounds(Due due) {
        this.due = due;
    }

    void test() {
        due.all(this::tape, this::form, this::texts, this::orders, this::numbers, this::ordersDoAsCalls,
            this::faultPositions, this::reasons, this::reasonsOfWhoPays, this::reasonsInOrder, this::reasonBehind,
            this::changes, this::latestEight, this::whatDoesNotGoBack, this::exceptionsChangeNothing,
            this::exceptionsInOrder, this::redeemedTitle, this::foreclosedCoins);
    }

    /** An office of which each part tells something: the tape, a fault, two reasons, a line, changes, a snapshot. */
    static Desk eventful() {
        Desk x = new Desk();
        x.cloud(0, 0, 2);
        x.cloud(1, 1, 3);
        x.title(0, 0);
        x.save();
        x.pledge(0, 3);
        x.vine(1, 2);
        x.dawn();
        Deeds.feed(x, "dawn;x");
        ignore(x, Desk::run);
        Deeds.feed(x, "dawn;hail 7");
        ignore(x, Desk::run);
        x.line(0);
        Deeds.feed(x, "wind 1");
        return x;
    }

    private static void ignore(Desk x, Due.Act act) {
        try {
            act.on(x);
        } catch (IllegalArgumentException | UnsupportedOperationException e) {
            return;
        }
        throw new AssertionError("the call should have thrown");
    }

    private void tape() {
        due.about(0, "The tape holds at most 60 characters.");
        String text = "cloud 0 0 1;hail 1;hail 1;hail 1;hail 1;hail 1;hail 1;hail 1";
        Desk x = new Desk();
        due.asked("characters at first", x, 0, d -> d.account(11));
        due.equal("feed of 60 characters", Deeds.feed(x, text), 60);
        due.asked("characters on a full tape", x, 60, d -> d.account(11));
        due.thrown("feed of the 61st character", x, BAD_STATE, d -> d.feed(';'));
        due.equal("run of 60 characters", x.run(), 8);
        due.asked("characters on an empty tape", x, 0, d -> d.account(11));
        due.equal("feed of an empty tape", x.feed('d'), 1);
        Desk y = new Desk();
        Deeds.feed(y, text.substring(0, 59));
        due.equal("feed of the 60th character", y.feed('9'), 60);
        due.thrown("feed of the 61st character", y, BAD_STATE, d -> d.feed((char) 0));
    }

    private void form() {
        due.about(0, "A text has this form, with terminals in quotes, where braces mean repetition and square "
            + "brackets that something can be left out:");
        Desk x = new Desk();
        due.equal("no repetition", Deeds.run(x, "dawn"), 1);
        due.equal("one repetition", Deeds.run(x, "dawn;dawn"), 2);
        due.equal("a sign that is left out", Deeds.run(x, "wind 3"), 1);
        due.equal("a sign that is there", Deeds.run(x, "wind -3"), 1);
        due.fault("\"dawn\"", x, 0);
        due.fault("{dawn}", x, 0);
        due.fault("wind [-]3", x, 5);
    }

    private void texts() {
        due.about(0, "`text = order { \";\" order`}");
        Desk x = new Desk();
        due.equal("the most orders", Deeds.run(x, "dawn;dawn;dawn;dawn;dawn;dawn;dawn;dawn;dawn;dawn;dawn;dawn"), 12);
        due.asked("dawns", x, 12, d -> d.account(4));
        due.fault("", new Desk(), 0);
        due.fault(";", new Desk(), 0);
        due.fault(";dawn", new Desk(), 0);
        due.fault(" dawn", new Desk(), 0);
        due.fault("dawn;", new Desk(), 5);
        due.fault("dawn;;dawn", new Desk(), 5);
        due.fault("dawn ;dawn", new Desk(), 4);
        due.fault("dawn; dawn", new Desk(), 5);
        due.fault("dawn dawn", new Desk(), 4);
        due.fault("dawndawn", new Desk(), 4);
        due.fault("dawn,dawn", new Desk(), 4);
        due.fault("dawn\n", new Desk(), 4);
    }

    private void orders() {
        due.about(0, "`order = \"cloud \" digit \" \" digit \" \" digit | \"vine \" digit ( \">\" digit | \"-\" ) | "
            + "\"title \" digit \">\" digit | \"sell \" digit \">\" digit \"=\" number | \"pledge \" digit \">\" "
            + "digit | \"redeem \" digit | \"wind \" [ \"-\" ] digit | \"hail \" digit | \"dawn\"`");
        for (String form : FORMS) {
            String text = form.replace('#', '0');
            due.equal("length of \"" + text + "\"", longestStart(text), text.length());
            noFault(text);
            noFault(form.replace('#', '9'));
            for (int n = 0; n < form.length(); n++) {
                for (char other : new char[] {(char) (text.charAt(n) - 1), (char) (text.charAt(n) + 1), '9', ':', '-', '>'}) {
                    look(text.substring(0, n) + other + text.substring(n + 1));
                    look(text.substring(0, n) + other + text.substring(n));
                }
                look(text.substring(0, n) + text.substring(n + 1));
            }
        }
    }

    private void look(String text) {
        int start = longestStart(text);
        if (start < text.length()) {
            fault(text, start);
        } else if (isOrder(text)) {
            noFault(text);
        } else {
            fault(text, text.length());
        }
    }

    /** How many characters of the text go along with the form of an order. */
    private static int longestStart(String text) {
        int longest = 0;
        for (String form : FORMS) {
            int n = 0;
            while (n < text.length() && n < form.length() && isOfForm(text.charAt(n), form.charAt(n))) {
                n++;
            }
            longest = Math.max(longest, n);
        }
        return longest;
    }

    private static boolean isOrder(String text) {
        for (String form : FORMS) {
            boolean isOfForm = text.length() == form.length();
            for (int n = 0; isOfForm && n < text.length(); n++) {
                isOfForm = isOfForm(text.charAt(n), form.charAt(n));
            }
            if (isOfForm) {
                return true;
            }
        }
        return false;
    }

    private static boolean isOfForm(char c, char form) {
        return form == '#' ? c >= '0' && c <= '9' : c == form;
    }

    /** The text keeps to the form: what it may be refused for is no fault. */
    private void noFault(String text) {
        Desk x = new Desk();
        Deeds.feed(x, text);
        try {
            due.equal("orders of \"" + text + "\"", x.run(), 1);
        } catch (UnsupportedOperationException e) {
            due.kept("\"" + text + "\"", x, 10, 0);
        }
        due.thrown("a fault position of \"" + text + "\"", x, NO_ELEMENT, Desk::faultPosition);
    }

    private void fault(String text, int position) {
        due.fault(text, new Desk(), position);
        due.fault("dawn;" + text, eventfulWithoutTape(), position + 5);
    }

    private static Desk eventfulWithoutTape() {
        Desk x = eventful();
        x.run();
        return x;
    }

    private void numbers() {
        due.about(0, "`number = digit [ digit ]`");
        String[] texts = {"sell 0>1=0", "sell 0>1=9", "sell 0>1=00", "sell 0>1=09", "sell 0>1=20"};
        int[] coins = {0, 9, 0, 9, 20};
        for (int n = 0; n < texts.length; n++) {
            Desk x = new Desk();
            x.cloud(0, 0, 1);
            x.title(0, 0);
            due.equal("run of \"" + texts[n] + "\"", Deeds.run(x, texts[n]), 1);
            due.equal("what was paid by \"" + texts[n] + "\"", x.ownerOf(1, 0), 20 - coins[n]);
        }
        Desk x = TermsBounds.withCoins(1, 104);
        x.sell(0, 0, 0);
        due.equal("run for 99 coins", Deeds.run(x, "sell 0>1=99"), 1);
        due.asked("what is left of 104 coins", x, 5, d -> d.ownerOf(1, 0));
        fault("sell 0>1=", 9);
        fault("sell 0>1=;", 9);
        fault("sell 0>1=-", 9);
        fault("sell 0>1=0/", 10);
        fault("sell 0>1=0:", 10);
        fault("sell 0>1=000", 11);
        fault("sell 0>1=100", 11);
    }

    private void ordersDoAsCalls() {
        due.about(0, "The orders let a cloud come over a vineyard, with its shape and its size; tell to whom a "
            + "vineyard belongs, or that it belongs to none; give an owner the title of a cloud; sell a cloud to an "
            + "owner for some coins; pledge a cloud to a lender; redeem one; let a wind blow; let hail come down on "
            + "a vineyard; and let it dawn.");
        alike("cloud 0 5 9", d -> d.cloud(0, 5, 9));
        alike("cloud 5 0 1", d -> d.cloud(5, 0, 1));
        alike("vine 0>3", d -> d.vine(0, 3));
        alike("vine 5>0", d -> d.vine(5, 0));
        alike("vine 1-", d -> d.vine(1, -1));
        alike("title 1>0", d -> d.title(1, 0));
        alike("title 1>3", d -> d.title(1, 3));
        alike("sell 2>3=0", d -> d.sell(2, 3, 0));
        alike("sell 2>0=12", d -> d.sell(2, 0, 12));
        alike("pledge 2>0", d -> d.pledge(2, 0));
        alike("pledge 2>3", d -> d.pledge(2, 3));
        alike("redeem 0", d -> d.redeem(0));
        alike("hail 0", d -> d.hail(0));
        alike("hail 5", d -> d.hail(5));
        alike("dawn", Desk::dawn);
        for (int wind = 1; wind <= 3; wind++) {
            int strength = wind;
            alike("wind " + wind, d -> d.wind(strength));
            alike("wind -" + wind, d -> d.wind(-strength));
        }
    }

    private void alike(String text, Due.Act act) {
        Desk x = three();
        Desk y = three();
        due.equal("run of \"" + text + "\"", Deeds.run(x, text), 1);
        act.on(y);
        due.equal("\"" + text + "\" and its call: what differs", new Whole(x).changedSince(new Whole(y)), "");
    }

    /** Cloud 0 is pledged, 1 has no title, 2 has one. */
    private static Desk three() {
        Desk x = new Desk();
        x.vine(1, 2);
        x.cloud(0, 5, 3);
        x.cloud(3, 0, 1);
        x.cloud(1, 2, 3);
        x.title(0, 0);
        x.pledge(0, 3);
        x.dawn();
        return x;
    }

    private void faultPositions() {
        due.about(0, "The fault position of a text is the position, from 0, of the first character that cannot "
            + "continue such a text, or its length if it ends too early; words are looked at letter by letter.");
        for (String form : FORMS) {
            String text = form.replace('#', '1');
            for (int n = 0; n < text.length(); n++) {
                if (!text.substring(0, n).equals("sell 1>1=1")) {
                    fault(text.substring(0, n), n);
                }
                fault(text.substring(0, n) + "?" + text.substring(n), n);
                fault(text.substring(0, n) + (char) (text.charAt(n) + 256) + text.substring(n + 1), n);
            }
            fault(text + "?", text.length());
            fault(text + ";", text.length() + 1);
        }
        String[] words = {"dawx", "clown", "clouds", "wine 0-", "vind 1", "hello", "tile", "seller", "pledgee", "redden",
            "Dawn", "windy", "haiL", "cloud0", "c", "cloud"};
        int[] positions = {3, 3, 5, 3, 3, 1, 2, 4, 6, 3, 0, 4, 3, 5, 1, 5};
        for (int n = 0; n < words.length; n++) {
            fault(words[n], positions[n]);
        }
        String full = "dawn;dawn;dawn;dawn;dawn;dawn;dawn;dawn;dawn;dawn;dawn;dawn";
        due.fault(full + ";", new Desk(), 60);
        due.fault(full + "n", new Desk(), 59);
        due.fault("X" + full, new Desk(), 0);
    }

    private void aboutReasons() {
        due.about(0, "Something is refused for the first of these reasons that its method names, in the order in "
            + "which it names them, with a detail: 1, there are 6 clouds: 6; 2, there is no such cloud, vineyard or "
            + "owner: the number that was told; 3, a number is out of range: the number; 4, it is so already: the "
            + "number that was told; 5, the cloud has a title: its owner; 6, the cloud has no title: the cloud; 7, "
            + "there are too few coins: how many the one has who should pay; 8, the cloud is pledged: the lender; "
            + "9, it is not pledged: the cloud; 10, an order of a text cannot be done: its number, from 0.");
    }

    private void reasons() {
        aboutReasons();
        Desk x = new Desk();
        for (int n = 0; n < 6; n++) {
            x.cloud(n, 0, 1);
        }
        due.refused("1", x, 1, 6, d -> d.cloud(0, 0, 1));
        due.refused("2, a vineyard", x, 2, 6, d -> d.cloud(6, 0, 1));
        due.refused("2, a cloud", x, 2, -1, d -> d.title(-1, 0));
        due.refused("2, an owner", x, 2, 4, d -> d.title(0, 4));
        due.refused("3, a shape", x, 3, 6, d -> d.cloud(0, 6, 1));
        due.refused("3, a size", x, 3, 0, d -> d.cloud(0, 0, 0));
        due.refused("3, coins", x, 3, -1, d -> d.sell(0, 0, -1));
        due.refused("3, coins", x, 3, 100, d -> d.sell(0, 0, 100));
        due.refused("3, a wind", x, 3, 0, d -> d.wind(0));
        due.refused("4, none", x, 4, -1, d -> d.vine(0, -1));
        x.vine(5, 0);
        due.refused("4, owner 0", x, 4, 0, d -> d.vine(5, 0));
        x.vine(0, 3);
        due.refused("4, owner 3", x, 4, 3, d -> d.vine(0, 3));
        due.refused("6, cloud 0", x, 6, 0, d -> d.sell(0, 0, 0));
        due.refused("6, cloud 5", x, 6, 5, d -> d.pledge(5, 0));
        due.refused("9, cloud 0", x, 9, 0, d -> d.redeem(0));
        due.refused("9, cloud 5", x, 9, 5, d -> d.redeem(5));
        x.title(0, 3);
        x.title(5, 0);
        due.refused("4, to owner 3", x, 4, 3, d -> d.sell(0, 3, 0));
        due.refused("4, to owner 0", x, 4, 0, d -> d.pledge(5, 0));
        due.refused("5, owner 3", x, 5, 3, d -> d.title(0, 0));
        due.refused("5, owner 0", x, 5, 0, d -> d.title(5, 0));
        x.pledge(0, 0);
        x.pledge(5, 3);
        due.refused("8, lender 0", x, 8, 0, d -> d.sell(0, 1, 0));
        due.refused("8, lender 3", x, 8, 3, d -> d.pledge(5, 1));
        due.refusedText("wind 0", x, 0, 3, 0);
        due.refusedText("dawn;dawn;dawn;dawn;dawn;dawn;dawn;dawn;dawn;dawn;wind 4", x, 10, 3, 4);
    }

    private void reasonsOfWhoPays() {
        aboutReasons();
        Desk x = new Desk();
        x.cloud(0, 0, 9);
        x.cloud(0, 0, 9);
        x.cloud(0, 0, 3);
        x.title(0, 0);
        x.title(1, 0);
        due.refused("7, the owner of the title to be", x, 7, 2, d -> d.title(2, 0));
        due.refused("7, who buys", x, 7, 20, d -> d.sell(0, 1, 21));
        x.title(2, 1);
        due.refused("7, who lends", x, 7, 17, d -> d.pledge(0, 1));
        x.sell(2, 2, 0);
        x.sell(0, 1, 17);
        due.refused("7, who lends, without a coin", x, 7, 0, d -> d.pledge(2, 1));
        Desk y = new Desk();
        y.cloud(0, 0, 9);
        y.cloud(0, 0, 1);
        y.title(0, 0);
        y.pledge(0, 1);
        y.title(1, 2);
        y.sell(1, 0, 11);
        due.refused("7, who redeems", y, 7, 18, d -> d.redeem(0));
        y.sell(1, 3, 1);
        due.equal("redeem with one coin more", y.redeem(0), 19);
    }

    private void reasonsInOrder() {
        aboutReasons();
        Desk x = new Desk();
        for (int n = 0; n < 6; n++) {
            x.cloud(0, 0, 9);
        }
        due.refused("cloud: 2 ahead of 3 and 1", x, 2, 6, d -> d.cloud(6, 6, 10));
        due.refused("cloud: 3 for the shape ahead of 3 for the size", x, 3, -1, d -> d.cloud(0, -1, 0));
        due.refused("cloud: 3 for the size ahead of 1", x, 3, 10, d -> d.cloud(0, 0, 10));
        due.refused("vine: 2 for the vineyard ahead of 2 for the owner", x, 2, 6, d -> d.vine(6, 4));
        due.refused("title: 2 for the cloud ahead of 2 for the owner", x, 2, 6, d -> d.title(6, 4));
        due.refused("sell: 2 for the cloud ahead of 2 for the owner", x, 2, -1, d -> d.sell(-1, 4, 100));
        due.refused("sell: 2 for the owner ahead of 3", x, 2, 4, d -> d.sell(0, 4, 100));
        due.refused("sell: 3 ahead of 6", x, 3, 100, d -> d.sell(0, 0, 100));
        due.refused("sell: 6 ahead of 7", x, 6, 0, d -> d.sell(0, 0, 99));
        due.refused("pledge: 2 for the cloud ahead of 2 for the lender", x, 2, 6, d -> d.pledge(6, -1));
        due.refused("pledge: 2 for the lender ahead of 6", x, 2, -1, d -> d.pledge(0, -1));
        x.title(0, 0);
        x.title(1, 0);
        due.refused("title: 2 for the owner ahead of 5", x, 2, 4, d -> d.title(0, 4));
        due.refused("title: 5 ahead of 7", x, 5, 0, d -> d.title(0, 0));
        due.refused("sell: 3 ahead of 4", x, 3, -1, d -> d.sell(0, 0, -1));
        due.refused("sell: 4 ahead of 7", x, 4, 0, d -> d.sell(0, 0, 99));
        due.refused("pledge: 6 ahead of 7", x, 6, 2, d -> d.pledge(2, 0));
        due.refused("pledge: 4 ahead of 7", x, 4, 0, d -> d.pledge(0, 0));
        x.pledge(0, 3);
        due.refused("sell: 4 ahead of 8", x, 4, 0, d -> d.sell(0, 0, 99));
        due.refused("sell: 8 ahead of 7", x, 8, 3, d -> d.sell(0, 1, 99));
        due.refused("pledge: 4 ahead of 8", x, 4, 0, d -> d.pledge(0, 0));
        due.refused("pledge: 8 ahead of 7", x, 8, 3, d -> d.pledge(0, 3));
        x.title(2, 1);
        x.sell(2, 0, 20);
        x.sell(2, 1, 0);
        due.asked("coins of one who has none", x, 0, d -> d.ownerOf(0, 0));
        due.refused("redeem: 9 ahead of 7", x, 9, 1, d -> d.redeem(1));
        due.refused("redeem: 7", x, 7, 0, d -> d.redeem(0));
    }

    private void reasonBehind() {
        due.about(0, "Behind 10 stands the reason for which the order is refused.");
        Desk x = new Desk();
        x.cloud(0, 0, 9);
        x.cloud(0, 0, 5);
        x.cloud(0, 0, 1);
        x.title(0, 0);
        x.title(1, 3);
        x.pledge(1, 0);
        due.refusedText("cloud 0 0 1;cloud 0 0 1;cloud 0 0 1;cloud 0 0 1", x, 3, 1, 6);
        due.refusedText("dawn;cloud 9 9 0", x, 1, 2, 9);
        due.refusedText("vine 6-", x, 0, 2, 6);
        due.refusedText("title 3>0", x, 0, 2, 3);
        due.refusedText("title 0>4", x, 0, 2, 4);
        due.refusedText("cloud 0 6 0", x, 0, 3, 6);
        due.refusedText("cloud 0 5 0", x, 0, 3, 0);
        due.refusedText("wind -4", x, 0, 3, -4);
        due.refusedText("wind -0", x, 0, 3, 0);
        due.refusedText("vine 0-", x, 0, 4, -1);
        due.refusedText("vine 0>3;vine 0>3", x, 1, 4, 3);
        due.refusedText("title 0>1", x, 0, 5, 0);
        due.refusedText("sell 2>0=99", x, 0, 6, 2);
        due.refusedText("title 2>0;cloud 0 0 3;title 3>0", x, 2, 7, 0);
        due.refusedText("pledge 1>2", x, 0, 8, 0);
        due.refusedText("redeem 0", x, 0, 9, 0);
        due.refusedText("redeem 2", x, 0, 9, 2);
    }

    private void isChange(Desk x, String what, Due.Act act) {
        int before = x.account(12);
        act.on(x);
        due.equal("changes after " + what, x.account(12), before + 1);
    }

    private void isNoChange(Desk x, String what, Due.Act act) {
        int before = x.account(12);
        act.on(x);
        due.equal("changes after " + what, x.account(12), before);
    }

    private void changes() {
        due.about(0, "The successful calls of cloud, vine, title, sell, pledge, redeem, wind, hail, dawn and run "
            + "are changes.");
        Desk x = new Desk();
        isChange(x, "cloud", d -> d.cloud(0, 0, 1));
        isChange(x, "vine", d -> d.vine(0, 0));
        isChange(x, "vine to none", d -> d.vine(0, -1));
        isChange(x, "title", d -> d.title(0, 0));
        isChange(x, "sell for 0 coins", d -> d.sell(0, 1, 0));
        isChange(x, "pledge", d -> d.pledge(0, 0));
        isChange(x, "redeem", d -> d.redeem(0));
        due.equal("all but the last undone", undo(x, 6), 1);
        isChange(x, "wind", d -> d.wind(3));
        isChange(x, "hail on nothing", d -> d.hail(0));
        isChange(x, "a dawn that claims nothing", Desk::dawn);
        Deeds.feed(x, "dawn;dawn;dawn");
        isChange(x, "run of three orders", Desk::run);
        Deeds.feed(x, "dawn");
        isChange(x, "run of one order", Desk::run);
        isNoChange(x, "a refused wind", y -> ignore(y, d -> d.wind(0)));
        isNoChange(x, "an empty text", y -> ignore(y, Desk::run));
        Deeds.feed(x, "dawn;wind 0");
        isNoChange(x, "a refused text", y -> ignore(y, Desk::run));
        isNoChange(x, "feed", d -> d.feed('d'));
        isNoChange(x, "line", d -> d.line(0));
        isNoChange(x, "dawnLine", d -> d.dawnLine(0));
        isNoChange(x, "save", Desk::save);
        isNoChange(x, "bestWind", d -> d.bestWind(0));
        Desk y = new Desk();
        isChange(y, "a wind without clouds", d -> d.wind(-1));
        isChange(y, "hail without clouds", d -> d.hail(5));
        isChange(y, "a dawn without clouds", Desk::dawn);
    }

    private static int undo(Desk x, int times) {
        int left = x.account(12);
        for (int n = 0; n < times; n++) {
            left = x.undo();
        }
        return left;
    }

    private void latestEight() {
        due.about(0, "The latest 8 can be undone.");
        for (int changes : new int[] {0, 1, 7, 8, 9, 10, 16, 17}) {
            Desk x = new Desk();
            for (int n = 0; n < changes; n++) {
                x.dawn();
            }
            int left = Math.min(changes, 8);
            due.asked("changes after " + changes, x, left, d -> d.account(12));
            due.equal("all that can be undone", undo(x, left), 0);
            due.asked("dawns that are left", x, changes - left, d -> d.account(4));
            due.thrown("one more", x, BAD_STATE, Desk::undo);
            due.equal("a change again", x.dawn(), 0);
            due.asked("changes then", x, 1, d -> d.account(12));
        }
    }

    private void whatDoesNotGoBack() {
        due.about(0, "The tape, the fault position, the reasons and the line do not go back.");
        Desk x = eventful();
        int count = x.account(12);
        for (int left = count - 1; left >= 0; left--) {
            Whole before = new Whole(x);
            due.equal("undo", x.undo(), left);
            String changed = new Whole(x).changedSince(before, Whole.OFFICE, Whole.CHANGES, Whole.TAPE);
            due.equal("undo: what has changed beside the office", changed, "");
            due.asked("characters on the tape", x, 6, d -> d.account(11));
        }
        due.equal("the line", Deeds.read(x, 11), "0@0:0/2=0*3");
        due.equal("the fault position", x.faultPosition(), 5);
        due.kept("the reasons", x, 10, 1);
        due.behind("the reasons", x, 2, 7);
        due.equal("the text on the tape", x.run(), 1);
    }

    private void exceptionsChangeNothing() {
        due.about(0, "A method that throws an exception leaves everything unchanged, except that the tape is "
            + "treated as described, and that reasons and fault positions are kept.");
        due.refused("cloud", eventful(), 2, 6, d -> d.cloud(6, 0, 1));
        due.refused("vine", eventful(), 4, 2, d -> d.vine(1, 2));
        due.refused("title", eventful(), 5, 0, d -> d.title(0, 1));
        due.refused("sell", eventful(), 8, 3, d -> d.sell(0, 1, 0));
        due.refused("pledge", eventful(), 8, 3, d -> d.pledge(0, 1));
        due.refused("redeem", eventful(), 9, 1, d -> d.redeem(1));
        due.refused("wind", eventful(), 3, 0, d -> d.wind(0));
        due.refused("hail", eventful(), 2, 6, d -> d.hail(6));
        due.thrown("cloudOf", eventful(), NO_INDEX, d -> d.cloudOf(2, 0));
        due.thrown("cloudOf", eventful(), BAD_ARGUMENT, d -> d.cloudOf(0, 7));
        due.thrown("ownerOf", eventful(), NO_INDEX, d -> d.ownerOf(4, 0));
        due.thrown("ownerOf", eventful(), BAD_ARGUMENT, d -> d.ownerOf(0, 5));
        due.thrown("vineyardOf", eventful(), NO_INDEX, d -> d.vineyardOf(6, 0));
        due.thrown("vineyardOf", eventful(), BAD_ARGUMENT, d -> d.vineyardOf(0, 3));
        due.thrown("clouds", eventful(), NO_INDEX, d -> d.clouds(4));
        due.thrown("cloudsAgain", eventful(), NO_INDEX, d -> d.cloudsAgain(4));
        due.thrown("windTo", eventful(), NO_INDEX, d -> d.windTo(2, 0));
        due.thrown("windToAgain", eventful(), NO_INDEX, d -> d.windToAgain(0, 6));
        due.thrown("would", eventful(), NO_INDEX, d -> d.would(4, 0));
        due.thrown("would", eventful(), BAD_ARGUMENT, d -> d.would(0, 4));
        due.thrown("bestWind", eventful(), NO_INDEX, d -> d.bestWind(4));
        due.thrown("recorded", eventful(), NO_ELEMENT, d -> d.recorded(1, 0));
        due.thrown("greatest", eventful(), NO_ELEMENT, d -> d.greatest(2));
        due.thrown("ranked", eventful(), NO_ELEMENT, d -> d.ranked(4));
        due.thrown("line", eventful(), NO_INDEX, d -> d.line(2));
        due.thrown("dawnLine", eventful(), NO_ELEMENT, d -> d.dawnLine(1));
        due.thrown("character", eventful(), NO_INDEX, d -> d.character(11));
        due.thrown("account", eventful(), BAD_ARGUMENT, d -> d.account(13));
        due.fault("vine 0>0;dawn;hail 0;cloud 0 0 1;dawn ", eventfulWithoutTape(), 37);
        due.refusedText("vine 0>0;dawn;hail 0;cloud 0 0 1;wind 1;dawn;wind 0", eventfulWithoutTape(), 6, 3, 0);
        Desk x = eventfulWithoutTape();
        Deeds.feed(x, "dawn;dawn;dawn;dawn;dawn;dawn;dawn;dawn;dawn;dawn;dawn;dawn;");
        due.thrown("feed", x, BAD_STATE, d -> d.feed('d'));
        Desk y = eventful();
        y.hail(1);
        y.hail(0);
        y.hail(0);
        y.hail(1);
        y.hail(1);
        y.hail(0);
        due.thrown("meanSize", y, ArithmeticException.class, Desk::meanSize);
        due.thrown("titledShare", y, ArithmeticException.class, Desk::titledShare);
        y.restore();
        due.thrown("undo", y, BAD_STATE, Desk::undo);
        Desk z = new Desk();
        Deeds.feed(z, "dawn");
        z.dawn();
        z.dawnLine(0);
        due.thrown("restore", z, BAD_STATE, Desk::restore);
        due.thrown("faultPosition", z, NO_ELEMENT, Desk::faultPosition);
        due.thrown("reason", z, NO_ELEMENT, d -> d.reason(false, false));
        due.thrown("reason", z, NO_ELEMENT, d -> d.reason(true, true));
    }

    private void exceptionsInOrder() {
        due.about(0, "The exceptions of a method are checked in the order in which they are listed.");
        Desk x = eventfulWithoutTape();
        due.thrown("cloudOf without both", x, NO_INDEX, d -> d.cloudOf(2, 7));
        due.thrown("cloudOf without both", x, NO_INDEX, d -> d.cloudOf(-1, -1));
        due.thrown("ownerOf without both", x, NO_INDEX, d -> d.ownerOf(4, 5));
        due.thrown("ownerOf without both", x, NO_INDEX, d -> d.ownerOf(-1, -1));
        due.thrown("vineyardOf without both", x, NO_INDEX, d -> d.vineyardOf(6, 3));
        due.thrown("vineyardOf without both", x, NO_INDEX, d -> d.vineyardOf(-1, -1));
        due.thrown("would without both", x, NO_INDEX, d -> d.would(4, 4));
        due.thrown("would without both", x, NO_INDEX, d -> d.would(-1, -4));
        due.fault("hail 9;wind 0;dawn;", x, 19);
        due.fault("hail 9;x", x, 7);
    }

    private void redeemedTitle() {
        due.about(0, "To redeem a cloud leaves its title as it was, for the shape for which it was.");
        Desk x = new Desk();
        x.cloud(0, 5, 1);
        x.title(0, 0);
        x.pledge(0, 3);
        x.wind(1);
        x.redeem(0);
        due.asked("the owner", x, 0, d -> d.cloudOf(0, 3));
        due.asked("the shape of the title", x, 5, d -> d.cloudOf(0, 4));
        due.equal("the line", Deeds.line(x, 0), "0@1:0/1=0?");
        x.vine(1, 0);
        due.equal("claimed at dawn", x.dawn(), 1);
        due.asked("titles that lapsed", x, 1, d -> d.account(5));
    }

    private void foreclosedCoins() {
        due.about(0, "What a lender paid stays with its owner if the cloud is foreclosed.");
        for (int size = 1; size <= 9; size++) {
            Desk x = new Desk();
            x.cloud(0, 0, size);
            x.title(0, 0);
            x.pledge(0, 3);
            due.equal("foreclosed", x.hail(0), 1);
            due.asked("coins of the one who was its owner", x, 20 + size, d -> d.ownerOf(0, 0));
            due.asked("coins of the one who was the lender", x, 20 - 2 * size, d -> d.ownerOf(3, 0));
            due.asked("coins of the office", x, size, d -> d.account(9));
            due.asked("the size", x, size, d -> d.cloudOf(0, 2));
        }
    }
}

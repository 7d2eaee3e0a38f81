/** What several tests do with an office. */
final class Deeds {
    private Deeds() {
    }

    static int feed(CloudDeeds x, String text) {
        int length = 0;
        for (char c : text.toCharArray()) {
            length = x.feed(c);
        }
        return length;
    }

    static int run(CloudDeeds x, String text) {
        feed(x, text);
        return x.run();
    }

    static String line(CloudDeeds x, int cloud) {
        return read(x, x.line(cloud));
    }

    static String dawnLine(CloudDeeds x, int ago) {
        return read(x, x.dawnLine(ago));
    }

    static String read(CloudDeeds x, int length) {
        StringBuilder text = new StringBuilder();
        for (int n = 0; n < length; n++) {
            text.append(x.character(n));
        }
        return text.toString();
    }

    /** All that goes back when a change is undone, and how many can be; it leaves the line as it is. */
    static String office(CloudDeeds x) {
        StringBuilder text = new StringBuilder();
        for (int cloud = 0; cloud < x.account(0); cloud++) {
            text.append("cloud");
            for (int what = 0; what <= 6; what++) {
                text.append(' ').append(x.cloudOf(cloud, what));
            }
            text.append('\n');
        }
        for (int owner = 0; owner < 4; owner++) {
            text.append("owner");
            for (int what = 0; what <= 4; what++) {
                text.append(' ').append(x.ownerOf(owner, what));
            }
            text.append('\n');
        }
        for (int vineyard = 0; vineyard < 6; vineyard++) {
            text.append(" vineyard ").append(x.vineyardOf(vineyard, 0));
        }
        text.append("\ndawns");
        for (int ago = 0; ago < 6; ago++) {
            for (int cloud = 0; cloud < 7; cloud++) {
                text.append(' ').append(recorded(x, ago, cloud));
            }
        }
        text.append("\naccounts");
        for (int what = 0; what <= 12; what++) {
            if (what != 11) {
                text.append(' ').append(x.account(what));
            }
        }
        return text.toString();
    }

    private static String recorded(CloudDeeds x, int ago, int cloud) {
        try {
            return "" + x.recorded(ago, cloud);
        } catch (java.util.NoSuchElementException e) {
            return ".";
        }
    }
}

import java.util.NoSuchElementException;

/** What several tests do with an office. */
final class Deeds {
    private Deeds() {
    }

    static int feed(Desk x, String text) {
        int length = 0;
        for (char c : text.toCharArray()) {
            length = x.feed(c);
        }
        return length;
    }

    static int run(Desk x, String text) {
        feed(x, text);
        return x.run();
    }

    static String line(Desk x, int cloud) {
        return read(x, x.line(cloud));
    }

    static String dawnLine(Desk x, int ago) {
        return read(x, x.dawnLine(ago));
    }

    static String read(Desk x, int length) {
        StringBuilder text = new StringBuilder();
        for (int n = 0; n < length; n++) {
            text.append(x.character(n));
        }
        return text.toString();
    }

    /** All that goes back when a change is undone, and how many can be; told without a call of this office. */
    static String office(Desk x) {
        Desk y = x.again();
        StringBuilder text = new StringBuilder();
        int clouds = y.account(0);
        for (int cloud = 0; cloud < clouds; cloud++) {
            text.append("cloud");
            for (int what = 0; what <= 6; what++) {
                text.append(' ').append(y.cloudOf(cloud, what));
            }
            text.append('\n');
        }
        for (int owner = 0; owner < 4; owner++) {
            text.append("owner");
            for (int what = 0; what <= 4; what++) {
                text.append(' ').append(y.ownerOf(owner, what));
            }
            text.append('\n');
        }
        for (int vineyard = 0; vineyard < 6; vineyard++) {
            text.append(" vineyard ").append(y.vineyardOf(vineyard, 0));
        }
        text.append("\ndawns");
        for (int ago = 0; ago < 6; ago++) {
            for (int cloud = 0; cloud < 7; cloud++) {
                text.append(' ').append(recorded(y, ago, cloud));
            }
        }
        text.append("\naccounts");
        for (int what = 0; what <= 12; what++) {
            if (what != 11) {
                text.append(' ').append(y.account(what));
            }
        }
        return text.toString();
    }

    private static String recorded(Desk x, int ago, int cloud) {
        try {
            return "" + x.recorded(ago, cloud);
        } catch (NoSuchElementException e) {
            return ".";
        }
    }
}

/** Long runs of calls, each answer compared with that of the Model. The runs are the same each time. */
public final class ModelTest {
    private static final int RUNS = 1500;
    private static final int CALLS = 512;
    private static final String[] CHANGES = {"cloud", "cloud", "vine", "vine", "title", "title", "title", "sell", "pledge",
        "pledge", "redeem", "wind", "hail", "dawn"};
    private static final String[] QUERIES = {"cloudOf", "ownerOf", "vineyardOf", "clouds", "cloudsAgain", "windTo",
        "windToAgain", "would", "bestWind", "recorded", "coins", "coinsAgain", "greatest", "ranked", "faultPosition",
        "reason", "reason", "line", "line", "dawnLine", "meanSize", "titledShare", "account", "isBalanced"};
    private static final Due due = new Due();

    private long seed;
    private CloudDeeds x = new CloudDeeds();
    private Model model = new Model();
    private int calls = 0;

    private ModelTest(long seed) {
        this.seed = seed * 7919 + 17;
    }

    public static void main(String[] args) {
        for (int run = 1; run <= RUNS; run++) {
            new ModelTest(run).go(run);
        }
        due.end();
    }

    private int below(int end) {
        seed = seed * 6364136223846793005L + 1442695040888963407L;
        return (int) ((seed >>> 33) % end);
    }

    /** Mostly a number from 0 to below end; now and then one at or beyond an edge. */
    private int number(int end) {
        switch (below(30)) {
            case 0: return -1;
            case 1: return end;
            case 2: return below(2) == 0 ? Integer.MIN_VALUE : Integer.MAX_VALUE;
            default: return below(end);
        }
    }

    private void go(int run) {
        while (calls < CALLS) {
            int kind = below(20);
            if (kind < 7) {
                call(run, CHANGES[below(CHANGES.length)]);
            } else if (kind < 16) {
                call(run, QUERIES[below(QUERIES.length)]);
            } else if (kind < 17) {
                runText(run);
            } else if (kind < 18) {
                compare(run, "undo");
            } else {
                readLine(run);
            }
            if (below(60) == 0) {
                compare(run, below(3) == 0 ? "restore" : "save");
            }
        }
    }

    private void call(int run, String name) {
        switch (name) {
            case "cloud": compare(run, name, number(6), number(6), 1 + number(below(3) == 0 ? 9 : 2)); break;
            case "vine": compare(run, name, number(6), number(5) - 1); break;
            case "title": case "pledge": compare(run, name, number(6), number(4)); break;
            case "sell": compare(run, name, number(6), number(4), below(9) == 0 ? number(100) : number(12)); break;
            case "redeem": case "hail": case "line": case "greatest": compare(run, name, number(6)); break;
            case "wind": compare(run, name, number(7) - 3); break;
            case "cloudOf": compare(run, name, number(6), number(7)); break;
            case "ownerOf": compare(run, name, number(4), number(5)); break;
            case "vineyardOf": compare(run, name, number(6), number(3)); break;
            case "clouds": case "cloudsAgain": case "bestWind": case "ranked": compare(run, name, number(4)); break;
            case "windTo": case "windToAgain": compare(run, name, number(6), number(6)); break;
            case "would": compare(run, name, number(4), number(7) - 3); break;
            case "recorded": compare(run, name, number(5), number(6)); break;
            case "dawnLine": compare(run, name, number(5)); break;
            case "reason": compare(run, name, below(2), below(2)); break;
            case "account": compare(run, name, number(13)); break;
            default: compare(run, name); break;
        }
    }

    private void readLine(int run) {
        compare(run, below(2) == 0 ? "line" : "dawnLine", below(3));
        for (int n = 0; n < 13 && calls < CALLS; n += 1 + below(3)) {
            compare(run, "character", n);
        }
    }

    private void runText(int run) {
        StringBuilder text = new StringBuilder();
        for (int n = 1 + below(4); n > 0; n--) {
            text.append(text.length() == 0 ? "" : ";").append(order());
        }
        if (below(4) == 0) {
            spoil(text);
        }
        for (int n = 0; n < text.length() && calls < CALLS; n++) {
            compare(run, "feed", text.charAt(n));
        }
        if (below(20) != 0) {
            compare(run, "run");
            compare(run, below(2) == 0 ? "faultPosition" : "isBalanced");
            compare(run, "reason", 1, below(2));
        }
    }

    private void spoil(StringBuilder text) {
        int place = below(text.length());
        switch (below(4)) {
            case 0: text.setLength(place); break;
            case 1: text.setCharAt(place, "0- >=;dx".charAt(below(8))); break;
            case 2: text.insert(place, "0- >=;dx".charAt(below(8))); break;
            default: text.deleteCharAt(place); break;
        }
    }

    private String order() {
        int a = below(12) == 0 ? below(10) : below(6);
        int b = below(12) == 0 ? below(10) : below(4);
        switch (below(10)) {
            case 0: return "cloud " + a + " " + b + " " + (1 + below(3));
            case 1: return "vine " + a + ">" + b;
            case 2: return "vine " + a + "-";
            case 3: return "title " + a + ">" + b;
            case 4: return "sell " + a + ">" + b + "=" + below(below(6) == 0 ? 100 : 10);
            case 5: return "pledge " + a + ">" + b;
            case 6: return "redeem " + a;
            case 7: return "wind " + (below(2) == 0 ? "-" : "") + b;
            case 8: return "hail " + a;
            default: return "dawn";
        }
    }

    private void compare(int run, String name, int... a) {
        if (calls >= CALLS) {
            return;
        }
        String got;
        try {
            got = make(name, a);
        } catch (RuntimeException e) {
            got = e.getClass().getSimpleName();
        }
        String want = model.answer(name, a);
        calls++;
        due.equal("run " + run + ", call " + calls + ": " + name + java.util.Arrays.toString(a), got, want);
    }

    private String make(String name, int[] a) {
        switch (name) {
            case "cloud": return "" + x.cloud(a[0], a[1], a[2]);
            case "vine": return "" + x.vine(a[0], a[1]);
            case "title": return "" + x.title(a[0], a[1]);
            case "sell": return "" + x.sell(a[0], a[1], a[2]);
            case "pledge": return "" + x.pledge(a[0], a[1]);
            case "redeem": return "" + x.redeem(a[0]);
            case "wind": return "" + x.wind(a[0]);
            case "hail": return "" + x.hail(a[0]);
            case "dawn": return "" + x.dawn();
            case "cloudOf": return "" + x.cloudOf(a[0], a[1]);
            case "ownerOf": return "" + x.ownerOf(a[0], a[1]);
            case "vineyardOf": return "" + x.vineyardOf(a[0], a[1]);
            case "clouds": return "" + x.clouds(a[0]);
            case "cloudsAgain": return "" + x.cloudsAgain(a[0]);
            case "windTo": return "" + x.windTo(a[0], a[1]);
            case "windToAgain": return "" + x.windToAgain(a[0], a[1]);
            case "would": return "" + x.would(a[0], a[1]);
            case "bestWind": return "" + x.bestWind(a[0]);
            case "recorded": return "" + x.recorded(a[0], a[1]);
            case "coins": return "" + x.coins();
            case "coinsAgain": return "" + x.coinsAgain();
            case "greatest": return "" + x.greatest(a[0]);
            case "ranked": return "" + x.ranked(a[0]);
            default: return makeOther(name, a);
        }
    }

    private String makeOther(String name, int[] a) {
        switch (name) {
            case "feed": return "" + x.feed((char) a[0]);
            case "run": return "" + x.run();
            case "faultPosition": return "" + x.faultPosition();
            case "reason": return "" + x.reason(a[0] == 1, a[1] == 1);
            case "line": return "" + x.line(a[0]);
            case "dawnLine": return "" + x.dawnLine(a[0]);
            case "character": return "" + (int) x.character(a[0]);
            case "meanSize": return "" + x.meanSize();
            case "titledShare": return "" + x.titledShare();
            case "account": return "" + x.account(a[0]);
            case "isBalanced": return "" + x.isBalanced();
            case "undo": return "" + x.undo();
            case "save": return "" + x.save();
            case "restore": return "" + x.restore();
            default: throw new AssertionError(name);
        }
    }
}

import java.util.ArrayDeque;
import java.util.ArrayList;
import java.util.Arrays;
import java.util.Collections;
import java.util.Comparator;
import java.util.Deque;
import java.util.List;
import java.util.regex.Matcher;
import java.util.regex.Pattern;

/**
 * The document once more, written plainly and in other ways than the class: lists, whole copies, and a regular
 * expression for the texts. A call answers its number as a text, or the name of the exception that it throws.
 */
final class Model {
    static final class Stop extends RuntimeException {
        private static final long serialVersionUID = 1L;

        Stop(String exception) {
            super(exception);
        }
    }

    private static final class Cloud {
        int vineyard;
        int shape;
        int size;
        Integer owner;
        int titleShape;
        Integer lender;
        int pledgedSize;

        Cloud copy() {
            Cloud c = new Cloud();
            c.vineyard = vineyard;
            c.shape = shape;
            c.size = size;
            c.owner = owner;
            c.titleShape = titleShape;
            c.lender = lender;
            c.pledgedSize = pledgedSize;
            return c;
        }
    }

    private static final class World {
        List<Cloud> clouds = new ArrayList<>();
        int[] vines = {-1, -1, -1, -1, -1, -1};
        int[] coins = {20, 20, 20, 20};
        List<List<Integer>> records = new ArrayList<>();
        int[] counts = new int[11];

        World copy() {
            World w = new World();
            for (Cloud c : clouds) {
                w.clouds.add(c.copy());
            }
            w.vines = vines.clone();
            w.coins = coins.clone();
            w.records = new ArrayList<>(records);
            w.counts = counts.clone();
            return w;
        }
    }

    private static final Pattern TEXT = Pattern.compile(text());
    private static final String UNSUPPORTED = "UnsupportedOperationException";
    private static final String NO_INDEX = "IndexOutOfBoundsException";
    private static final String NO_ELEMENT = "NoSuchElementException";
    private static final String BAD_ARGUMENT = "IllegalArgumentException";
    private static final String BAD_STATE = "IllegalStateException";

    private World world = new World();
    private World saved = null;
    private Deque<World> past = new ArrayDeque<>();
    private String tape = "";
    private String line = "";
    private Integer fault = null;
    private int[] reason = null;
    private int[] behind = null;

    private static String text() {
        String order = "(?:cloud [0-9] [0-9] [0-9]|vine [0-9](?:>[0-9]|-)|title [0-9]>[0-9]|sell [0-9]>[0-9]=[0-9][0-9]?"
            + "|pledge [0-9]>[0-9]|redeem [0-9]|wind -?[0-9]|hail [0-9]|dawn)";
        return order + "(?:;" + order + ")*";
    }

    String answer(String name, int... a) {
        try {
            return make(name, a);
        } catch (Stop e) {
            return e.getMessage();
        }
    }

    private String make(String name, int[] a) {
        switch (name) {
            case "cloud": case "vine": case "title": case "sell": case "pledge": case "redeem": case "wind": case "hail":
            case "dawn":
                return "" + change(name, a);
            case "cloudOf": return "" + cloudOf(a[0], a[1]);
            case "ownerOf": return "" + ownerOf(a[0], a[1]);
            case "vineyardOf": return "" + vineyardOf(a[0], a[1]);
            case "clouds": case "cloudsAgain":
                check(a[0] >= 0 && a[0] < 4, NO_INDEX);
                return "" + owned(world, a[0]);
            case "windTo": case "windToAgain": return "" + windTo(a[0], a[1]);
            case "would":
                check(a[0] >= 0 && a[0] < 4, NO_INDEX);
                check(a[1] >= -3 && a[1] <= 3, BAD_ARGUMENT);
                return "" + would(a[0], a[1]);
            case "bestWind":
                check(a[0] >= 0 && a[0] < 4, NO_INDEX);
                return "" + bestWind(a[0]);
            case "recorded":
                check(a[0] >= 0 && a[0] < world.records.size(), NO_ELEMENT);
                check(a[1] >= 0 && a[1] < world.records.get(a[0]).size(), NO_ELEMENT);
                return "" + world.records.get(a[0]).get(a[1]);
            case "coins": case "coinsAgain": return "" + Arrays.stream(world.coins).sum();
            case "greatest": return "" + greatest(a[0]);
            case "ranked": return "" + ranked(a[0]);
            default: return makeOther(name, a);
        }
    }

    private String makeOther(String name, int[] a) {
        switch (name) {
            case "feed":
                check(tape.length() < 60, BAD_STATE);
                tape += (char) a[0];
                return "" + tape.length();
            case "run": return "" + run();
            case "faultPosition":
                check(fault != null, NO_ELEMENT);
                return "" + fault;
            case "reason":
                int[] told = a[0] == 1 ? behind : reason;
                check(told != null, NO_ELEMENT);
                return "" + told[a[1]];
            case "line":
                line = lineOf(a[0]);
                return "" + line.length();
            case "dawnLine":
                check(a[0] >= 0 && a[0] < world.records.size(), NO_ELEMENT);
                line = "";
                world.records.get(a[0]).forEach(owner -> line += owner < 0 ? "-" : "" + owner);
                return "" + line.length();
            case "character":
                check(a[0] >= 0 && a[0] < line.length(), NO_INDEX);
                return "" + (int) line.charAt(a[0]);
            case "meanSize":
                check(!world.clouds.isEmpty(), "ArithmeticException");
                return "" + world.clouds.stream().mapToInt(c -> c.size).average().getAsDouble();
            case "titledShare":
                check(!world.clouds.isEmpty(), "ArithmeticException");
                return "" + (float) titled() / world.clouds.size();
            case "account": return "" + account(a[0]);
            case "isBalanced": return "true";
            case "undo":
                check(!past.isEmpty(), BAD_STATE);
                world = past.pop();
                return "" + past.size();
            case "save":
                saved = world.copy();
                return "" + world.clouds.size();
            case "restore":
                check(saved != null, BAD_STATE);
                world = saved.copy();
                past.clear();
                return "" + world.clouds.size();
            default: throw new AssertionError(name);
        }
    }

    private static void check(boolean holds, String exception) {
        if (!holds) {
            throw new Stop(exception);
        }
    }

    private int[] why;

    private void demand(boolean holds, int number, int detail) {
        if (!holds) {
            why = new int[] {number, detail};
            throw new Stop(UNSUPPORTED);
        }
    }

    private int change(String name, int[] a) {
        World old = world.copy();
        try {
            int answer = order(name, a);
            remember(old);
            return answer;
        } catch (Stop e) {
            world = old;
            reason = why;
            behind = null;
            throw e;
        }
    }

    private void remember(World old) {
        past.push(old);
        if (past.size() > 8) {
            past.removeLast();
        }
    }

    private int run() {
        String text = tape;
        tape = "";
        Matcher whole = TEXT.matcher(text);
        if (!whole.matches()) {
            fault = faultOf(text);
            throw new Stop(BAD_ARGUMENT);
        }
        World old = world.copy();
        String[] orders = text.split(";");
        for (int n = 0; n < orders.length; n++) {
            try {
                String[] words = orders[n].replace("-", words(orders[n])).split("[ >=]");
                int[] numbers = new int[words.length - 1];
                for (int k = 0; k < numbers.length; k++) {
                    numbers[k] = Integer.parseInt(words[k + 1]);
                }
                order(words[0], numbers);
            } catch (Stop e) {
                world = old;
                reason = new int[] {10, n};
                behind = why;
                throw e;
            }
        }
        remember(old);
        return orders.length;
    }

    private static String words(String order) {
        return order.startsWith("vine") ? " -1" : "-";
    }

    /** The longest start of the text that some more characters can make a text. */
    private static int faultOf(String text) {
        for (int n = text.length(); n > 0; n--) {
            Matcher start = TEXT.matcher(text.substring(0, n));
            if (start.matches() || start.hitEnd()) {
                return n;
            }
        }
        return 0;
    }

    private Cloud cloudFor(int cloud) {
        demand(cloud >= 0 && cloud < world.clouds.size(), 2, cloud);
        return world.clouds.get(cloud);
    }

    private void ownerFor(int owner) {
        demand(owner >= 0 && owner < 4, 2, owner);
    }

    private int order(String name, int[] a) {
        switch (name) {
            case "cloud": return come(a[0], a[1], a[2]);
            case "vine": return vine(a[0], a[1]);
            case "title": return title(a[0], a[1]);
            case "sell": return sell(a[0], a[1], a[2]);
            case "pledge": return pledge(a[0], a[1]);
            case "redeem": return redeem(a[0]);
            case "wind":
                demand(a[0] != 0 && a[0] >= -3 && a[0] <= 3, 3, a[0]);
                return blow(world, a[0]);
            case "hail": return hail(a[0]);
            case "dawn": return dawn(world);
            default: throw new AssertionError(name);
        }
    }

    private int come(int vineyard, int shape, int size) {
        demand(vineyard >= 0 && vineyard < 6, 2, vineyard);
        demand(shape >= 0 && shape < 6, 3, shape);
        demand(size >= 1 && size <= 9, 3, size);
        demand(world.clouds.size() < 6, 1, 6);
        Cloud c = new Cloud();
        c.vineyard = vineyard;
        c.shape = shape;
        c.size = size;
        world.clouds.add(c);
        return world.clouds.size() - 1;
    }

    private int vine(int vineyard, int owner) {
        demand(vineyard >= 0 && vineyard < 6, 2, vineyard);
        if (owner != -1) {
            ownerFor(owner);
        }
        demand(world.vines[vineyard] != owner, 4, owner);
        world.vines[vineyard] = owner;
        return (int) Arrays.stream(world.vines).filter(v -> v >= 0).count();
    }

    private int title(int cloud, int owner) {
        Cloud c = cloudFor(cloud);
        ownerFor(owner);
        demand(c.owner == null, 5, c.owner == null ? 0 : c.owner);
        demand(world.coins[owner] >= c.size, 7, world.coins[owner]);
        world.coins[owner] -= c.size;
        world.counts[9] += c.size;
        c.owner = owner;
        c.titleShape = c.shape;
        return world.coins[owner];
    }

    private int sell(int cloud, int other, int coins) {
        Cloud c = cloudFor(cloud);
        ownerFor(other);
        demand(coins >= 0 && coins <= 99, 3, coins);
        demand(c.owner != null, 6, cloud);
        demand(c.owner != other, 4, other);
        demand(c.lender == null, 8, c.lender == null ? 0 : c.lender);
        demand(world.coins[other] >= coins, 7, world.coins[other]);
        int seller = c.owner;
        world.coins[other] -= coins;
        world.coins[seller] += coins;
        c.owner = other;
        c.titleShape = c.shape;
        return world.coins[seller];
    }

    private int pledge(int cloud, int lender) {
        Cloud c = cloudFor(cloud);
        ownerFor(lender);
        demand(c.owner != null, 6, cloud);
        demand(c.owner != lender, 4, lender);
        demand(c.lender == null, 8, c.lender == null ? 0 : c.lender);
        demand(world.coins[lender] >= 2 * c.size, 7, world.coins[lender]);
        world.coins[lender] -= 2 * c.size;
        world.coins[c.owner] += 2 * c.size;
        c.lender = lender;
        c.pledgedSize = c.size;
        return 2 * c.size;
    }

    private int redeem(int cloud) {
        Cloud c = cloudFor(cloud);
        demand(c.lender != null, 9, cloud);
        int price = 2 * c.pledgedSize + 1;
        demand(world.coins[c.owner] >= price, 7, world.coins[c.owner]);
        world.coins[c.owner] -= price;
        world.coins[c.lender] += price;
        c.lender = null;
        return price;
    }

    private static int blow(World w, int wind) {
        int others = 0;
        for (Cloud c : w.clouds) {
            c.vineyard = (c.vineyard + wind + 6) % 6;
            for (int n = 0; n < Math.abs(wind); n++) {
                c.shape = c.shape == 5 ? 0 : c.shape + 1;
            }
            others += c.owner != null && c.titleShape != c.shape ? 1 : 0;
        }
        return others;
    }

    private int hail(int vineyard) {
        demand(vineyard >= 0 && vineyard < 6, 2, vineyard);
        int foreclosed = 0;
        for (Cloud c : world.clouds) {
            if (c.vineyard == vineyard) {
                if (c.lender != null) {
                    c.owner = c.lender;
                    c.titleShape = c.shape;
                    c.lender = null;
                    foreclosed++;
                } else {
                    c.size -= 1;
                }
            }
        }
        int before = world.clouds.size();
        world.clouds.removeIf(c -> c.size == 0);
        world.counts[8] += before - world.clouds.size();
        world.counts[7] += foreclosed;
        return foreclosed;
    }

    private static int dawn(World w) {
        int claimed = 0;
        List<Integer> record = new ArrayList<>();
        for (Cloud c : w.clouds) {
            if (c.owner != null && c.titleShape != c.shape) {
                c.owner = null;
                c.lender = null;
                w.counts[5]++;
            }
            int below = w.vines[c.vineyard];
            if (c.owner == null && below >= 0) {
                c.owner = below;
                c.titleShape = c.shape;
                claimed++;
            }
            if (c.owner != null && c.owner == below) {
                w.coins[below]++;
                w.counts[10]++;
            }
            record.add(c.owner == null ? -1 : c.owner);
        }
        w.counts[6] += claimed;
        w.counts[4]++;
        w.records.add(0, record);
        if (w.records.size() > 5) {
            w.records.remove(5);
        }
        return claimed;
    }

    private int cloudOf(int cloud, int what) {
        check(cloud >= 0 && cloud < world.clouds.size(), NO_INDEX);
        check(what >= 0 && what <= 6, BAD_ARGUMENT);
        Cloud c = world.clouds.get(cloud);
        int[] numbers = {c.vineyard, c.shape, c.size, c.owner == null ? -1 : c.owner, c.owner == null ? -1 : c.titleShape,
            c.lender == null ? -1 : c.lender, c.lender == null ? 0 : 2 * c.pledgedSize + 1};
        return numbers[what];
    }

    private int ownerOf(int owner, int what) {
        check(owner >= 0 && owner < 4, NO_INDEX);
        check(what >= 0 && what <= 4, BAD_ARGUMENT);
        int[] numbers = {world.coins[owner], (int) Arrays.stream(world.vines).filter(v -> v == owner).count(), 0, 0, 0};
        for (Cloud c : world.clouds) {
            boolean isOwner = c.owner != null && c.owner == owner;
            numbers[2] += c.lender != null && c.lender == owner ? 1 : 0;
            numbers[3] += c.lender != null && isOwner ? 1 : 0;
            numbers[4] += isOwner ? c.size : 0;
        }
        return numbers[what];
    }

    private int vineyardOf(int vineyard, int what) {
        check(vineyard >= 0 && vineyard < 6, NO_INDEX);
        check(what >= 0 && what <= 2, BAD_ARGUMENT);
        int[] numbers = {world.vines[vineyard], 0, 0};
        for (Cloud c : world.clouds) {
            if (c.vineyard == vineyard) {
                numbers[1]++;
                numbers[2] += c.size;
            }
        }
        return numbers[what];
    }

    private static int owned(World w, int owner) {
        return (int) w.clouds.stream().filter(c -> c.owner != null && c.owner == owner).count();
    }

    private int titled() {
        return (int) world.clouds.stream().filter(c -> c.owner != null).count();
    }

    private int windTo(int cloud, int vineyard) {
        check(cloud >= 0 && cloud < world.clouds.size() && vineyard >= 0 && vineyard < 6, NO_INDEX);
        int[] winds = {0, 1, 2, 3, -2, -1};
        return winds[(vineyard - world.clouds.get(cloud).vineyard + 6) % 6];
    }

    private int would(int owner, int wind) {
        World then = world.copy();
        blow(then, wind);
        dawn(then);
        return owned(then, owner);
    }

    private int bestWind(int owner) {
        List<Integer> winds = new ArrayList<>(List.of(-3, -2, -1, 0, 1, 2, 3));
        return Collections.max(winds, Comparator.<Integer>comparingInt(w -> would(owner, w)).thenComparing(w -> -w));
    }

    private int greatest(int place) {
        List<Integer> order = new ArrayList<>();
        for (int n = 0; n < world.clouds.size(); n++) {
            order.add(n);
        }
        order.sort(Comparator.<Integer>comparingInt(n -> -world.clouds.get(n).size)
            .thenComparing(n -> world.clouds.get(n).owner == null));
        check(place >= 0 && place < order.size(), NO_ELEMENT);
        return order.get(place);
    }

    private int ranked(int place) {
        List<Integer> order = new ArrayList<>(List.of(0, 1, 2, 3));
        order.sort(Comparator.<Integer>comparingInt(n -> -owned(world, n)).thenComparing(n -> -world.coins[n]));
        check(place >= 0 && place < 4, NO_ELEMENT);
        return order.get(place);
    }

    private String lineOf(int cloud) {
        check(cloud >= 0 && cloud < world.clouds.size(), NO_INDEX);
        Cloud c = world.clouds.get(cloud);
        String title = c.owner == null ? "" : "=" + c.owner + (c.titleShape == c.shape ? "" : "?");
        return cloud + "@" + c.vineyard + ":" + c.shape + "/" + c.size + title + (c.lender == null ? "" : "*" + c.lender);
    }

    private int account(int what) {
        check(what >= 0 && what <= 12, BAD_ARGUMENT);
        switch (what) {
            case 0: return world.clouds.size();
            case 1: return titled();
            case 2: return (int) world.clouds.stream().filter(c -> c.lender != null).count();
            case 3: return (int) Arrays.stream(world.vines).filter(v -> v >= 0).count();
            case 11: return tape.length();
            case 12: return past.size();
            default: return world.counts[what];
        }
    }
}

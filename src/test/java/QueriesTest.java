import java.util.NoSuchElementException;

/** Promises 11 to 24: what there is. */
public final class QueriesTest {
    private static final Class<?> NO_INDEX = IndexOutOfBoundsException.class;
    private static final Class<?> BAD_ARGUMENT = IllegalArgumentException.class;
    private static final Class<?> NO_ELEMENT = NoSuchElementException.class;
    private static final int[] FAR = {Integer.MIN_VALUE, -1, 99, Integer.MAX_VALUE};
    private static final Due due = new Due();

    public static void main(String[] args) {
        promise11CloudOf();
        promise12OwnerOf();
        promise13VineyardOf();
        promise14And15Clouds();
        promise16And17WindTo();
        promise18Would();
        promise19BestWind();
        promise20Recorded();
        promise21And22Coins();
        promise23Greatest();
        promise24Ranked();
        due.end();
    }

    /** Three clouds: one pledged with a title for another shape, one with a title, one without. */
    private static Desk office() {
        Desk x = new Desk();
        x.cloud(4, 5, 7);
        x.cloud(5, 0, 3);
        x.cloud(5, 0, 4);
        x.title(0, 3);
        x.pledge(0, 0);
        x.wind(2);
        x.title(1, 3);
        x.vine(0, 0);
        x.vine(1, 3);
        x.vine(2, 0);
        return x;
    }

    private static void promise11CloudOf() {
        Desk x = office();
        int[][] want = {{0, 1, 7, 3, 5, 0, 15}, {1, 2, 3, 3, 2, -1, 0}, {1, 2, 4, -1, -1, -1, 0}};
        for (int cloud = 0; cloud < 3; cloud++) {
            for (int what = 0; what <= 6; what++) {
                due.equal("cloudOf " + cloud + " " + what, x.cloudOf(cloud, what), want[cloud][what]);
            }
        }
        String before = Deeds.office(x);
        due.thrown("cloudOf 3", x, NO_INDEX, d -> d.cloudOf(3, 0));
        due.thrown("cloudOf 0 7", x, BAD_ARGUMENT, d -> d.cloudOf(0, 7));
        for (int far : FAR) {
            due.thrown("cloudOf " + far, x, NO_INDEX, d -> d.cloudOf(far, 0));
            due.thrown("cloudOf " + far + " twice", x, NO_INDEX, d -> d.cloudOf(far, far));
            due.thrown("cloudOf what " + far, x, BAD_ARGUMENT, d -> d.cloudOf(0, far));
        }
        due.thrown("cloudOf gave no reason", x, NO_ELEMENT, d -> d.reason(false, false));
        due.equal("the office stays", Deeds.office(x), before);
    }

    private static void promise12OwnerOf() {
        Desk x = office();
        int[][] want = {{6, 2, 1, 0, 0}, {20, 0, 0, 0, 0}, {20, 0, 0, 0, 0}, {24, 1, 0, 1, 10}};
        for (int owner = 0; owner < 4; owner++) {
            for (int what = 0; what <= 4; what++) {
                due.equal("ownerOf " + owner + " " + what, x.ownerOf(owner, what), want[owner][what]);
            }
        }
        due.thrown("ownerOf 4", x, NO_INDEX, d -> d.ownerOf(4, 0));
        due.thrown("ownerOf 0 5", x, BAD_ARGUMENT, d -> d.ownerOf(0, 5));
        for (int far : FAR) {
            due.thrown("ownerOf " + far, x, NO_INDEX, d -> d.ownerOf(far, 0));
            due.thrown("ownerOf " + far + " twice", x, NO_INDEX, d -> d.ownerOf(far, far));
            due.thrown("ownerOf what " + far, x, BAD_ARGUMENT, d -> d.ownerOf(0, far));
        }
    }

    private static void promise13VineyardOf() {
        Desk x = office();
        int[][] want = {{0, 1, 7}, {3, 2, 7}, {0, 0, 0}, {-1, 0, 0}, {-1, 0, 0}, {-1, 0, 0}};
        for (int vineyard = 0; vineyard < 6; vineyard++) {
            for (int what = 0; what <= 2; what++) {
                due.equal("vineyardOf " + vineyard + " " + what, x.vineyardOf(vineyard, what), want[vineyard][what]);
            }
        }
        due.thrown("vineyardOf 6", x, NO_INDEX, d -> d.vineyardOf(6, 0));
        due.thrown("vineyardOf 0 3", x, BAD_ARGUMENT, d -> d.vineyardOf(0, 3));
        for (int far : FAR) {
            due.thrown("vineyardOf " + far, x, NO_INDEX, d -> d.vineyardOf(far, 0));
            due.thrown("vineyardOf " + far + " twice", x, NO_INDEX, d -> d.vineyardOf(far, far));
            due.thrown("vineyardOf what " + far, x, BAD_ARGUMENT, d -> d.vineyardOf(0, far));
        }
    }

    private static void promise14And15Clouds() {
        Desk x = office();
        x.cloud(0, 0, 1);
        x.title(3, 1);
        int[] want = {0, 1, 0, 2};
        for (int owner = 0; owner < 4; owner++) {
            due.equal("clouds " + owner, x.clouds(owner), want[owner]);
            due.equal("cloudsAgain " + owner, x.cloudsAgain(owner), want[owner]);
        }
        x.hail(0);
        int[] after = {1, 0, 0, 1};
        for (int owner = 0; owner < 4; owner++) {
            due.equal("clouds " + owner, x.clouds(owner), after[owner]);
            due.equal("cloudsAgain " + owner, x.cloudsAgain(owner), after[owner]);
        }
        due.thrown("clouds 4", x, NO_INDEX, d -> d.clouds(4));
        due.thrown("cloudsAgain 4", x, NO_INDEX, d -> d.cloudsAgain(4));
        for (int far : FAR) {
            due.thrown("clouds " + far, x, NO_INDEX, d -> d.clouds(far));
            due.thrown("cloudsAgain " + far, x, NO_INDEX, d -> d.cloudsAgain(far));
        }
    }

    private static void promise16And17WindTo() {
        Desk x = new Desk();
        int[] want = {0, 1, 2, 3, -2, -1};
        for (int n = 0; n < 6; n++) {
            x.cloud(n, 0, 1);
            for (int far = 0; far < 6; far++) {
                int vineyard = (n + far) % 6;
                due.equal("windTo " + n + " " + vineyard, x.windTo(n, vineyard), want[far]);
                due.equal("windToAgain " + n + " " + vineyard, x.windToAgain(n, vineyard), want[far]);
            }
        }
        x.hail(5);
        due.thrown("windTo 5", x, NO_INDEX, d -> d.windTo(5, 0));
        due.thrown("windToAgain 5", x, NO_INDEX, d -> d.windToAgain(5, 0));
        due.thrown("windTo 0 6", x, NO_INDEX, d -> d.windTo(0, 6));
        due.thrown("windToAgain 0 6", x, NO_INDEX, d -> d.windToAgain(0, 6));
        for (int far : FAR) {
            due.thrown("windTo " + far, x, NO_INDEX, d -> d.windTo(far, 0));
            due.thrown("windToAgain " + far, x, NO_INDEX, d -> d.windToAgain(far, 0));
            due.thrown("windTo over " + far, x, NO_INDEX, d -> d.windTo(0, far));
            due.thrown("windToAgain over " + far, x, NO_INDEX, d -> d.windToAgain(0, far));
        }
    }

    private static void promise18Would() {
        Desk x = office();
        String before = Deeds.office(x);
        // Now: 0@0:1/7=3?*0, 1@1:2/3=3, 2@1:2/4; the vineyards belong to 0, 3, 0, -, -, -.
        int[][] want = {{0, 0, 2, 1, 2, 1, 0}, {0, 0, 0, 0, 0, 0, 0}, {0, 0, 0, 0, 0, 0, 0}, {0, 0, 0, 2, 1, 0, 0}};
        for (int owner = 0; owner < 4; owner++) {
            for (int wind = -3; wind <= 3; wind++) {
                due.equal("would " + owner + " " + wind, x.would(owner, wind), want[owner][wind + 3]);
            }
        }
        due.equal("the office stays", Deeds.office(x), before);
        due.thrown("would 4", x, NO_INDEX, d -> d.would(4, 0));
        due.thrown("would 0 4", x, BAD_ARGUMENT, d -> d.would(0, 4));
        due.thrown("would 0 -4", x, BAD_ARGUMENT, d -> d.would(0, -4));
        for (int far : new int[] {Integer.MIN_VALUE, -9, 99, Integer.MAX_VALUE}) {
            due.thrown("would " + far, x, NO_INDEX, d -> d.would(far, 0));
            due.thrown("would " + far + " twice", x, NO_INDEX, d -> d.would(far, far));
            due.thrown("would wind " + far, x, BAD_ARGUMENT, d -> d.would(0, far));
        }
    }

    private static void promise19BestWind() {
        Desk x = office();
        String before = Deeds.office(x);
        due.equal("bestWind, the lowest of several", x.bestWind(0), -1);
        due.equal("bestWind, none is better", x.bestWind(1), -3);
        due.equal("bestWind, without a wind", x.bestWind(3), 0);
        due.equal("the office stays", Deeds.office(x), before);
        Desk y = new Desk();
        y.vine(3, 2);
        y.cloud(0, 0, 1);
        due.equal("bestWind, 3 and -3 alike", y.bestWind(2), -3);
        y.cloud(1, 0, 1);
        y.cloud(1, 0, 1);
        due.equal("bestWind, one above 0", y.bestWind(2), 2);
        y.vine(4, 2);
        due.equal("bestWind, 3 and -3 alike and best", y.bestWind(2), -3);
        for (int far : new int[] {Integer.MIN_VALUE, -1, 4, Integer.MAX_VALUE}) {
            due.thrown("bestWind " + far, x, NO_INDEX, d -> d.bestWind(far));
        }
    }

    private static void promise20Recorded() {
        Desk x = new Desk();
        due.thrown("no dawn", x, NO_ELEMENT, d -> d.recorded(0, 0));
        x.dawn();
        due.thrown("a dawn without clouds", x, NO_ELEMENT, d -> d.recorded(0, 0));
        x.cloud(0, 0, 1);
        x.cloud(1, 0, 2);
        x.title(1, 3);
        due.thrown("a cloud that came later", x, NO_ELEMENT, d -> d.recorded(0, 0));
        x.dawn();
        due.equal("recorded", x.recorded(0, 0), -1);
        due.equal("recorded", x.recorded(0, 1), 3);
        due.thrown("no such cloud", x, NO_ELEMENT, d -> d.recorded(0, 2));
        due.thrown("no such dawn", x, NO_ELEMENT, d -> d.recorded(2, 0));
        x.hail(0);
        due.equal("the number of then", x.recorded(0, 1), 3);
        x.dawn();
        due.equal("recorded", x.recorded(0, 0), 3);
        due.equal("one dawn ago", x.recorded(1, 0), -1);
        due.equal("one dawn ago", x.recorded(1, 1), 3);
        x.sell(0, 2, 0);
        x.dawn();
        x.dawn();
        due.equal("recorded", x.recorded(0, 0), 2);
        due.thrown("four dawns ago, without clouds", x, NO_ELEMENT, d -> d.recorded(4, 0));
        x.dawn();
        due.equal("four dawns ago", x.recorded(4, 1), 3);
        due.thrown("five dawns ago", x, NO_ELEMENT, d -> d.recorded(5, 0));
        for (int far : FAR) {
            due.thrown("recorded " + far, x, NO_ELEMENT, d -> d.recorded(far, 0));
            due.thrown("recorded 0 " + far, x, NO_ELEMENT, d -> d.recorded(0, far));
        }
    }

    private static void promise21And22Coins() {
        Desk x = new Desk();
        coins(x, 80);
        x.cloud(0, 0, 9);
        x.title(0, 0);
        coins(x, 71);
        x.pledge(0, 1);
        coins(x, 71);
        x.redeem(0);
        coins(x, 71);
        x.sell(0, 2, 15);
        coins(x, 71);
        x.vine(0, 2);
        x.dawn();
        coins(x, 72);
        x.dawn();
        coins(x, 73);
        x.undo();
        coins(x, 72);
    }

    private static void coins(Desk x, int want) {
        due.equal("coins", x.coins(), want);
        due.equal("coinsAgain", x.coinsAgain(), want);
    }

    private static void promise23Greatest() {
        Desk x = new Desk();
        due.thrown("greatest of none", x, NO_ELEMENT, d -> d.greatest(0));
        x.cloud(0, 0, 3);
        x.cloud(0, 0, 5);
        x.cloud(0, 0, 3);
        x.cloud(0, 0, 3);
        x.cloud(0, 0, 1);
        x.cloud(0, 0, 3);
        x.title(2, 0);
        x.title(5, 1);
        x.title(4, 1);
        int[] want = {1, 2, 5, 0, 3, 4};
        for (int place = 0; place < 6; place++) {
            due.equal("greatest " + place, x.greatest(place), want[place]);
        }
        due.thrown("greatest 6", x, NO_ELEMENT, d -> d.greatest(6));
        for (int far : FAR) {
            due.thrown("greatest " + far, x, NO_ELEMENT, d -> d.greatest(far));
        }
        x.hail(0);
        due.thrown("greatest 5", x, NO_ELEMENT, d -> d.greatest(5));
    }

    private static void promise24Ranked() {
        Desk x = new Desk();
        ranked(x, 0, 1, 2, 3);
        x.cloud(0, 0, 3);
        x.cloud(0, 0, 3);
        x.cloud(0, 0, 1);
        x.title(0, 3);
        ranked(x, 3, 0, 1, 2);
        x.title(1, 1);
        ranked(x, 1, 3, 0, 2);
        x.title(2, 2);
        ranked(x, 2, 1, 3, 0);
        x.sell(0, 2, 2);
        ranked(x, 2, 1, 0, 3);
        x.sell(0, 0, 5);
        x.sell(2, 0, 0);
        ranked(x, 0, 1, 2, 3);
        for (int far : new int[] {Integer.MIN_VALUE, -1, 4, Integer.MAX_VALUE}) {
            due.thrown("ranked " + far, x, NO_ELEMENT, d -> d.ranked(far));
        }
    }

    private static void ranked(Desk x, int... want) {
        for (int place = 0; place < 4; place++) {
            due.equal("ranked " + place, x.ranked(place), want[place]);
        }
    }
}

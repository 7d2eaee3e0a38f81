import java.util.NoSuchElementException;

/** Promises 11 to 24: what there is. */
public final class QueriesTest {
    private static final Class<?> NO_INDEX = IndexOutOfBoundsException.class;
    private static final Class<?> BAD_ARGUMENT = IllegalArgumentException.class;
    private static final Class<?> NO_ELEMENT = NoSuchElementException.class;
    private static final int[] FAR = {Integer.MIN_VALUE, -1, 99, Integer.MAX_VALUE};
    private static final Due due = new Due();

    public static void main(String[] args) {
        promise11CloudOf();
        promise12OwnerOf();
        promise13VineyardOf();
        promise14And15Clouds();
        promise16And17WindTo();
        promise18Would();
        promise19BestWind();
        promise20Recorded();
        promise21And22Coins();
        promise23Greatest();
        promise24Ranked();
        due.end();
    }

    /** Three clouds: one pledged with a title for another shape, one with a title, one without. */
    private static CloudDeeds office() {
        CloudDeeds x = new CloudDeeds();
        x.cloud(4, 5, 7);
        x.cloud(5, 0, 3);
        x.cloud(5, 0, 4);
        x.title(0, 3);
        x.pledge(0, 0);
        x.wind(2);
        x.title(1, 3);
        x.vine(0, 0);
        x.vine(1, 3);
        x.vine(2, 0);
        return x;
    }

    private static void promise11CloudOf() {
        CloudDeeds x = office();
        int[][] want = {{0, 1, 7, 3, 5, 0, 15}, {1, 2, 3, 3, 2, -1, 0}, {1, 2, 4, -1, -1, -1, 0}};
        for (int cloud = 0; cloud < 3; cloud++) {
            for (int what = 0; what <= 6; what++) {
                due.equal("cloudOf " + cloud + " " + what, x.cloudOf(cloud, what), want[cloud][what]);
            }
        }
        String before = Deeds.office(x);
        due.thrown("cloudOf 3", NO_INDEX, () -> x.cloudOf(3, 0));
        due.thrown("cloudOf 0 7", BAD_ARGUMENT, () -> x.cloudOf(0, 7));
        for (int far : FAR) {
            due.thrown("cloudOf " + far, NO_INDEX, () -> x.cloudOf(far, 0));
            due.thrown("cloudOf " + far + " twice", NO_INDEX, () -> x.cloudOf(far, far));
            due.thrown("cloudOf what " + far, BAD_ARGUMENT, () -> x.cloudOf(0, far));
        }
        due.thrown("cloudOf gave no reason", NO_ELEMENT, () -> x.reason(false, false));
        due.equal("the office stays", Deeds.office(x), before);
    }

    private static void promise12OwnerOf() {
        CloudDeeds x = office();
        int[][] want = {{6, 2, 1, 0, 0}, {20, 0, 0, 0, 0}, {20, 0, 0, 0, 0}, {24, 1, 0, 1, 10}};
        for (int owner = 0; owner < 4; owner++) {
            for (int what = 0; what <= 4; what++) {
                due.equal("ownerOf " + owner + " " + what, x.ownerOf(owner, what), want[owner][what]);
            }
        }
        due.thrown("ownerOf 4", NO_INDEX, () -> x.ownerOf(4, 0));
        due.thrown("ownerOf 0 5", BAD_ARGUMENT, () -> x.ownerOf(0, 5));
        for (int far : FAR) {
            due.thrown("ownerOf " + far, NO_INDEX, () -> x.ownerOf(far, 0));
            due.thrown("ownerOf " + far + " twice", NO_INDEX, () -> x.ownerOf(far, far));
            due.thrown("ownerOf what " + far, BAD_ARGUMENT, () -> x.ownerOf(0, far));
        }
    }

    private static void promise13VineyardOf() {
        CloudDeeds x = office();
        int[][] want = {{0, 1, 7}, {3, 2, 7}, {0, 0, 0}, {-1, 0, 0}, {-1, 0, 0}, {-1, 0, 0}};
        for (int vineyard = 0; vineyard < 6; vineyard++) {
            for (int what = 0; what <= 2; what++) {
                due.equal("vineyardOf " + vineyard + " " + what, x.vineyardOf(vineyard, what), want[vineyard][what]);
            }
        }
        due.thrown("vineyardOf 6", NO_INDEX, () -> x.vineyardOf(6, 0));
        due.thrown("vineyardOf 0 3", BAD_ARGUMENT, () -> x.vineyardOf(0, 3));
        for (int far : FAR) {
            due.thrown("vineyardOf " + far, NO_INDEX, () -> x.vineyardOf(far, 0));
            due.thrown("vineyardOf " + far + " twice", NO_INDEX, () -> x.vineyardOf(far, far));
            due.thrown("vineyardOf what " + far, BAD_ARGUMENT, () -> x.vineyardOf(0, far));
        }
    }

    private static void promise14And15Clouds() {
        CloudDeeds x = office();
        x.cloud(0, 0, 1);
        x.title(3, 1);
        int[] want = {0, 1, 0, 2};
        for (int owner = 0; owner < 4; owner++) {
            due.equal("clouds " + owner, x.clouds(owner), want[owner]);
            due.equal("cloudsAgain " + owner, x.cloudsAgain(owner), want[owner]);
        }
        x.hail(0);
        int[] after = {1, 0, 0, 1};
        for (int owner = 0; owner < 4; owner++) {
            due.equal("clouds " + owner, x.clouds(owner), after[owner]);
            due.equal("cloudsAgain " + owner, x.cloudsAgain(owner), after[owner]);
        }
        due.thrown("clouds 4", NO_INDEX, () -> x.clouds(4));
        due.thrown("cloudsAgain 4", NO_INDEX, () -> x.cloudsAgain(4));
        for (int far : FAR) {
            due.thrown("clouds " + far, NO_INDEX, () -> x.clouds(far));
            due.thrown("cloudsAgain " + far, NO_INDEX, () -> x.cloudsAgain(far));
        }
    }

    private static void promise16And17WindTo() {
        CloudDeeds x = new CloudDeeds();
        int[] want = {0, 1, 2, 3, -2, -1};
        for (int n = 0; n < 6; n++) {
            x.cloud(n, 0, 1);
            for (int far = 0; far < 6; far++) {
                int vineyard = (n + far) % 6;
                due.equal("windTo " + n + " " + vineyard, x.windTo(n, vineyard), want[far]);
                due.equal("windToAgain " + n + " " + vineyard, x.windToAgain(n, vineyard), want[far]);
            }
        }
        x.hail(5);
        due.thrown("windTo 5", NO_INDEX, () -> x.windTo(5, 0));
        due.thrown("windToAgain 5", NO_INDEX, () -> x.windToAgain(5, 0));
        due.thrown("windTo 0 6", NO_INDEX, () -> x.windTo(0, 6));
        due.thrown("windToAgain 0 6", NO_INDEX, () -> x.windToAgain(0, 6));
        for (int far : FAR) {
            due.thrown("windTo " + far, NO_INDEX, () -> x.windTo(far, 0));
            due.thrown("windToAgain " + far, NO_INDEX, () -> x.windToAgain(far, 0));
            due.thrown("windTo over " + far, NO_INDEX, () -> x.windTo(0, far));
            due.thrown("windToAgain over " + far, NO_INDEX, () -> x.windToAgain(0, far));
        }
    }

    private static void promise18Would() {
        CloudDeeds x = office();
        String before = Deeds.office(x);
        // Now: 0@0:1/7=3?*0, 1@1:2/3=3, 2@1:2/4; the vineyards belong to 0, 3, 0, -, -, -.
        int[][] want = {{0, 0, 2, 1, 2, 1, 0}, {0, 0, 0, 0, 0, 0, 0}, {0, 0, 0, 0, 0, 0, 0}, {0, 0, 0, 2, 1, 0, 0}};
        for (int owner = 0; owner < 4; owner++) {
            for (int wind = -3; wind <= 3; wind++) {
                due.equal("would " + owner + " " + wind, x.would(owner, wind), want[owner][wind + 3]);
            }
        }
        due.equal("the office stays", Deeds.office(x), before);
        due.thrown("would 4", NO_INDEX, () -> x.would(4, 0));
        due.thrown("would 0 4", BAD_ARGUMENT, () -> x.would(0, 4));
        due.thrown("would 0 -4", BAD_ARGUMENT, () -> x.would(0, -4));
        for (int far : new int[] {Integer.MIN_VALUE, -9, 99, Integer.MAX_VALUE}) {
            due.thrown("would " + far, NO_INDEX, () -> x.would(far, 0));
            due.thrown("would " + far + " twice", NO_INDEX, () -> x.would(far, far));
            due.thrown("would wind " + far, BAD_ARGUMENT, () -> x.would(0, far));
        }
    }

    private static void promise19BestWind() {
        CloudDeeds x = office();
        String before = Deeds.office(x);
        due.equal("bestWind, the lowest of several", x.bestWind(0), -1);
        due.equal("bestWind, none is better", x.bestWind(1), -3);
        due.equal("bestWind, without a wind", x.bestWind(3), 0);
        due.equal("the office stays", Deeds.office(x), before);
        CloudDeeds y = new CloudDeeds();
        y.vine(3, 2);
        y.cloud(0, 0, 1);
        due.equal("bestWind, 3 and -3 alike", y.bestWind(2), -3);
        y.cloud(1, 0, 1);
        y.cloud(1, 0, 1);
        due.equal("bestWind, one above 0", y.bestWind(2), 2);
        y.vine(4, 2);
        due.equal("bestWind, 3 and -3 alike and best", y.bestWind(2), -3);
        for (int far : new int[] {Integer.MIN_VALUE, -1, 4, Integer.MAX_VALUE}) {
            due.thrown("bestWind " + far, NO_INDEX, () -> x.bestWind(far));
        }
    }

    private static void promise20Recorded() {
        CloudDeeds x = new CloudDeeds();
        due.thrown("no dawn", NO_ELEMENT, () -> x.recorded(0, 0));
        x.dawn();
        due.thrown("a dawn without clouds", NO_ELEMENT, () -> x.recorded(0, 0));
        x.cloud(0, 0, 1);
        x.cloud(1, 0, 2);
        x.title(1, 3);
        due.thrown("a cloud that came later", NO_ELEMENT, () -> x.recorded(0, 0));
        x.dawn();
        due.equal("recorded", x.recorded(0, 0), -1);
        due.equal("recorded", x.recorded(0, 1), 3);
        due.thrown("no such cloud", NO_ELEMENT, () -> x.recorded(0, 2));
        due.thrown("no such dawn", NO_ELEMENT, () -> x.recorded(2, 0));
        x.hail(0);
        due.equal("the number of then", x.recorded(0, 1), 3);
        x.dawn();
        due.equal("recorded", x.recorded(0, 0), 3);
        due.equal("one dawn ago", x.recorded(1, 0), -1);
        due.equal("one dawn ago", x.recorded(1, 1), 3);
        x.sell(0, 2, 0);
        x.dawn();
        x.dawn();
        due.equal("recorded", x.recorded(0, 0), 2);
        due.thrown("four dawns ago, without clouds", NO_ELEMENT, () -> x.recorded(4, 0));
        x.dawn();
        due.equal("four dawns ago", x.recorded(4, 1), 3);
        due.thrown("five dawns ago", NO_ELEMENT, () -> x.recorded(5, 0));
        for (int far : FAR) {
            due.thrown("recorded " + far, NO_ELEMENT, () -> x.recorded(far, 0));
            due.thrown("recorded 0 " + far, NO_ELEMENT, () -> x.recorded(0, far));
        }
    }

    private static void promise21And22Coins() {
        CloudDeeds x = new CloudDeeds();
        coins(x, 80);
        x.cloud(0, 0, 9);
        x.title(0, 0);
        coins(x, 71);
        x.pledge(0, 1);
        coins(x, 71);
        x.redeem(0);
        coins(x, 71);
        x.sell(0, 2, 15);
        coins(x, 71);
        x.vine(0, 2);
        x.dawn();
        coins(x, 72);
        x.dawn();
        coins(x, 73);
        x.undo();
        coins(x, 72);
    }

    private static void coins(CloudDeeds x, int want) {
        due.equal("coins", x.coins(), want);
        due.equal("coinsAgain", x.coinsAgain(), want);
    }

    private static void promise23Greatest() {
        CloudDeeds x = new CloudDeeds();
        due.thrown("greatest of none", NO_ELEMENT, () -> x.greatest(0));
        x.cloud(0, 0, 3);
        x.cloud(0, 0, 5);
        x.cloud(0, 0, 3);
        x.cloud(0, 0, 3);
        x.cloud(0, 0, 1);
        x.cloud(0, 0, 3);
        x.title(2, 0);
        x.title(5, 1);
        x.title(4, 1);
        int[] want = {1, 2, 5, 0, 3, 4};
        for (int place = 0; place < 6; place++) {
            due.equal("greatest " + place, x.greatest(place), want[place]);
        }
        due.thrown("greatest 6", NO_ELEMENT, () -> x.greatest(6));
        for (int far : FAR) {
            due.thrown("greatest " + far, NO_ELEMENT, () -> x.greatest(far));
        }
        x.hail(0);
        due.thrown("greatest 5", NO_ELEMENT, () -> x.greatest(5));
    }

    private static void promise24Ranked() {
        CloudDeeds x = new CloudDeeds();
        ranked(x, 0, 1, 2, 3);
        x.cloud(0, 0, 3);
        x.cloud(0, 0, 3);
        x.cloud(0, 0, 1);
        x.title(0, 3);
        ranked(x, 3, 0, 1, 2);
        x.title(1, 1);
        ranked(x, 1, 3, 0, 2);
        x.title(2, 2);
        ranked(x, 2, 1, 3, 0);
        x.sell(0, 2, 2);
        ranked(x, 2, 1, 0, 3);
        x.sell(0, 0, 5);
        x.sell(2, 0, 0);
        ranked(x, 0, 1, 2, 3);
        for (int far : new int[] {Integer.MIN_VALUE, -1, 4, Integer.MAX_VALUE}) {
            due.thrown("ranked " + far, NO_ELEMENT, () -> x.ranked(far));
        }
    }

    private static void ranked(CloudDeeds x, int... want) {
        for (int place = 0; place < 4; place++) {
            due.equal("ranked " + place, x.ranked(place), want[place]);
        }
    }
}

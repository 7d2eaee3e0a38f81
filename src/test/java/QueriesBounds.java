import java.util.NoSuchElementException;

/** Promises 11 to 24: the boundary cases that their sentences name. */
final class QueriesBounds {
    private static final Class<?> NO_INDEX = IndexOutOfBoundsException.class;
    private static final Class<?> NO_ELEMENT = NoSuchElementException.class;
    private static final Class<?> BAD_ARGUMENT = IllegalArgumentException.class;
    private static final int LEAST = Integer.MIN_VALUE;
    private static final int MOST = Integer.MAX_VALUE;

    private final Due due;

    QueriesBounds(Due due) {
        this.due = due;
    }

    void test() {
        due.all(this::cloudOf, this::ownerOf, this::vineyardOf, this::clouds, this::cloudsAgain, this::windTo,
            this::windToAgain, this::would, this::bestWind, this::bestWindThatIsBest, this::recorded, this::coins,
            this::coinsAgain, this::greatest, this::ranked);
    }

    /** Six clouds: 0 and 5 are pledged, to 3 and to 0; 1 has a title for another shape; 2 to 4 have none. */
    private static Desk six() {
        Desk x = new Desk();
        for (int n = 0; n < 6; n++) {
            x.cloud(5 - n, n, 1 + n);
        }
        x.title(1, 2);
        x.wind(1);
        x.title(0, 0);
        x.title(5, 3);
        x.pledge(0, 3);
        x.pledge(5, 0);
        return x;
    }

    private void cloudOf() {
        Desk x = six();
        int[][] want = {{0, 1, 1, 0, 1, 3, 3}, {5, 2, 2, 2, 1, -1, 0}, {4, 3, 3, -1, -1, -1, 0}, {3, 4, 4, -1, -1, -1, 0},
            {2, 5, 5, -1, -1, -1, 0}, {1, 0, 6, 3, 0, 0, 13}};
        due.about(11, "Returns a number of a cloud.");
        for (int cloud = 0; cloud < 6; cloud++) {
            int n = cloud;
            due.asked("cloud " + n + ", 0", x, want[n][0], d -> d.cloudOf(n, 0));
            due.asked("cloud " + n + ", 6", x, want[n][6], d -> d.cloudOf(n, 6));
        }
        due.about(11, "0 for its vineyard, 1 for its shape, 2 for its size, 3 for the owner who has the title, -1 "
            + "for none, 4 for the shape for which the title is, -1 without one, 5 for the lender, -1 if it is not "
            + "pledged, 6 for what it takes to redeem it, 0 if it is not pledged");
        for (int what = 0; what <= 6; what++) {
            int number = what;
            due.asked("pledged to 3, " + what, x, want[0][what], d -> d.cloudOf(0, number));
            due.asked("with a title for another shape, " + what, x, want[1][what], d -> d.cloudOf(1, number));
            due.asked("without a title, " + what, x, want[2][what], d -> d.cloudOf(2, number));
            due.asked("pledged to 0, " + what, x, want[5][what], d -> d.cloudOf(5, number));
        }
        due.about(11, "Returns the number.");
        for (int size = 1; size <= 9; size++) {
            Desk y = new Desk();
            y.cloud(0, 0, size);
            y.title(0, 0);
            due.asked("to redeem one that is not pledged", y, 0, d -> d.cloudOf(0, 6));
            y.pledge(0, 1);
            due.asked("to redeem one of the size " + size, y, 2 * size + 1, d -> d.cloudOf(0, 6));
            y.redeem(0);
            due.asked("to redeem one that is redeemed", y, 0, d -> d.cloudOf(0, 6));
        }
        due.about(11, "Throws `IndexOutOfBoundsException` if there is no such cloud");
        due.thrown("cloud 0 of none", new Desk(), NO_INDEX, d -> d.cloudOf(0, 0));
        for (int far : new int[] {-1, 6, LEAST, MOST}) {
            due.thrown("cloud " + far, x, NO_INDEX, d -> d.cloudOf(far, 0));
            due.thrown("cloud " + far + " and no number", x, NO_INDEX, d -> d.cloudOf(far, 7));
        }
        due.about(11, "Throws `IllegalArgumentException` if what is out of range");
        for (int far : new int[] {-1, 7, LEAST, MOST}) {
            due.thrown("cloud 0, " + far, x, BAD_ARGUMENT, d -> d.cloudOf(0, far));
            due.thrown("cloud 5, " + far, x, BAD_ARGUMENT, d -> d.cloudOf(5, far));
        }
        x.hail(4);
        x.hail(4);
        x.hail(4);
        due.about(11, "Throws `IndexOutOfBoundsException` if there is no such cloud");
        due.asked("cloud 4 of five", x, 1, d -> d.cloudOf(4, 0));
        due.thrown("cloud 5 of five", x, NO_INDEX, d -> d.cloudOf(5, 0));
    }

    private void ownerOf() {
        Desk x = six();
        x.vine(0, 3);
        x.vine(5, 3);
        x.vine(2, 0);
        int[][] want = {{9, 1, 1, 1, 1}, {20, 0, 0, 0, 0}, {18, 0, 0, 0, 2}, {24, 2, 1, 1, 6}};
        due.about(12, "Returns a number of an owner.");
        for (int owner = 0; owner <= 3; owner++) {
            int n = owner;
            due.asked("owner " + n + ", 0", x, want[n][0], d -> d.ownerOf(n, 0));
            due.asked("owner " + n + ", 4", x, want[n][4], d -> d.ownerOf(n, 4));
        }
        due.about(12, "0 for the coins, 1 for the vineyards, 2 for the clouds pledged to this one, 3 for the clouds "
            + "of this one that are pledged, 4 for the sizes of the clouds of this one, together");
        for (int what = 0; what <= 4; what++) {
            int number = what;
            for (int owner = 0; owner <= 3; owner++) {
                int n = owner;
                due.asked("owner " + n + ", " + what, x, want[n][what], d -> d.ownerOf(n, number));
            }
        }
        due.about(12, "Returns the number.");
        Desk y = new Desk();
        for (int n = 0; n < 6; n++) {
            y.cloud(0, 0, 9);
            y.vine(n, 3);
        }
        y.dawn();
        due.asked("the most vineyards", y, 6, d -> d.ownerOf(3, 1));
        due.asked("the greatest sizes", y, 54, d -> d.ownerOf(3, 4));
        due.asked("coins, 6 more", y, 26, d -> d.ownerOf(3, 0));
        y.pledge(0, 0);
        y.pledge(1, 1);
        due.asked("pledged of this one", y, 2, d -> d.ownerOf(3, 3));
        due.asked("pledged to another", y, 1, d -> d.ownerOf(1, 2));
        due.asked("pledged to this one", y, 0, d -> d.ownerOf(3, 2));
        due.about(12, "Throws `IndexOutOfBoundsException` if there is no such owner");
        for (int far : new int[] {-1, 4, LEAST, MOST}) {
            due.thrown("owner " + far, x, NO_INDEX, d -> d.ownerOf(far, 0));
            due.thrown("owner " + far + " and no number", x, NO_INDEX, d -> d.ownerOf(far, 5));
        }
        due.about(12, "Throws `IllegalArgumentException` if what is out of range");
        for (int far : new int[] {-1, 5, LEAST, MOST}) {
            due.thrown("owner 0, " + far, x, BAD_ARGUMENT, d -> d.ownerOf(0, far));
            due.thrown("owner 3, " + far, x, BAD_ARGUMENT, d -> d.ownerOf(3, far));
        }
    }

    private void vineyardOf() {
        Desk x = six();
        x.vine(0, 3);
        x.vine(5, 0);
        x.cloudOf(0, 0);
        due.about(13, "Returns a number of a vineyard.");
        int[][] want = {{3, 1, 1}, {-1, 1, 6}, {-1, 1, 5}, {-1, 1, 4}, {-1, 1, 3}, {0, 1, 2}};
        for (int vineyard = 0; vineyard <= 5; vineyard++) {
            int n = vineyard;
            due.asked("vineyard " + n + ", 0", x, want[n][0], d -> d.vineyardOf(n, 0));
            due.asked("vineyard " + n + ", 2", x, want[n][2], d -> d.vineyardOf(n, 2));
        }
        due.about(13, "0 for its owner, -1 for none, 1 for the clouds over it, 2 for their sizes together");
        for (int what = 0; what <= 2; what++) {
            int number = what;
            due.asked("vineyard 0, " + what, x, want[0][what], d -> d.vineyardOf(0, number));
            due.asked("vineyard 1, " + what, x, want[1][what], d -> d.vineyardOf(1, number));
            due.asked("vineyard 5, " + what, x, want[5][what], d -> d.vineyardOf(5, number));
        }
        due.about(13, "Returns the number.");
        Desk y = new Desk();
        due.asked("the fewest clouds", y, 0, d -> d.vineyardOf(5, 1));
        due.asked("the least sizes", y, 0, d -> d.vineyardOf(5, 2));
        for (int n = 0; n < 6; n++) {
            y.cloud(5, 0, 9);
        }
        due.asked("the most clouds", y, 6, d -> d.vineyardOf(5, 1));
        due.asked("the greatest sizes", y, 54, d -> d.vineyardOf(5, 2));
        due.asked("clouds over the one beside", y, 0, d -> d.vineyardOf(4, 1));
        y.wind(1);
        due.asked("clouds that were carried on", y, 0, d -> d.vineyardOf(5, 1));
        due.asked("clouds that were carried round", y, 6, d -> d.vineyardOf(0, 1));
        due.about(13, "Throws `IndexOutOfBoundsException` if there is no such vineyard");
        for (int far : new int[] {-1, 6, LEAST, MOST}) {
            due.thrown("vineyard " + far, x, NO_INDEX, d -> d.vineyardOf(far, 0));
            due.thrown("vineyard " + far + " and no number", x, NO_INDEX, d -> d.vineyardOf(far, 3));
        }
        due.about(13, "Throws `IllegalArgumentException` if what is out of range");
        for (int far : new int[] {-1, 3, LEAST, MOST}) {
            due.thrown("vineyard 0, " + far, x, BAD_ARGUMENT, d -> d.vineyardOf(0, far));
            due.thrown("vineyard 5, " + far, x, BAD_ARGUMENT, d -> d.vineyardOf(5, far));
        }
    }

    /** From none of the clouds to all of them, for the first and the last owner. */
    private void fromNoneToAll(java.util.function.ToIntBiFunction<Desk, Integer> told) {
        for (int owner : new int[] {0, 3}) {
            Desk x = new Desk();
            due.asked("of no clouds", x, 0, d -> told.applyAsInt(d, owner));
            for (int n = 0; n < 6; n++) {
                x.cloud(n, 0, 1);
            }
            due.asked("of none with a title", x, 0, d -> told.applyAsInt(d, owner));
            for (int n = 0; n < 6; n++) {
                x.title(n, 1);
            }
            due.asked("of six of another", x, 0, d -> told.applyAsInt(d, owner));
            due.asked("of the other", x, 6, d -> told.applyAsInt(d, 1));
            for (int n = 0; n < 6; n++) {
                x.sell(n, owner, 0);
                due.asked("of owner " + owner, x, n + 1, d -> told.applyAsInt(d, owner));
                due.asked("of the other", x, 5 - n, d -> told.applyAsInt(d, 1));
            }
            x.pledge(0, 2);
            due.asked("of a lender", x, 0, d -> told.applyAsInt(d, 2));
            due.asked("of six, one of which is pledged", x, 6, d -> told.applyAsInt(d, owner));
        }
    }

    private void clouds() {
        due.about(14, "Returns how many clouds an owner has: cloud by cloud.");
        fromNoneToAll((d, owner) -> d.clouds(owner));
        due.about(14, "Returns how many.");
        Desk x = six();
        int[] want = {1, 0, 1, 1};
        for (int owner = 0; owner <= 3; owner++) {
            int n = owner;
            due.asked("clouds of " + n, x, want[n], d -> d.clouds(n));
        }
        due.about(14, "Throws `IndexOutOfBoundsException` if there is no such owner");
        for (int far : new int[] {-1, 4, LEAST, MOST}) {
            due.thrown("owner " + far, x, NO_INDEX, d -> d.clouds(far));
            due.thrown("owner " + far + ", without clouds", new Desk(), NO_INDEX, d -> d.clouds(far));
        }
    }

    private void cloudsAgain() {
        due.about(15, "Returns the same by a second way: all clouds, less those of others, and less those of none.");
        fromNoneToAll((d, owner) -> d.cloudsAgain(owner));
        due.about(15, "Returns how many.");
        Desk x = six();
        int[] want = {1, 0, 1, 1};
        for (int owner = 0; owner <= 3; owner++) {
            int n = owner;
            due.asked("clouds of " + n, x, want[n], d -> d.cloudsAgain(n));
        }
        due.about(15, "Throws `IndexOutOfBoundsException` if there is no such owner");
        for (int far : new int[] {-1, 4, LEAST, MOST}) {
            due.thrown("owner " + far, x, NO_INDEX, d -> d.cloudsAgain(far));
            due.thrown("owner " + far + ", without clouds", new Desk(), NO_INDEX, d -> d.cloudsAgain(far));
        }
    }

    private static Desk oneOverEach() {
        Desk x = new Desk();
        for (int n = 0; n < 6; n++) {
            x.cloud(n, 0, 1);
        }
        return x;
    }

    private void windTo() {
        due.about(16, "Returns the weakest wind that would bring a cloud over a vineyard, of two such ones that "
            + "above 0: by trying.");
        Desk x = oneOverEach();
        int[] want = {0, 1, 2, 3, -2, -1};
        for (int n = 0; n < 6; n++) {
            int cloud = n;
            for (int far = 1; far <= 5; far++) {
                int vineyard = (n + far) % 6;
                due.asked("from " + n + " to " + vineyard, x, want[far], d -> d.windTo(cloud, vineyard));
                Desk y = x.again();
                y.wind(want[far]);
                due.equal("where it brings the cloud", y.cloudOf(n, 0), vineyard);
            }
        }
        due.about(16, "Returns the wind, 0 if it is there.");
        for (int n = 0; n < 6; n++) {
            int cloud = n;
            due.asked("from " + n + " to " + n, x, 0, d -> d.windTo(cloud, cloud));
        }
        due.about(16, "Throws `IndexOutOfBoundsException` if there is no such cloud, or vineyard");
        due.thrown("cloud 0 of none", new Desk(), NO_INDEX, d -> d.windTo(0, 0));
        for (int far : new int[] {-1, 6, LEAST, MOST}) {
            due.thrown("cloud " + far, x, NO_INDEX, d -> d.windTo(far, 0));
            due.thrown("vineyard " + far, x, NO_INDEX, d -> d.windTo(0, far));
            due.thrown("cloud and vineyard " + far, x, NO_INDEX, d -> d.windTo(far, far));
        }
        x.hail(2);
        due.asked("cloud 4 of five", x, 1, d -> d.windTo(4, 0));
        due.thrown("cloud 5 of five", x, NO_INDEX, d -> d.windTo(5, 0));
    }

    private void windToAgain() {
        due.about(17, "Returns the same by a second way: by how far it is in the ring.");
        Desk x = oneOverEach();
        int[] want = {0, 1, 2, 3, -2, -1};
        for (int n = 0; n < 6; n++) {
            int cloud = n;
            for (int far = 1; far <= 5; far++) {
                int vineyard = (n + far) % 6;
                due.asked("from " + n + " to " + vineyard, x, want[far], d -> d.windToAgain(cloud, vineyard));
            }
        }
        due.about(17, "Returns the wind.");
        for (int n = 0; n < 6; n++) {
            int cloud = n;
            due.asked("from " + n + " to " + n, x, 0, d -> d.windToAgain(cloud, cloud));
        }
        due.about(17, "Throws `IndexOutOfBoundsException` if there is no such cloud, or vineyard");
        due.thrown("cloud 0 of none", new Desk(), NO_INDEX, d -> d.windToAgain(0, 0));
        for (int far : new int[] {-1, 6, LEAST, MOST}) {
            due.thrown("cloud " + far, x, NO_INDEX, d -> d.windToAgain(far, 0));
            due.thrown("vineyard " + far, x, NO_INDEX, d -> d.windToAgain(0, far));
            due.thrown("cloud and vineyard " + far, x, NO_INDEX, d -> d.windToAgain(far, far));
        }
        x.hail(2);
        due.asked("cloud 4 of five", x, 1, d -> d.windToAgain(4, 0));
        due.thrown("cloud 5 of five", x, NO_INDEX, d -> d.windToAgain(5, 0));
    }

    private void would() {
        due.about(18, "Returns how many clouds an owner would have if a wind blew and it dawned then.");
        Desk x = six();
        x.vine(0, 3);
        x.vine(1, 0);
        x.vine(3, 1);
        for (int owner = 0; owner <= 3; owner++) {
            for (int wind = -3; wind <= 3; wind++) {
                Desk y = x.again();
                if (wind != 0) {
                    y.wind(wind);
                }
                y.dawn();
                int n = owner;
                int strength = wind;
                due.asked("owner " + n + ", wind " + wind, x, y.clouds(owner), d -> d.would(n, strength));
            }
        }
        due.about(18, "the wind, -3 to 3, 0 for none");
        int[] want = {2, 0, 0, 1, 0, 0, 2};
        Desk y = new Desk();
        y.cloud(0, 0, 1);
        y.cloud(3, 0, 1);
        y.vine(3, 0);
        y.title(1, 1);
        y.vine(0, 0);
        for (int wind = -3; wind <= 3; wind++) {
            int strength = wind;
            due.asked("the wind " + wind, y, want[wind + 3], d -> d.would(0, strength));
        }
        due.about(18, "Returns how many.");
        due.asked("none of none", new Desk(), 0, d -> d.would(0, 0));
        Desk all = TermsBounds.withCoins(3, 20);
        due.asked("all", all, 6, d -> d.would(3, 0));
        due.asked("none", all, 0, d -> d.would(3, 3));
        due.asked("none of another", all, 0, d -> d.would(0, -3));
        due.about(18, "Throws `IndexOutOfBoundsException` if there is no such owner");
        for (int far : new int[] {-1, 4, LEAST, MOST}) {
            due.thrown("owner " + far, x, NO_INDEX, d -> d.would(far, 0));
            due.thrown("owner " + far + " and no wind", x, NO_INDEX, d -> d.would(far, 4));
        }
        due.about(18, "Throws `IllegalArgumentException` if the wind is out of range");
        for (int far : new int[] {-4, 4, LEAST, MOST}) {
            due.thrown("owner 0, wind " + far, x, BAD_ARGUMENT, d -> d.would(0, far));
            due.thrown("owner 3, wind " + far, x, BAD_ARGUMENT, d -> d.would(3, far));
        }
    }

    private void bestWind() {
        due.about(19, "Returns the wind by which an owner would have the most clouds if it blew and it dawned then, "
            + "of several the lowest.");
        due.asked("all winds alike, without clouds", new Desk(), -3, d -> d.bestWind(0));
        for (int owner = 0; owner <= 3; owner++) {
            int n = owner;
            Desk x = six();
            x.vine(0, 3);
            x.vine(1, 0);
            x.vine(3, 1);
            int best = -3;
            for (int wind = -2; wind <= 3; wind++) {
                best = x.would(n, wind) > x.would(n, best) ? wind : best;
            }
            due.asked("owner " + n, x, best, d -> d.bestWind(n));
        }
        Desk x = oneOverEach();
        x.vine(2, 1);
        due.asked("all winds alike, with one cloud each", x, -3, d -> d.bestWind(1));
        due.about(19, "Returns the wind, -3 to 3, 0 for none.");
        for (int wind = -3; wind <= 2; wind++) {
            Desk y = new Desk();
            y.cloud(3, 0, 1);
            y.vine(3 + wind, 3);
            int want = wind;
            due.asked("a vineyard " + wind + " further", y, want, d -> d.bestWind(3));
        }
        Desk y = new Desk();
        y.cloud(0, 0, 1);
        y.vine(3, 0);
        due.asked("a vineyard 3 further, which the wind -3 reaches too", y, -3, d -> d.bestWind(0));
        due.about(19, "Throws `IndexOutOfBoundsException` if there is no such owner");
        for (int far : new int[] {-1, 4, LEAST, MOST}) {
            due.thrown("owner " + far, x, NO_INDEX, d -> d.bestWind(far));
            due.thrown("owner " + far + ", without clouds", new Desk(), NO_INDEX, d -> d.bestWind(far));
        }
    }

    private void bestWindThatIsBest() {
        due.about(19, "Returns the wind by which an owner would have the most clouds if it blew and it dawned then, "
            + "of several the lowest.");
        Desk x = new Desk();
        x.cloud(0, 0, 1);
        x.cloud(0, 0, 1);
        x.cloud(3, 0, 1);
        x.vine(2, 2);
        due.asked("two by the wind 2, one by -1", x, 2, d -> d.bestWind(2));
        x.cloud(3, 0, 1);
        due.asked("two by each", x, -1, d -> d.bestWind(2));
        x.title(0, 2);
        x.title(1, 2);
        x.title(2, 2);
        due.asked("three without a wind", x, 0, d -> d.bestWind(2));
        x.vine(5, 2);
        x.vine(4, 2);
        due.asked("three without a wind, four by -1 and by 2", x, -1, d -> d.bestWind(2));
    }

    private void recorded() {
        Desk x = new Desk();
        due.about(20, "Throws `NoSuchElementException` if there is no such dawn, or there was no such cloud");
        due.thrown("ahead of the first dawn", x, NO_ELEMENT, d -> d.recorded(0, 0));
        x.dawn();
        due.thrown("a cloud of a dawn without clouds", x, NO_ELEMENT, d -> d.recorded(0, 0));
        for (int n = 0; n < 6; n++) {
            x.cloud(n, 0, n == 0 ? 1 : 2);
            if (n % 2 == 0) {
                x.title(n, n == 0 ? 3 : n / 2 - 1);
            }
        }
        due.thrown("a cloud that came since the dawn", x, NO_ELEMENT, d -> d.recorded(0, 0));
        x.dawn();
        due.about(20, "Returns the owner, -1 for none.");
        int[] want = {3, -1, 0, -1, 1, -1};
        for (int n = 0; n < 6; n++) {
            int cloud = n;
            due.asked("cloud " + n, x, want[n], d -> d.recorded(0, cloud));
        }
        due.about(20, "Returns the owner that a cloud had at a dawn that is kept, by the number that it had then.");
        x.hail(0);
        x.sell(1, 3, 0);
        due.asked("clouds now", x, 5, d -> d.account(0));
        for (int n = 0; n < 6; n++) {
            int cloud = n;
            due.asked("the number " + n + " of then", x, want[n], d -> d.recorded(0, cloud));
        }
        x.dawn();
        due.asked("the number 1 of now, 2 of then", x, 3, d -> d.recorded(0, 1));
        due.about(20, "how many dawns ago, from 0 for the latest one");
        due.asked("0 ago", x, -1, d -> d.recorded(0, 0));
        due.asked("1 ago", x, 3, d -> d.recorded(1, 0));
        due.thrown("2 ago, without clouds", x, NO_ELEMENT, d -> d.recorded(2, 0));
        x.title(0, 2);
        x.dawn();
        x.dawn();
        due.asked("3 ago", x, 3, d -> d.recorded(3, 0));
        due.asked("1 ago", x, 2, d -> d.recorded(1, 0));
        x.dawn();
        due.asked("4 ago", x, 3, d -> d.recorded(4, 0));
        due.asked("4 ago, the last cloud", x, -1, d -> d.recorded(4, 5));
        due.about(20, "Throws `NoSuchElementException` if there is no such dawn, or there was no such cloud");
        due.asked("the last of five clouds", x, -1, d -> d.recorded(0, 4));
        due.thrown("5 ago", x, NO_ELEMENT, d -> d.recorded(5, 0));
        due.thrown("the sixth of five clouds", x, NO_ELEMENT, d -> d.recorded(0, 5));
        for (int far : new int[] {-1, 6, LEAST, MOST}) {
            due.thrown("the dawn " + far, x, NO_ELEMENT, d -> d.recorded(far, 0));
            due.thrown("the cloud " + far, x, NO_ELEMENT, d -> d.recorded(4, far));
            due.thrown("the cloud " + far, x, NO_ELEMENT, d -> d.recorded(0, far));
            due.thrown("the dawn and the cloud " + far, x, NO_ELEMENT, d -> d.recorded(far, far));
        }
    }

    /** The coins of all, from those at first to none, and up again. */
    private void fromFirstToNone(Due.Ask told) {
        Desk x = new Desk();
        due.asked("at first", x, 80, told);
        int left = 80;
        for (int owner = 0; owner <= 3; owner++) {
            for (int size : new int[] {9, 9, 2}) {
                x.title(x.cloud(0, 0, size), owner);
                left -= size;
                due.asked("when the office got " + (80 - left), x, left, told);
            }
            for (int n = 0; owner == 1 && n < 9; n++) {
                x.hail(0);
            }
        }
        due.asked("none", x, 0, told);
        x.vine(0, 3);
        x.dawn();
        due.asked("after a dawn that paid 3", x, 3, told);
        x.sell(0, 3, 3);
        due.asked("after a sale", x, 3, told);
        x.dawn();
        due.asked("after a dawn that paid 4", x, 7, told);
        x.undo();
        due.asked("after that was undone", x, 3, told);
        x.wind(1);
        x.dawn();
        due.asked("after a dawn that paid none", x, 3, told);
    }

    private void amongOwners(Due.Ask told) {
        Desk x = new Desk();
        x.cloud(0, 0, 9);
        x.title(0, 0);
        x.save();
        x.pledge(0, 3);
        due.asked("after a pledge", x, 71, told);
        x.redeem(0);
        due.asked("after it was redeemed", x, 71, told);
        x.pledge(0, 3);
        x.hail(0);
        due.asked("after it was foreclosed", x, 71, told);
        x.sell(0, 1, 20);
        due.asked("after a sale", x, 71, told);
        x.vine(0, 1);
        x.dawn();
        due.asked("after a dawn", x, 72, told);
        x.restore();
        due.asked("restored", x, 71, told);
        due.asked("more than 80", TermsBounds.withCoins(0, 140), 200, told);
    }

    private void coins() {
        due.about(21, "Returns the coins of all owners: owner by owner.");
        fromFirstToNone(Desk::coins);
        due.about(21, "Returns the coins.");
        amongOwners(Desk::coins);
    }

    private void coinsAgain() {
        due.about(22, "Returns the same by a second way: by those at first, what was paid at dawns so far, and what "
            + "the office got.");
        fromFirstToNone(Desk::coinsAgain);
        due.about(22, "Returns the coins.");
        amongOwners(Desk::coinsAgain);
    }

    private void isGreatest(Desk x, int... want) {
        for (int n = 0; n < want.length; n++) {
            int place = n;
            due.asked("place " + n, x, want[n], d -> d.greatest(place));
        }
        due.thrown("no place any more", x, NO_ELEMENT, d -> d.greatest(want.length));
    }

    private void greatest() {
        due.about(23, "Returns a cloud by its size: the greatest first, of several one with a title ahead of one "
            + "without, then the lowest.");
        Desk x = new Desk();
        for (int n = 0; n < 6; n++) {
            x.cloud(5 - n, n, 2);
        }
        isGreatest(x, 0, 1, 2, 3, 4, 5);
        x.title(5, 3);
        isGreatest(x, 5, 0, 1, 2, 3, 4);
        x.title(3, 0);
        isGreatest(x, 3, 5, 0, 1, 2, 4);
        x.hail(0);
        isGreatest(x, 3, 0, 1, 2, 4, 5);
        x.hail(5);
        isGreatest(x, 3, 1, 2, 4, 5, 0);
        x.hail(5);
        isGreatest(x, 2, 0, 1, 3, 4);
        Desk y = new Desk();
        y.cloud(0, 0, 1);
        y.cloud(0, 0, 9);
        y.cloud(0, 0, 8);
        y.title(2, 0);
        isGreatest(y, 1, 2, 0);
        y.title(1, 1);
        y.title(0, 1);
        isGreatest(y, 1, 2, 0);
        due.about(23, "Returns the cloud.");
        Desk z = new Desk();
        for (int n = 1; n <= 6; n++) {
            z.cloud(0, 0, n);
            int last = n - 1;
            due.asked("the greatest, which came last", z, last, d -> d.greatest(0));
            due.asked("the least, which came first", z, 0, d -> d.greatest(last));
        }
        due.about(23, "the place in this order, from 0");
        isGreatest(z, 5, 4, 3, 2, 1, 0);
        due.about(23, "Throws `NoSuchElementException` if there is no such place");
        Desk v = new Desk();
        for (int n = 0; n <= 6; n++) {
            for (int far : new int[] {-1, n, LEAST, MOST}) {
                due.thrown("place " + far + " of " + n, v, NO_ELEMENT, d -> d.greatest(far));
            }
            if (n < 6) {
                v.cloud(0, 0, 1);
                int last = n;
                due.asked("the last place", v, last, d -> d.greatest(last));
            }
        }
    }

    private void isRanked(Desk x, int... want) {
        for (int n = 0; n < 4; n++) {
            int place = n;
            due.asked("place " + n, x, want[n], d -> d.ranked(place));
        }
    }

    private void ranked() {
        due.about(24, "Returns an owner by clouds: the most first, of several the one with more coins, then the "
            + "lowest.");
        Desk x = new Desk();
        isRanked(x, 0, 1, 2, 3);
        x.cloud(0, 0, 1);
        x.cloud(0, 0, 1);
        x.cloud(0, 0, 9);
        x.title(0, 3);
        isRanked(x, 3, 0, 1, 2);
        x.title(1, 2);
        isRanked(x, 2, 3, 0, 1);
        x.sell(0, 2, 0);
        isRanked(x, 2, 0, 1, 3);
        x.sell(0, 0, 1);
        isRanked(x, 2, 0, 1, 3);
        x.sell(0, 3, 5);
        isRanked(x, 2, 3, 0, 1);
        x.title(2, 0);
        isRanked(x, 2, 0, 3, 1);
        due.about(24, "Returns the owner.");
        for (int owner = 0; owner <= 3; owner++) {
            int n = owner;
            Desk y = new Desk();
            y.cloud(0, 0, 9);
            y.title(0, n);
            due.asked("the one with a cloud", y, n, d -> d.ranked(0));
            y.hail(0);
            y.undo();
            y.sell(0, (n + 1) % 4, 0);
            due.asked("the one with the fewest coins of those without", y, n, d -> d.ranked(3));
        }
        due.about(24, "the place in this order, from 0");
        isRanked(new Desk(), 0, 1, 2, 3);
        due.about(24, "Throws `NoSuchElementException` if there is no such place");
        for (int far : new int[] {-1, 4, LEAST, MOST}) {
            due.thrown("place " + far, x, NO_ELEMENT, d -> d.ranked(far));
            due.thrown("place " + far + " at first", new Desk(), NO_ELEMENT, d -> d.ranked(far));
        }
    }
}

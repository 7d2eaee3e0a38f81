/** "Terms", up to the dawns: the boundary cases that its sentences name. */
final class TermsBounds {
    private static final Class<?> NO_INDEX = IndexOutOfBoundsException.class;
    private static final Class<?> NO_ELEMENT = java.util.NoSuchElementException.class;

    private final Due due;

    TermsBounds(Due due) {
        this.due = due;
    }

    void test() {
        due.all(this::oneOwner, this::wholeNumbers, this::owners, this::coinsFromZeroOn, this::vineyards,
            this::atMostSixClouds, this::numbersBecomeLess, this::shapesAndSizes, this::titleOrNone,
            this::titlesArePaid, this::sales, this::pledges, this::redeeming, this::pledgedIsNotSold, this::winds,
            this::windsCarry, this::hailOnOneVineyard, this::hailForecloses, this::hailTakesSizes, this::dawnLapses,
            this::dawnClaims, this::dawnPays, this::dawnRecords);
    }

    private void oneOwner() {
        due.about(0, "A cloud has one owner at dawn.");
        Desk x = new Desk();
        for (int n = 0; n < 6; n++) {
            x.cloud(n, 0, 1);
        }
        x.vine(0, 2);
        x.vine(1, 2);
        x.vine(3, 1);
        x.title(0, 1);
        x.title(3, 0);
        x.title(5, 0);
        x.pledge(3, 2);
        x.dawn();
        due.equal("owners at the dawn", Deeds.dawnLine(x, 0), "12-0-0");
        for (int n = 0; n < 6; n++) {
            due.equal("the owner of " + n + " as recorded", x.recorded(0, n), x.cloudOf(n, 3));
        }
        due.equal("clouds of all", x.clouds(0) + x.clouds(1) + x.clouds(2) + x.clouds(3), 4);
    }

    private void wholeNumbers() {
        due.about(0, "All numbers are whole, but two; divisions are rounded down.");
        Desk x = new Desk();
        x.cloud(0, 0, 1);
        x.cloud(0, 5, 2);
        x.title(1, 0);
        due.same("the first number that is not whole", x.meanSize(), 1.5);
        due.same("the second number that is not whole", x.titledShare(), 0.5f);
        x.wind(-1);
        due.equal("what is left of -1 by 6", x.cloudOf(0, 0), 5);
        due.equal("what is left of 6 by 6", x.cloudOf(1, 1), 0);
        x.wind(-3);
        x.wind(-3);
        due.equal("what is left of -1 by 6, again", x.cloudOf(0, 0), 5);
        due.equal("windToAgain over half of the ring", x.windToAgain(0, 2), 3);
        due.equal("windToAgain over more than half of the ring", x.windToAgain(0, 3), -2);
    }

    private void owners() {
        due.about(0, "There are the owners 0 to 3, each with coins, at first 20, which can be any number from 0 on.");
        Desk x = new Desk();
        x.cloud(0, 0, 1);
        x.cloud(0, 0, 1);
        for (int owner = 0; owner <= 3; owner++) {
            int n = owner;
            due.asked("coins at first of " + n, x, 20, d -> d.ownerOf(n, 0));
        }
        due.equal("title to 0", x.title(0, 0), 19);
        due.equal("title to 3", x.title(1, 3), 19);
        due.equal("sell to 3", x.sell(0, 3, 0), 19);
        due.equal("sell to 0", x.sell(0, 0, 0), 19);
        due.equal("pledge to 3", x.pledge(0, 3), 2);
        due.equal("pledge to 0", x.pledge(1, 0), 2);
        due.equal("vine to 0", x.vine(0, 0), 1);
        due.equal("vine to 3", x.vine(0, 3), 1);
        for (int owner : new int[] {-1, 4, Integer.MIN_VALUE, Integer.MAX_VALUE}) {
            due.thrown("the coins of owner " + owner, x, NO_INDEX, d -> d.ownerOf(owner, 0));
            due.refused("title to " + owner, x, 2, owner, d -> d.title(0, owner));
            due.refused("sell to " + owner, x, 2, owner, d -> d.sell(0, owner, 0));
            due.refused("pledge to " + owner, x, 2, owner, d -> d.pledge(0, owner));
        }
        due.refused("vine to 4", x, 2, 4, d -> d.vine(0, 4));
        due.refused("vine to -2", x, 2, -2, d -> d.vine(0, -2));
    }

    private void coinsFromZeroOn() {
        Desk x = new Desk();
        x.cloud(0, 0, 9);
        x.cloud(0, 0, 9);
        x.cloud(0, 0, 2);
        x.cloud(0, 0, 1);
        x.title(0, 2);
        x.title(1, 2);
        due.equal("coins, down to 0", x.title(2, 2), 0);
        due.asked("coins of one without any", x, 0, d -> d.ownerOf(2, 0));
        due.refused("a coin that is not there", x, 7, 0, d -> d.title(3, 2));
        due.equal("for 0 coins to one without any", x.sell(0, 1, 0), 0);
        due.equal("for 0 coins from one without any", x.sell(0, 2, 0), 20);
        Desk y = withCoins(0, 104);
        due.asked("more coins than a sale takes", y, 104, d -> d.ownerOf(0, 0));
        for (int n = 0; n < 6; n++) {
            y.dawn();
        }
        due.asked("coins above 127", y, 140, d -> d.ownerOf(0, 0));
        due.asked("coins of all", y, 200, Desk::coins);
    }

    /** Six clouds of the size 1 over vineyard 0, all of one owner, who got 6 coins at each dawn: 20, 26, 32, .. */
    static Desk withCoins(int owner, int coins) {
        Desk x = new Desk();
        for (int n = 0; n < 6; n++) {
            x.cloud(0, 0, 1);
        }
        x.vine(0, owner);
        for (int n = 20; n < coins; n += 6) {
            x.dawn();
        }
        return x;
    }

    private void vineyards() {
        due.about(0, "There are the vineyards 0 to 5 in a ring, where 0 follows 5; each belongs to an owner, or to "
            + "none, as at first.");
        Desk x = new Desk();
        for (int vineyard = 0; vineyard <= 5; vineyard++) {
            int n = vineyard;
            due.asked("owner at first of " + n, x, -1, d -> d.vineyardOf(n, 0));
            due.refused("none at first has " + n, x, 4, -1, d -> d.vine(n, -1));
            due.equal("vine " + n, x.vine(n, n % 4), n + 1);
            due.asked("owner then of " + n, x, n % 4, d -> d.vineyardOf(n, 0));
        }
        for (int vineyard = 0; vineyard <= 5; vineyard++) {
            due.equal("back to none", x.vine(vineyard, -1), 5 - vineyard);
            due.equal("owner of " + vineyard, x.vineyardOf(vineyard, 0), -1);
        }
        due.equal("over 0", x.cloud(0, 0, 1), 0);
        due.equal("over 5", x.cloud(5, 0, 1), 1);
        x.wind(1);
        due.equal("0 follows 5", x.cloudOf(1, 0), 0);
        due.equal("1 follows 0", x.cloudOf(0, 0), 1);
        x.wind(-2);
        due.equal("5 goes ahead of 0", x.cloudOf(0, 0), 5);
        due.equal("4 goes ahead of 5", x.cloudOf(1, 0), 4);
        due.asked("from 5 to 0", x, 1, d -> d.windTo(0, 0));
        for (int vineyard : new int[] {-1, 6, Integer.MIN_VALUE, Integer.MAX_VALUE}) {
            due.thrown("vineyardOf " + vineyard, x, NO_INDEX, d -> d.vineyardOf(vineyard, 0));
            due.thrown("windTo " + vineyard, x, NO_INDEX, d -> d.windTo(0, vineyard));
            due.refused("cloud over " + vineyard, x, 2, vineyard, d -> d.cloud(vineyard, 0, 1));
            due.refused("vine " + vineyard, x, 2, vineyard, d -> d.vine(vineyard, 0));
            due.refused("hail on " + vineyard, x, 2, vineyard, d -> d.hail(vineyard));
        }
    }

    private void atMostSixClouds() {
        due.about(0, "At most 6 clouds are there, numbered from 0; when one is gone, the numbers of the later ones "
            + "become 1 less.");
        Desk x = new Desk();
        due.asked("clouds at first", x, 0, d -> d.account(0));
        due.thrown("cloud 0 at first", x, NO_INDEX, d -> d.cloudOf(0, 0));
        for (int n = 0; n < 6; n++) {
            int number = n;
            due.equal("the number of a cloud", x.cloud(n, n, n + 1), n);
            due.asked("the vineyard of " + n, x, n, d -> d.cloudOf(number, 0));
            due.thrown("a cloud later than " + n, x, NO_INDEX, d -> d.cloudOf(number + 1, 0));
        }
        due.refused("a seventh cloud", x, 1, 6, d -> d.cloud(0, 0, 1));
        due.refusedText("cloud 0 0 1", x, 0, 1, 6);
        due.asked("clouds, all there can be", x, 6, d -> d.account(0));
        x.hail(0);
        due.asked("clouds when one is gone", x, 5, d -> d.account(0));
        due.thrown("the number that is free again", x, NO_INDEX, d -> d.cloudOf(5, 0));
        due.equal("room for one again", x.cloud(3, 1, 9), 5);
        due.refused("a seventh cloud again", x, 1, 6, d -> d.cloud(0, 0, 1));
    }

    private void numbersBecomeLess() {
        for (int gone = 0; gone < 6; gone++) {
            Desk x = sixOfWhichOneIsSmall(gone);
            String[] before = new String[6];
            for (int n = 0; n < 6; n++) {
                before[n] = Deeds.line(x, n).substring(1);
            }
            due.equal("hail on " + gone, x.hail((gone + 1) % 6), 0);
            due.equal("clouds without " + gone, x.account(0), 5);
            for (int n = 0; n < 5; n++) {
                String want = n + before[n < gone ? n : n + 1];
                due.equal("cloud " + n + " when " + gone + " is gone", Deeds.line(x, n), want);
            }
            due.equal("to redeem the last one", x.cloudOf(4, 6), 9);
        }
        Desk x = new Desk();
        for (int n = 0; n < 6; n++) {
            x.cloud(4, n, n == 1 || n == 4 ? 2 : 1);
        }
        x.hail(4);
        due.equal("clouds of which four are gone", x.account(0), 2);
        due.equal("the first that is left", Deeds.line(x, 0), "0@4:1/1");
        due.equal("the second that is left", Deeds.line(x, 1), "1@4:4/1");
        x.hail(4);
        due.equal("clouds of which all are gone", x.account(0), 0);
        due.equal("a number from 0 again", x.cloud(1, 2, 3), 0);
        due.equal("its line", Deeds.line(x, 0), "0@1:2/3");
    }

    /** Cloud n is over the vineyard after n; each has a title for another shape; the last of the others is pledged. */
    private static Desk sixOfWhichOneIsSmall(int small) {
        Desk x = new Desk();
        for (int n = 0; n < 6; n++) {
            x.cloud(n, n, n == small ? 1 : 4);
            x.title(n, n % 4);
        }
        x.pledge(small == 5 ? 4 : 5, 3);
        x.wind(1);
        return x;
    }

    private void shapesAndSizes() {
        due.about(0, "A cloud has a shape from 0 to 5, a size from 1 to 9, and is over a vineyard.");
        for (int shape = 0; shape <= 5; shape++) {
            Desk x = new Desk();
            x.cloud(0, shape, 1);
            due.asked("the shape", x, shape, d -> d.cloudOf(0, 1));
        }
        for (int size = 1; size <= 9; size++) {
            Desk x = new Desk();
            x.cloud(5, 0, size);
            due.asked("the size", x, size, d -> d.cloudOf(0, 2));
            due.asked("the vineyard", x, 5, d -> d.cloudOf(0, 0));
        }
        Desk x = new Desk();
        for (int shape : new int[] {-1, 6, Integer.MIN_VALUE, Integer.MAX_VALUE}) {
            due.refused("the shape " + shape, x, 3, shape, d -> d.cloud(0, shape, 1));
        }
        for (int size : new int[] {0, 10, -1, Integer.MIN_VALUE, Integer.MAX_VALUE}) {
            due.refused("the size " + size, x, 3, size, d -> d.cloud(0, 0, size));
        }
    }

    private void titleOrNone() {
        due.about(0, "It has a title, or none, as at first: a title tells an owner, and the shape that the cloud "
            + "had as it got the title.");
        Desk x = new Desk();
        x.cloud(0, 5, 1);
        due.asked("the owner at first", x, -1, d -> d.cloudOf(0, 3));
        due.asked("the shape of the title at first", x, -1, d -> d.cloudOf(0, 4));
        due.equal("a title", x.title(0, 0), 19);
        due.asked("the owner", x, 0, d -> d.cloudOf(0, 3));
        due.asked("the shape of the title", x, 5, d -> d.cloudOf(0, 4));
        x.wind(1);
        due.asked("the shape, which is another one", x, 0, d -> d.cloudOf(0, 1));
        due.asked("the shape of the title, as it got it", x, 5, d -> d.cloudOf(0, 4));
        x.dawn();
        due.asked("the owner, when it has lapsed", x, -1, d -> d.cloudOf(0, 3));
        due.asked("the shape of the title, when it has lapsed", x, -1, d -> d.cloudOf(0, 4));
        due.equal("a title again", x.title(0, 3), 19);
        due.asked("the shape of the title 0", x, 0, d -> d.cloudOf(0, 4));
    }

    private void titlesArePaid() {
        due.about(0, "For a title an owner pays as many coins to the office as the size of the cloud.");
        for (int size = 1; size <= 9; size++) {
            Desk x = new Desk();
            x.cloud(0, 0, size);
            due.equal("coins after a title of the size " + size, x.title(0, 3), 20 - size);
            due.asked("coins of the office", x, size, d -> d.account(9));
            due.asked("coins of all", x, 80 - size, Desk::coins);
            due.asked("coins of another", x, 20, d -> d.ownerOf(0, 0));
        }
        Desk x = new Desk();
        x.cloud(0, 0, 9);
        x.cloud(0, 0, 6);
        x.cloud(0, 0, 5);
        x.title(0, 3);
        x.sell(0, 1, 0);
        x.cloud(0, 0, 6);
        due.equal("coins for all but 5", x.title(1, 3), 5);
        due.refused("one coin too few", x, 7, 5, d -> d.title(3, 3));
        due.equal("just the coins", x.title(2, 3), 0);
        due.asked("coins of the office", x, 20, d -> d.account(9));
    }

    private void sales() {
        due.about(0, "A cloud with a title can be sold to another owner for some coins, who then has the title, for "
            + "the shape that the cloud has then.");
        Desk x = new Desk();
        x.cloud(0, 5, 1);
        due.refused("sell without a title", x, 6, 0, d -> d.sell(0, 1, 0));
        x.title(0, 0);
        due.refused("sell to the owner", x, 4, 0, d -> d.sell(0, 0, 1));
        x.wind(-1);
        due.equal("sell for all coins", x.sell(0, 3, 20), 39);
        due.asked("coins of the one who paid", x, 0, d -> d.ownerOf(3, 0));
        due.asked("who has the title", x, 3, d -> d.cloudOf(0, 3));
        due.asked("the shape of the title, round the ring", x, 0, d -> d.cloudOf(0, 4));
        due.equal("sell for nothing", x.sell(0, 0, 0), 0);
        due.asked("who has the title", x, 0, d -> d.cloudOf(0, 3));
        due.asked("coins of the office, which gets none", x, 1, d -> d.account(9));
    }

    private void pledges() {
        due.about(0, "A cloud with a title can be pledged to another owner, the lender, who pays 2 coins for each "
            + "of its size to its owner.");
        for (int size = 1; size <= 9; size++) {
            Desk x = new Desk();
            x.cloud(0, 0, size);
            x.title(0, 3);
            due.equal("what a lender pays for the size " + size, x.pledge(0, 0), 2 * size);
            due.asked("coins of the lender", x, 20 - 2 * size, d -> d.ownerOf(0, 0));
            due.asked("coins of the owner", x, 20 + size, d -> d.ownerOf(3, 0));
            due.asked("the lender", x, 0, d -> d.cloudOf(0, 5));
            due.asked("the owner, who still has it", x, 3, d -> d.cloudOf(0, 3));
        }
        Desk x = new Desk();
        x.cloud(0, 0, 9);
        x.cloud(0, 0, 1);
        x.cloud(0, 0, 1);
        due.refused("pledge without a title", x, 6, 0, d -> d.pledge(0, 1));
        x.title(0, 0);
        x.title(1, 0);
        x.title(2, 0);
        due.refused("pledge to the owner", x, 4, 0, d -> d.pledge(0, 0));
        due.equal("pledge", x.pledge(0, 1), 18);
        due.equal("pledge for the last 2 coins", x.pledge(1, 1), 2);
        due.refused("pledge to one without a coin", x, 7, 0, d -> d.pledge(2, 1));
        x.sell(2, 2, 1);
        x.sell(2, 1, 0);
        due.equal("1 coin", x.sell(2, 0, 1), 1);
        due.refused("pledge to one with one coin too few", x, 7, 1, d -> d.pledge(2, 1));
    }

    private void redeeming() {
        due.about(0, "To redeem it, its owner pays as many coins as that, and 1 more, to the lender; what is paid "
            + "goes by the size that the cloud had as it was pledged.");
        for (int size = 1; size <= 9; size++) {
            Desk x = new Desk();
            x.cloud(0, 0, size);
            x.title(0, 3);
            x.pledge(0, 0);
            due.asked("what it takes to redeem the size " + size, x, 2 * size + 1, d -> d.cloudOf(0, 6));
            due.equal("what the owner pays for the size " + size, x.redeem(0), 2 * size + 1);
            due.asked("coins of the lender", x, 21, d -> d.ownerOf(0, 0));
            due.asked("coins of the owner", x, 19 - size, d -> d.ownerOf(3, 0));
        }
        Desk x = new Desk();
        x.cloud(0, 0, 5);
        x.cloud(1, 0, 9);
        x.title(0, 0);
        x.hail(0);
        x.pledge(0, 1);
        x.hail(1);
        x.wind(1);
        x.wind(-1);
        due.asked("what it takes after hail ahead of the pledge", x, 9, d -> d.cloudOf(0, 6));
        x.title(1, 2);
        x.sell(1, 0, 15);
        due.refused("one coin too few", x, 7, 8, d -> d.redeem(0));
        x.sell(1, 3, 1);
        due.equal("just the coins", x.redeem(0), 9);
        due.asked("coins of the owner", x, 0, d -> d.ownerOf(0, 0));
        due.asked("coins of the lender", x, 21, d -> d.ownerOf(1, 0));
    }

    private void pledgedIsNotSold() {
        due.about(0, "A pledged cloud is not sold.");
        Desk x = new Desk();
        x.cloud(0, 0, 1);
        x.title(0, 0);
        x.pledge(0, 3);
        due.refused("sell a pledged cloud", x, 8, 3, d -> d.sell(0, 1, 0));
        due.refused("sell a pledged cloud to the lender", x, 8, 3, d -> d.sell(0, 3, 0));
        due.refused("pledge a pledged cloud", x, 8, 3, d -> d.pledge(0, 1));
        x.redeem(0);
        due.equal("sell when it is redeemed", x.sell(0, 3, 0), 18);
        x.pledge(0, 0);
        due.refused("sell a cloud pledged to 0", x, 8, 0, d -> d.sell(0, 1, 0));
        x.hail(0);
        due.equal("sell when it is foreclosed", x.sell(0, 1, 0), 16);
    }

    private void winds() {
        due.about(0, "A wind goes from -3 to 3, but is not 0.");
        Desk x = new Desk();
        x.cloud(0, 0, 1);
        for (int wind : new int[] {-3, -2, -1, 1, 2, 3}) {
            due.equal("wind " + wind, x.wind(wind), 0);
        }
        for (int wind : new int[] {-4, 0, 4, Integer.MIN_VALUE, Integer.MAX_VALUE}) {
            due.refused("wind " + wind, x, 3, wind, d -> d.wind(wind));
        }
        due.equal("its line", Deeds.line(x, 0), "0@0:0/1");
    }

    private void windsCarry() {
        due.about(0, "It carries each cloud over so many vineyards further in the ring, or back if it is below 0; "
            + "and the number of the shape of each becomes more by as many as the wind is strong, whatever its "
            + "side, where 0 follows 5.");
        for (int wind = -3; wind <= 3; wind++) {
            Desk x = new Desk();
            for (int n = 0; n < 6; n++) {
                x.cloud(n, 5 - n, 1 + n);
            }
            if (wind != 0) {
                x.wind(wind);
            }
            for (int n = 0; n < 6; n++) {
                int strength = wind < 0 ? -wind : wind;
                String want = n + "@" + (n + wind + 6) % 6 + ":" + (5 - n + strength) % 6 + "/" + (1 + n);
                due.equal("the wind " + wind, Deeds.line(x, n), want);
            }
        }
    }

    private void hailOnOneVineyard() {
        due.about(0, "Hail comes down on a vineyard.");
        for (int vineyard = 0; vineyard <= 5; vineyard++) {
            Desk x = new Desk();
            for (int n = 0; n < 6; n++) {
                x.cloud(n, 0, 2);
            }
            due.equal("hail on " + vineyard, x.hail(vineyard), 0);
            for (int n = 0; n < 6; n++) {
                due.equal("size of " + n + " after hail on " + vineyard, x.cloudOf(n, 2), n == vineyard ? 1 : 2);
            }
        }
        Desk x = new Desk();
        x.cloud(0, 0, 1);
        x.cloud(5, 0, 1);
        due.equal("hail on a vineyard without clouds", x.hail(3), 0);
        due.asked("clouds", x, 2, d -> d.account(0));
        due.refused("hail on -1", x, 2, -1, d -> d.hail(-1));
        due.refused("hail on 6", x, 2, 6, d -> d.hail(6));
    }

    private void hailForecloses() {
        due.about(0, "Each cloud over it that is pledged is foreclosed: the lender has the title then, for the "
            + "shape that the cloud has, and the pledge is over.");
        Desk x = new Desk();
        x.cloud(5, 5, 1);
        x.cloud(5, 0, 9);
        x.cloud(4, 0, 1);
        x.title(0, 0);
        x.title(1, 3);
        x.title(2, 3);
        x.pledge(0, 3);
        x.pledge(1, 0);
        x.pledge(2, 0);
        x.wind(1);
        due.equal("foreclosed", x.hail(0), 2);
        due.equal("one of the size 1", Deeds.line(x, 0), "0@0:0/1=3");
        due.equal("one of the size 9", Deeds.line(x, 1), "1@0:1/9=0");
        due.equal("one over the vineyard ahead", Deeds.line(x, 2), "2@5:1/1=3?*0");
        due.asked("the shape of the title", x, 0, d -> d.cloudOf(0, 4));
        due.asked("the shape of the title", x, 1, d -> d.cloudOf(1, 4));
        due.asked("the lender", x, -1, d -> d.cloudOf(0, 5));
        due.asked("what it takes to redeem it", x, 0, d -> d.cloudOf(0, 6));
        due.refused("redeem a foreclosed cloud", x, 9, 0, d -> d.redeem(0));
        due.equal("foreclosed by hail again", x.hail(0), 0);
        due.asked("clouds, of which one is gone now", x, 2, d -> d.account(0));
        due.equal("the size of the other", x.cloudOf(0, 2), 8);
    }

    private void hailTakesSizes() {
        due.about(0, "Each other cloud over it has 1 less of its size, and is gone if none is left.");
        Desk x = new Desk();
        x.cloud(3, 0, 9);
        x.cloud(3, 0, 2);
        x.cloud(3, 0, 1);
        x.cloud(3, 0, 1);
        x.cloud(2, 0, 1);
        x.title(1, 0);
        x.title(3, 0);
        x.hail(3);
        due.asked("clouds that are left", x, 3, d -> d.account(0));
        due.asked("clouds that are gone", x, 2, d -> d.account(8));
        due.equal("9 less 1", Deeds.line(x, 0), "0@3:0/8");
        due.equal("2 less 1, with a title", Deeds.line(x, 1), "1@3:0/1=0");
        due.equal("one over the vineyard beside", Deeds.line(x, 2), "2@2:0/1");
        for (int size = 8; size >= 1; size--) {
            due.asked("the size of the first", x, size, d -> d.cloudOf(0, 2));
            x.hail(3);
        }
        due.asked("clouds that are left", x, 1, d -> d.account(0));
        due.equal("the one over the vineyard beside", Deeds.line(x, 0), "0@2:0/1");
        due.asked("titles that lapsed", x, 0, d -> d.account(5));
        due.asked("coins of the one who had titles", x, 17, d -> d.ownerOf(0, 0));
    }

    private void dawnLapses() {
        due.about(0, "At dawn, first each title lapses that is for another shape than the cloud has; with it a "
            + "pledge of the cloud is over, without a coin.");
        Desk x = new Desk();
        x.cloud(0, 5, 1);
        x.cloud(1, 0, 1);
        x.title(0, 0);
        x.pledge(0, 3);
        x.title(1, 3);
        x.dawn();
        due.asked("titles that lapsed without a wind", x, 0, d -> d.account(5));
        due.asked("a pledge that lasts", x, 3, d -> d.cloudOf(0, 5));
        x.wind(1);
        x.sell(1, 2, 0);
        x.dawn();
        due.asked("titles that lapsed", x, 1, d -> d.account(5));
        due.equal("a title for shape 5 at shape 0", Deeds.line(x, 0), "0@1:0/1");
        due.equal("a title for the shape", Deeds.line(x, 1), "1@2:1/1=2");
        due.asked("what it takes to redeem it", x, 0, d -> d.cloudOf(0, 6));
        due.refused("redeem a pledge that is over", x, 9, 0, d -> d.redeem(0));
        due.asked("coins of the owner", x, 21, d -> d.ownerOf(0, 0));
        due.asked("coins of the lender", x, 17, d -> d.ownerOf(3, 0));
        due.asked("clouds foreclosed", x, 0, d -> d.account(7));
        x.title(0, 0);
        x.wind(3);
        x.wind(-3);
        x.dawn();
        due.asked("titles that lapsed, none when the shape is back", x, 1, d -> d.account(5));
        x.wind(3);
        x.dawn();
        due.asked("titles that lapsed, all of them", x, 3, d -> d.account(5));
        due.asked("clouds with a title", x, 0, d -> d.account(1));
        x.dawn();
        due.asked("titles that lapsed, none when there is none", x, 3, d -> d.account(5));
    }

    private void dawnClaims() {
        due.about(0, "Then each cloud without a title over a vineyard that belongs to an owner is claimed: this one "
            + "has the title, for the shape that it has, and pays nothing.");
        Desk x = new Desk();
        x.vine(0, 0);
        x.vine(5, 3);
        x.cloud(0, 5, 9);
        x.cloud(5, 0, 1);
        x.cloud(1, 0, 1);
        x.cloud(0, 0, 1);
        x.title(3, 1);
        x.sell(3, 0, 20);
        x.sell(3, 2, 0);
        due.equal("claimed", x.dawn(), 2);
        due.equal("of the size 9, by one without a coin", Deeds.line(x, 0), "0@0:5/9=0");
        due.equal("by owner 3", Deeds.line(x, 1), "1@5:0/1=3");
        due.equal("over a vineyard of none", Deeds.line(x, 2), "2@1:0/1");
        due.equal("with a title of another", Deeds.line(x, 3), "3@0:0/1=2");
        due.asked("coins of the one without a coin, got at the dawn", x, 1, d -> d.ownerOf(0, 0));
        due.asked("coins of the office", x, 1, d -> d.account(9));
        x.wind(1);
        x.vine(1, 2);
        due.equal("claimed as their titles lapse", x.dawn(), 3);
        due.equal("from 0 to 2, the shape after 5", Deeds.line(x, 0), "0@1:0/9=2");
        due.asked("the shape of the title", x, 0, d -> d.cloudOf(0, 4));
        due.equal("from 3 to 0", Deeds.line(x, 1), "1@0:1/1=0");
        due.equal("over a vineyard of none", Deeds.line(x, 2), "2@2:1/1");
        due.equal("from 2 to 2", Deeds.line(x, 3), "3@1:1/1=2");
        due.asked("claimed so far", x, 5, d -> d.account(6));
        due.equal("claimed when all have titles or are over none's", x.dawn(), 0);
        x.vine(2, 0);
        due.equal("claimed as its vineyard has an owner", x.dawn(), 1);
    }

    private void dawnPays() {
        due.about(0, "Then each owner gets 1 coin for each cloud with the title of this one that is over a vineyard "
            + "of this one.");
        Desk x = new Desk();
        for (int n = 0; n < 6; n++) {
            x.cloud(n, 0, 9);
        }
        x.dawn();
        due.asked("coins when nobody has anything", x, 80, Desk::coins);
        x.title(0, 3);
        x.dawn();
        due.asked("coins for one over none's vineyard", x, 11, d -> d.ownerOf(3, 0));
        x.vine(0, 2);
        x.dawn();
        due.asked("coins for one over another's vineyard", x, 11, d -> d.ownerOf(3, 0));
        due.asked("coins of the other", x, 20, d -> d.ownerOf(2, 0));
        x.vine(0, 3);
        x.dawn();
        due.asked("coins for one over one's own vineyard", x, 12, d -> d.ownerOf(3, 0));
        x.pledge(0, 2);
        x.dawn();
        due.asked("coins for a pledged one", x, 31, d -> d.ownerOf(3, 0));
        due.asked("coins of the lender", x, 2, d -> d.ownerOf(2, 0));
        for (int n = 1; n < 6; n++) {
            x.vine(n, 3);
        }
        x.dawn();
        due.asked("coins for six, of which five are claimed now", x, 37, d -> d.ownerOf(3, 0));
        due.asked("coins paid at dawns", x, 8, d -> d.account(10));
        Desk y = new Desk();
        y.cloud(0, 0, 1);
        y.vine(1, 0);
        y.title(0, 0);
        y.wind(1);
        y.dawn();
        due.asked("coins for one that lapses and is claimed again", y, 20, d -> d.ownerOf(0, 0));
        y.wind(-1);
        y.vine(0, 1);
        y.dawn();
        due.asked("no coin for one that lapses", y, 20, d -> d.ownerOf(0, 0));
        due.asked("a coin for one that is claimed", y, 21, d -> d.ownerOf(1, 0));
    }

    private void dawnRecords() {
        due.about(0, "Then the owners of the clouds are recorded; the latest 5 dawns are kept.");
        Desk x = new Desk();
        due.thrown("a dawn ahead of the first", x, NO_ELEMENT, d -> d.dawnLine(0));
        String[] want = {"", "3", "3-", "3-0", "3-03", "3-033", "3-0333", "3-0333"};
        x.vine(0, 3);
        for (int n = 0; n < want.length; n++) {
            x.dawn();
            for (int ago = 0; ago <= n && ago < 5; ago++) {
                due.equal("after " + (n + 1) + " dawns, " + ago + " ago", Deeds.dawnLine(x, ago), want[n - ago]);
            }
            int none = Math.min(n + 1, 5);
            due.thrown("after " + (n + 1) + " dawns, " + none + " ago", x, NO_ELEMENT, d -> d.dawnLine(none));
            due.thrown("after " + (n + 1) + " dawns, " + none + " ago", x, NO_ELEMENT, d -> d.recorded(none, 0));
            if (n < 6) {
                x.cloud(n == 1 || n == 2 ? 1 : 0, 0, 1);
            }
            if (n == 2) {
                x.title(2, 0);
            }
        }
        x.wind(1);
        x.sell(0, 1, 0);
        x.dawn();
        due.equal("recorded as titles have lapsed and clouds are claimed", Deeds.dawnLine(x, 0), "1-----");
        x.wind(-1);
        x.dawn();
        due.equal("recorded as titles have lapsed and clouds are claimed", Deeds.dawnLine(x, 0), "3--333");
    }
}

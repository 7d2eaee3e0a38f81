import java.util.NoSuchElementException;

/** Promises 1 to 10: the boundary cases that their sentences name. */
final class ChangesBounds {
    private static final Class<?> NO_INDEX = IndexOutOfBoundsException.class;
    private static final Class<?> NO_ELEMENT = NoSuchElementException.class;
    private static final int LEAST = Integer.MIN_VALUE;
    private static final int MOST = Integer.MAX_VALUE;

    private final Due due;

    ChangesBounds(Due due) {
        this.due = due;
    }

    void test() {
        due.all(this::newObject, this::cloud, this::cloudNumber, this::cloudRefused, this::vine, this::vineRefused,
            this::title, this::titleRefused, this::sell, this::sellRefused, this::pledge, this::pledgeRefused,
            this::redeem, this::redeemRefused, this::wind, this::windRefused, this::hail, this::hailRefused,
            this::dawn);
    }

    private void newObject() {
        due.about(1, "Creates an office without clouds.");
        Desk x = new Desk();
        due.asked("clouds", x, 0, d -> d.account(0));
        due.thrown("the first cloud", x, NO_INDEX, d -> d.cloudOf(0, 0));
        due.thrown("the greatest cloud", x, NO_ELEMENT, d -> d.greatest(0));
        due.thrown("the mean size", x, ArithmeticException.class, Desk::meanSize);
        due.thrown("the share with a title", x, ArithmeticException.class, Desk::titledShare);
        due.thrown("a line", x, NO_INDEX, d -> d.line(0));
        due.refused("a title", x, 2, 0, d -> d.title(0, 0));
        for (int what = 0; what <= 12; what++) {
            int number = what;
            due.asked("account " + what, new Desk(), 0, d -> d.account(number));
        }
        for (int n = 0; n < 6; n++) {
            int vineyard = n;
            due.asked("clouds over " + n, x, 0, d -> d.vineyardOf(vineyard, 1));
        }
        Desk y = new Desk();
        y.cloud(0, 0, 1);
        due.asked("clouds of another office", x, 0, d -> d.account(0));
        due.equal("the first cloud that comes", x.cloud(0, 0, 1), 0);
    }

    private void cloud() {
        due.about(2, "Lets a cloud come.");
        Desk x = new Desk();
        x.cloud(0, 0, 1);
        due.equal("all at their least", Deeds.line(x, 0), "0@0:0/1");
        x.cloud(5, 5, 9);
        due.equal("all at their most", Deeds.line(x, 1), "1@5:5/9");
        due.asked("the owner of a new one", x, -1, d -> d.cloudOf(1, 3));
        due.asked("the title shape of a new one", x, -1, d -> d.cloudOf(1, 4));
        due.asked("the lender of a new one", x, -1, d -> d.cloudOf(1, 5));
        due.asked("what it takes to redeem a new one", x, 0, d -> d.cloudOf(1, 6));
        Desk y = new Desk();
        y.cloud(0, 3, 1);
        y.cloud(1, 4, 1);
        y.title(0, 3);
        y.title(1, 2);
        y.sell(0, 1, 0);
        y.pledge(1, 0);
        y.undo();
        y.hail(1);
        y.cloud(2, 2, 5);
        due.equal("one in the place of one that is gone", Deeds.line(y, 1), "1@2:2/5");
        due.asked("its title shape", y, -1, d -> d.cloudOf(1, 4));
        y.vine(3, 0);
        due.equal("over a vineyard with an owner", y.cloud(3, 0, 1), 2);
        due.asked("who does not have it ahead of the dawn", y, -1, d -> d.cloudOf(2, 3));
    }

    private void cloudNumber() {
        due.about(2, "Returns its number.");
        Desk x = new Desk();
        for (int n = 0; n < 6; n++) {
            due.equal("the number of the next one", x.cloud(5 - n, n, 1 + n % 2), n);
        }
        x.hail(5);
        x.hail(3);
        due.equal("the number when two are gone", x.cloud(0, 0, 1), 4);
        due.equal("the number of the next one", x.cloud(0, 0, 1), 5);
        x.undo();
        due.equal("the number of one in its place", x.cloud(0, 0, 1), 5);
    }

    private void cloudRefused() {
        due.about(2, "Throws `UnsupportedOperationException` if it is refused for the reason 2, 3, for the shape, "
            + "then for the size, or 1; the reason is kept");
        Desk x = new Desk();
        for (int clouds = 0; clouds <= 6; clouds++) {
            for (int far : new int[] {-1, 6, LEAST, MOST}) {
                due.refused("the vineyard " + far, x.again(), 2, far, d -> d.cloud(far, 0, 1));
                due.refused("the shape " + far, x.again(), 3, far, d -> d.cloud(5, far, 9));
                due.refused("vineyard and shape " + far, x.again(), 2, far, d -> d.cloud(far, far, far));
                due.refused("shape and size", x.again(), 3, far, d -> d.cloud(0, far, 0));
            }
            for (int far : new int[] {0, 10, -1, LEAST, MOST}) {
                due.refused("the size " + far, x.again(), 3, far, d -> d.cloud(0, 5, far));
            }
            if (clouds < 6) {
                due.equal("the next cloud", x.cloud(clouds, clouds, 9 - clouds), clouds);
            }
        }
        for (int vineyard = 0; vineyard <= 5; vineyard++) {
            int n = vineyard;
            due.refused("a cloud too many", x, 1, 6, d -> d.cloud(n, n, 9));
        }
    }

    private void vine() {
        due.about(3, "Tells to whom a vineyard belongs.");
        Desk x = new Desk();
        x.vine(0, 0);
        x.vine(5, 3);
        due.asked("the owner of 0", x, 0, d -> d.vineyardOf(0, 0));
        due.asked("the owner of 5", x, 3, d -> d.vineyardOf(5, 0));
        for (int n = 1; n <= 4; n++) {
            int vineyard = n;
            due.asked("the owner of " + n, x, -1, d -> d.vineyardOf(vineyard, 0));
        }
        due.about(3, "the owner, -1 for none");
        due.equal("to none", x.vine(0, -1), 1);
        due.asked("the owner of 0", x, -1, d -> d.vineyardOf(0, 0));
        due.equal("to 3", x.vine(0, 3), 2);
        due.asked("the owner of 0", x, 3, d -> d.vineyardOf(0, 0));
        due.equal("to 0", x.vine(0, 0), 2);
        due.refused("to -2", x, 2, -2, d -> d.vine(0, -2));
        due.refused("to 4", x, 2, 4, d -> d.vine(0, 4));
        due.about(3, "Returns how many vineyards belong to an owner then.");
        Desk y = new Desk();
        for (int n = 0; n <= 5; n++) {
            due.equal("vineyards with an owner", y.vine(5 - n, n % 4), n + 1);
        }
        due.equal("vineyards with an owner, all", y.vine(0, 3), 6);
        for (int n = 0; n <= 5; n++) {
            due.equal("vineyards with an owner", y.vine(n, -1), 5 - n);
        }
        due.equal("vineyards with an owner", y.vine(3, 0), 1);
    }

    private void vineRefused() {
        due.about(3, "Throws `UnsupportedOperationException` if it is refused for the reason 2, for the vineyard, "
            + "then for the owner, or 4; the reason is kept");
        Desk x = new Desk();
        x.vine(5, 0);
        x.vine(4, 3);
        for (int far : new int[] {-1, 6, LEAST, MOST}) {
            due.refused("the vineyard " + far, x, 2, far, d -> d.vine(far, 0));
            due.refused("the vineyard " + far + " to none", x, 2, far, d -> d.vine(far, -1));
            due.refused("the vineyard " + far + " to nobody", x, 2, far, d -> d.vine(far, 4));
        }
        for (int far : new int[] {-2, 4, LEAST, MOST}) {
            due.refused("vineyard 0 to " + far, x, 2, far, d -> d.vine(0, far));
            due.refused("vineyard 5 to " + far, x, 2, far, d -> d.vine(5, far));
        }
        due.refused("to none again", x, 4, -1, d -> d.vine(0, -1));
        due.refused("to 0 again", x, 4, 0, d -> d.vine(5, 0));
        due.refused("to 3 again", x, 4, 3, d -> d.vine(4, 3));
    }

    private void title() {
        due.about(4, "Gives an owner the title of a cloud.");
        Desk x = new Desk();
        for (int n = 0; n < 6; n++) {
            x.cloud(n, n, 1);
        }
        x.title(0, 3);
        x.title(5, 0);
        due.equal("the first to the last", Deeds.line(x, 0), "0@0:0/1=3");
        due.equal("the last to the first", Deeds.line(x, 5), "5@5:5/1=0");
        due.asked("the shape of the title of the last", x, 5, d -> d.cloudOf(5, 4));
        due.asked("clouds with a title", x, 2, d -> d.account(1));
        due.about(4, "Returns the coins of the owner then.");
        Desk y = new Desk();
        y.cloud(0, 0, 9);
        y.cloud(0, 0, 9);
        y.cloud(0, 0, 1);
        y.cloud(0, 0, 1);
        due.equal("coins", y.title(0, 1), 11);
        due.equal("coins", y.title(1, 1), 2);
        due.equal("coins", y.title(2, 1), 1);
        due.equal("coins, none", y.title(3, 1), 0);
    }

    private void titleRefused() {
        due.about(4, "Throws `UnsupportedOperationException` if it is refused for the reason 2, for the cloud, then "
            + "for the owner, 5 or 7; the reason is kept");
        Desk x = new Desk();
        due.refused("cloud 0 of none", x, 2, 0, d -> d.title(0, 0));
        x.cloud(0, 0, 9);
        x.cloud(0, 0, 9);
        x.cloud(0, 0, 3);
        x.title(0, 3);
        x.title(1, 3);
        for (int far : new int[] {-1, 3, LEAST, MOST}) {
            due.refused("the cloud " + far, x, 2, far, d -> d.title(far, 0));
            due.refused("the cloud " + far + " to nobody", x, 2, far, d -> d.title(far, 4));
        }
        for (int far : new int[] {-1, 4, LEAST, MOST}) {
            due.refused("to " + far, x, 2, far, d -> d.title(2, far));
            due.refused("to " + far + ", with a title", x, 2, far, d -> d.title(0, far));
        }
        due.refused("with a title of another", x, 5, 3, d -> d.title(0, 0));
        due.refused("with a title of this one, who has too few coins", x, 5, 3, d -> d.title(0, 3));
        due.refused("one coin too few", x, 7, 2, d -> d.title(2, 3));
        x.wind(1);
        due.refused("with a title for another shape", x, 5, 3, d -> d.title(1, 0));
        x.hail(1);
        due.equal("with just the coins", x.title(2, 3), 0);
    }

    private void sell() {
        due.about(5, "Sells a cloud to another owner.");
        Desk x = new Desk();
        x.cloud(0, 5, 1);
        x.title(0, 0);
        x.wind(3);
        x.sell(0, 3, 1);
        due.equal("from the first to the last", Deeds.line(x, 0), "0@3:2/1=3");
        x.sell(0, 0, 1);
        due.equal("from the last to the first", Deeds.line(x, 0), "0@3:2/1=0");
        due.about(5, "for how many coins, 0 to 99");
        due.equal("for 0", x.sell(0, 1, 0), 19);
        due.refused("for -1", x, 3, -1, d -> d.sell(0, 0, -1));
        due.refused("for 100", x, 3, 100, d -> d.sell(0, 0, 100));
        Desk y = TermsBounds.withCoins(2, 104);
        y.sell(0, 0, 0);
        due.refused("for 100, by one with 104", y, 3, 100, d -> d.sell(0, 2, 100));
        due.equal("for 99, by one with 104", y.sell(0, 2, 99), 119);
        Desk z = TermsBounds.withCoins(2, 98);
        z.sell(0, 0, 0);
        due.refused("for 99, by one with 98", z, 7, 98, d -> d.sell(0, 2, 99));
        due.equal("for 98, by one with 98", z.sell(0, 2, 98), 118);
        due.asked("coins of the one who paid", z, 0, d -> d.ownerOf(2, 0));
        due.about(5, "Returns the coins of the owner who sells, then.");
        Desk v = new Desk();
        v.cloud(0, 0, 9);
        v.cloud(0, 0, 9);
        v.cloud(0, 0, 2);
        v.title(0, 1);
        v.title(1, 1);
        v.title(2, 1);
        due.equal("coins, none", v.sell(0, 2, 0), 0);
        due.equal("coins", v.sell(1, 2, 1), 1);
        due.equal("coins", v.sell(2, 2, 19), 20);
        due.equal("coins", v.sell(0, 1, 20), 20);
    }

    private void sellRefused() {
        due.about(5, "Throws `UnsupportedOperationException` if it is refused for the reason 2, for the cloud, then "
            + "for the other owner, 3, 6, 4, with the other owner, if this one has the title, 8 or 7; the reason is "
            + "kept");
        Desk x = new Desk();
        due.refused("cloud 0 of none", x, 2, 0, d -> d.sell(0, 0, 0));
        x.cloud(0, 0, 1);
        x.cloud(0, 0, 1);
        x.cloud(0, 0, 1);
        x.title(0, 3);
        x.title(2, 0);
        x.pledge(0, 0);
        for (int far : new int[] {-1, 3, LEAST, MOST}) {
            due.refused("the cloud " + far, x, 2, far, d -> d.sell(far, 0, 0));
            due.refused("the cloud " + far + " to nobody", x, 2, far, d -> d.sell(far, 4, -1));
        }
        for (int far : new int[] {-1, 4, LEAST, MOST}) {
            due.refused("to " + far, x, 2, far, d -> d.sell(2, far, 0));
            due.refused("to " + far + " for too many coins", x, 2, far, d -> d.sell(1, far, 100));
        }
        for (int far : new int[] {-1, 100, LEAST, MOST}) {
            due.refused("for " + far, x, 3, far, d -> d.sell(2, 1, far));
            due.refused("for " + far + ", without a title", x, 3, far, d -> d.sell(1, 1, far));
            due.refused("for " + far + ", to the owner", x, 3, far, d -> d.sell(0, 3, far));
        }
        due.refused("without a title", x, 6, 1, d -> d.sell(1, 1, 0));
        due.refused("without a title, too few coins", x, 6, 1, d -> d.sell(1, 1, 99));
        due.refused("to the owner 0", x, 4, 0, d -> d.sell(2, 0, 0));
        due.refused("to the owner 3, pledged, too few coins", x, 4, 3, d -> d.sell(0, 3, 99));
        due.refused("pledged, to the lender", x, 8, 0, d -> d.sell(0, 0, 0));
        due.refused("pledged, too few coins", x, 8, 0, d -> d.sell(0, 1, 99));
        due.refused("one coin too few", x, 7, 20, d -> d.sell(2, 1, 21));
        due.refused("too few coins for 99", x, 7, 20, d -> d.sell(2, 1, 99));
        due.equal("just the coins", x.sell(2, 1, 20), 37);
        x.title(1, 2);
        due.refused("one coin too few for 1", x, 7, 0, d -> d.sell(1, 1, 1));
        due.equal("no coin for 0", x.sell(1, 1, 0), 19);
    }

    private void pledge() {
        due.about(6, "Pledges a cloud.");
        Desk x = new Desk();
        x.cloud(0, 5, 1);
        x.cloud(0, 0, 1);
        x.title(0, 0);
        x.title(1, 3);
        x.wind(1);
        x.pledge(0, 3);
        x.pledge(1, 0);
        due.equal("to the last", Deeds.line(x, 0), "0@1:0/1=0?*3");
        due.equal("to the first", Deeds.line(x, 1), "1@1:1/1=3?*0");
        due.asked("clouds pledged", x, 2, d -> d.account(2));
        due.asked("the shape of the title, as it was", x, 5, d -> d.cloudOf(0, 4));
        due.about(6, "Returns the coins that the lender pays.");
        for (int size = 1; size <= 9; size++) {
            Desk y = new Desk();
            y.cloud(0, 0, size);
            y.title(0, 1);
            due.equal("what is paid for the size " + size, y.pledge(0, 2), 2 * size);
            due.asked("coins of the lender", y, 20 - 2 * size, d -> d.ownerOf(2, 0));
        }
    }

    private void pledgeRefused() {
        due.about(6, "Throws `UnsupportedOperationException` if it is refused for the reason 2, for the cloud, then "
            + "for the lender, 6, 4, with the lender, if this one has the title, 8 or 7; the reason is kept");
        Desk x = new Desk();
        due.refused("cloud 0 of none", x, 2, 0, d -> d.pledge(0, 0));
        x.cloud(0, 0, 9);
        x.cloud(0, 0, 9);
        x.cloud(0, 0, 1);
        x.title(0, 3);
        x.title(2, 0);
        x.pledge(0, 0);
        for (int far : new int[] {-1, 3, LEAST, MOST}) {
            due.refused("the cloud " + far, x, 2, far, d -> d.pledge(far, 0));
            due.refused("the cloud " + far + " to nobody", x, 2, far, d -> d.pledge(far, 4));
        }
        for (int far : new int[] {-1, 4, LEAST, MOST}) {
            due.refused("to " + far, x, 2, far, d -> d.pledge(2, far));
            due.refused("to " + far + ", without a title", x, 2, far, d -> d.pledge(1, far));
        }
        due.refused("without a title", x, 6, 1, d -> d.pledge(1, 1));
        due.refused("without a title, too few coins", x, 6, 1, d -> d.pledge(1, 0));
        due.refused("to the owner 0", x, 4, 0, d -> d.pledge(2, 0));
        due.refused("to the owner 3, pledged", x, 4, 3, d -> d.pledge(0, 3));
        due.refused("pledged, to the lender, who has too few coins", x, 8, 0, d -> d.pledge(0, 0));
        due.refused("pledged, to another", x, 8, 0, d -> d.pledge(0, 1));
        x.title(1, 1);
        due.refused("too few coins", x, 7, 1, d -> d.pledge(1, 0));
        Desk y = new Desk();
        y.cloud(0, 0, 9);
        y.cloud(0, 0, 3);
        y.title(0, 1);
        y.title(1, 0);
        due.refused("one coin too few", y, 7, 17, d -> d.pledge(0, 0));
        y.sell(1, 2, 1);
        due.equal("just the coins", y.pledge(0, 0), 18);
        due.asked("coins of the lender", y, 0, d -> d.ownerOf(0, 0));
    }

    private void redeem() {
        due.about(7, "Redeems a cloud.");
        Desk x = new Desk();
        for (int n = 0; n < 6; n++) {
            x.cloud(0, 0, 1);
            x.title(n, n < 3 ? 0 : 3);
            x.pledge(n, n < 3 ? 3 : 0);
        }
        x.redeem(0);
        x.redeem(5);
        due.equal("the first, without a lender", Deeds.line(x, 0), "0@0:0/1=0");
        due.equal("the last, without a lender", Deeds.line(x, 5), "5@0:0/1=3");
        due.equal("one that is not redeemed", Deeds.line(x, 4), "4@0:0/1=3*0");
        due.asked("clouds pledged", x, 4, d -> d.account(2));
        due.asked("what it takes to redeem it", x, 0, d -> d.cloudOf(0, 6));
        due.equal("hail that forecloses the others", x.hail(0), 4);
        due.about(7, "Returns the coins that its owner pays.");
        for (int size = 1; size <= 9; size++) {
            Desk y = new Desk();
            y.cloud(0, 0, size);
            y.title(0, 1);
            y.pledge(0, 2);
            due.equal("what is paid for the size " + size, y.redeem(0), 2 * size + 1);
            due.asked("coins of the owner", y, 19 - size, d -> d.ownerOf(1, 0));
            due.asked("coins of the lender", y, 21, d -> d.ownerOf(2, 0));
        }
    }

    private void redeemRefused() {
        due.about(7, "Throws `UnsupportedOperationException` if it is refused for the reason 2, 9 or 7; the reason "
            + "is kept");
        Desk x = new Desk();
        due.refused("cloud 0 of none", x, 2, 0, d -> d.redeem(0));
        x.cloud(0, 0, 9);
        x.cloud(1, 0, 9);
        x.cloud(2, 0, 1);
        for (int far : new int[] {-1, 3, LEAST, MOST}) {
            due.refused("the cloud " + far, x, 2, far, d -> d.redeem(far));
        }
        due.refused("without a title", x, 9, 0, d -> d.redeem(0));
        x.title(0, 0);
        x.title(1, 0);
        due.refused("with a title", x, 9, 0, d -> d.redeem(0));
        x.pledge(0, 1);
        x.title(2, 3);
        x.sell(2, 0, 2);
        due.refused("one coin too few", x, 7, 18, d -> d.redeem(0));
        due.refused("not pledged, one coin too few", x, 9, 1, d -> d.redeem(1));
        x.sell(2, 2, 1);
        due.equal("just the coins", x.redeem(0), 19);
        due.refused("redeemed, without a coin", x, 9, 0, d -> d.redeem(0));
        x.pledge(0, 1);
        x.hail(0);
        due.refused("foreclosed", x, 9, 0, d -> d.redeem(0));
    }

    private void wind() {
        due.about(8, "Lets a wind blow.");
        for (int strength = 1; strength <= 3; strength++) {
            Desk x = new Desk();
            x.cloud(0, 5, 9);
            x.cloud(5, 0, 1);
            x.wind(strength);
            due.equal("from 0 by " + strength, Deeds.line(x, 0), "0@" + strength + ":" + (strength - 1) + "/9");
            due.equal("from 5 by " + strength, Deeds.line(x, 1), "1@" + (strength - 1) + ":" + strength + "/1");
            Desk y = new Desk();
            y.cloud(0, 5, 9);
            y.cloud(5, 0, 1);
            y.wind(-strength);
            due.equal("from 0 by -" + strength, Deeds.line(y, 0), "0@" + (6 - strength) + ":" + (strength - 1) + "/9");
            due.equal("from 5 by -" + strength, Deeds.line(y, 1), "1@" + (5 - strength) + ":" + strength + "/1");
        }
        due.about(8, "Returns how many titles are for another shape than their clouds have then.");
        Desk x = new Desk();
        due.equal("without clouds", x.wind(-3), 0);
        for (int n = 0; n < 6; n++) {
            x.cloud(n, n, 1);
        }
        due.equal("without titles", x.wind(1), 0);
        for (int n = 0; n < 6; n++) {
            x.title(n, n % 4);
            due.equal("for another shape", x.wind(3), n + 1);
            due.equal("for the shape that is back", x.wind(-3), 0);
        }
        due.equal("all", x.wind(2), 6);
        x.sell(5, 0, 0);
        due.equal("all, one of which was sold", x.wind(1), 6);
        due.equal("the one that was sold, as the others are back", x.wind(3), 1);
    }

    private void windRefused() {
        due.about(8, "Throws `UnsupportedOperationException` if it is refused for the reason 3, also for 0; the "
            + "reason is kept");
        Desk x = new Desk();
        for (int wind : new int[] {-4, 0, 4, LEAST, MOST, 6, -6}) {
            due.refused("a wind " + wind + " without clouds", x, 3, wind, d -> d.wind(wind));
        }
        x.cloud(0, 0, 1);
        x.title(0, 0);
        for (int wind : new int[] {-4, 0, 4, LEAST, MOST, 6, -6}) {
            due.refused("a wind " + wind, x, 3, wind, d -> d.wind(wind));
        }
    }

    private void hail() {
        due.about(9, "Lets hail come down on a vineyard.");
        Desk x = new Desk();
        x.cloud(0, 0, 2);
        x.cloud(5, 0, 2);
        x.hail(0);
        due.equal("on the first", Deeds.line(x, 0), "0@0:0/1");
        due.equal("on the first, one over the last", Deeds.line(x, 1), "1@5:0/2");
        x.hail(5);
        due.equal("on the last", Deeds.line(x, 1), "1@5:0/1");
        due.equal("on the last, one over the first", Deeds.line(x, 0), "0@0:0/1");
        x.hail(0);
        due.equal("the last one is the first then", Deeds.line(x, 0), "0@5:0/1");
        due.asked("clouds gone", x, 1, d -> d.account(8));
        due.about(9, "Returns how many clouds are foreclosed.");
        Desk y = new Desk();
        due.equal("without clouds", y.hail(0), 0);
        for (int n = 0; n < 6; n++) {
            y.cloud(5, 0, 1);
            y.title(n, 0);
            y.pledge(n, 3);
        }
        due.equal("on the vineyard beside", y.hail(4), 0);
        due.equal("on the vineyard beside", y.hail(0), 0);
        due.equal("all", y.hail(5), 6);
        due.asked("foreclosed so far", y, 6, d -> d.account(7));
        due.asked("clouds of the lender", y, 6, d -> d.clouds(3));
        due.equal("none of those that are gone", y.hail(5), 0);
        due.asked("clouds", y, 0, d -> d.account(0));
        due.asked("clouds gone", y, 6, d -> d.account(8));
        Desk z = new Desk();
        z.cloud(2, 0, 1);
        z.cloud(2, 0, 1);
        z.cloud(2, 0, 1);
        z.title(1, 0);
        z.title(2, 0);
        z.pledge(2, 1);
        due.equal("one of three", z.hail(2), 1);
        due.equal("the one that is left", Deeds.line(z, 0), "0@2:0/1=1");
    }

    private void hailRefused() {
        due.about(9, "Throws `UnsupportedOperationException` if it is refused for the reason 2; the reason is kept");
        Desk x = new Desk();
        for (int far : new int[] {-1, 6, LEAST, MOST}) {
            due.refused("on " + far + " without clouds", x, 2, far, d -> d.hail(far));
        }
        x.cloud(0, 0, 1);
        x.cloud(5, 0, 1);
        for (int far : new int[] {-1, 6, LEAST, MOST}) {
            due.refused("on " + far, x, 2, far, d -> d.hail(far));
        }
    }

    private void dawn() {
        due.about(10, "Lets it dawn.");
        Desk x = new Desk();
        due.equal("without clouds", x.dawn(), 0);
        due.asked("dawns", x, 1, d -> d.account(4));
        due.equal("the record of no clouds", x.dawnLine(0), 0);
        due.asked("changes that can be undone", x, 1, d -> d.account(12));
        x.dawn();
        due.asked("dawns", x, 2, d -> d.account(4));
        due.about(10, "Returns how many clouds are claimed.");
        Desk y = new Desk();
        for (int n = 0; n < 6; n++) {
            y.cloud(n, 0, 1);
        }
        due.equal("over vineyards of none", y.dawn(), 0);
        for (int n = 0; n < 6; n++) {
            y.vine(n, 3 - n % 4);
            due.equal("over one more", y.dawn(), 1);
            due.equal("over one more, again", y.dawn(), 0);
        }
        due.asked("claimed so far", y, 6, d -> d.account(6));
        y.wind(3);
        due.equal("all", y.dawn(), 6);
        due.asked("claimed so far", y, 12, d -> d.account(6));
        y.wind(-3);
        y.sell(0, 1, 0);
        due.equal("all but one that has a title for its shape", y.dawn(), 5);
        due.asked("claimed so far", y, 17, d -> d.account(6));
    }
}

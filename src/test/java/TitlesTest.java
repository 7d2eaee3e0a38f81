/** Promises 1 to 7: a new object, clouds, vineyards, titles. */
public final class TitlesTest {
    private static final Due due = new Due();

    public static void main(String[] args) {
        promise01NewObject();
        promise02Cloud();
        promise03Vine();
        promise04Title();
        promise05Sell();
        promise05SellOrder();
        promise06Pledge();
        promise06PledgeOrder();
        promise07Redeem();
        due.end();
    }

    private static void promise01NewObject() {
        Desk x = new Desk();
        for (int what = 0; what <= 12; what++) {
            due.equal("new: account " + what, x.account(what), 0);
        }
        for (int owner = 0; owner < 4; owner++) {
            due.equal("new: coins of " + owner, x.ownerOf(owner, 0), 20);
            for (int what = 1; what <= 4; what++) {
                due.equal("new: ownerOf " + owner + " " + what, x.ownerOf(owner, what), 0);
            }
        }
        for (int vineyard = 0; vineyard < 6; vineyard++) {
            due.equal("new: owner of " + vineyard, x.vineyardOf(vineyard, 0), -1);
            due.equal("new: clouds over " + vineyard, x.vineyardOf(vineyard, 1), 0);
            due.equal("new: sizes over " + vineyard, x.vineyardOf(vineyard, 2), 0);
        }
        Desk y = new Desk();
        y.cloud(0, 0, 1);
        due.equal("objects are apart", x.account(0), 0);
    }

    private static void promise02Cloud() {
        Desk x = new Desk();
        due.equal("cloud", x.cloud(5, 5, 9), 0);
        due.equal("cloud", x.cloud(0, 0, 1), 1);
        due.equal("its line", Deeds.line(x, 0), "0@5:5/9");
        due.equal("its line", Deeds.line(x, 1), "1@0:0/1");
        for (int vineyard : new int[] {-1, 6, Integer.MIN_VALUE, Integer.MAX_VALUE}) {
            due.refused("cloud over " + vineyard, x, 2, vineyard, d -> d.cloud(vineyard, 9, 99));
        }
        for (int shape : new int[] {-1, 6, Integer.MIN_VALUE, Integer.MAX_VALUE}) {
            due.refused("cloud of shape " + shape, x, 3, shape, d -> d.cloud(0, shape, 99));
        }
        for (int size : new int[] {0, 10, -1, Integer.MIN_VALUE, Integer.MAX_VALUE}) {
            due.refused("cloud of size " + size, x, 3, size, d -> d.cloud(0, 0, size));
        }
        for (int n = 2; n < 6; n++) {
            due.equal("cloud", x.cloud(n, n, n), n);
        }
        due.refused("a seventh cloud", x, 1, 6, d -> d.cloud(0, 0, 1));
        due.refused("a seventh cloud, too great", x, 3, 10, d -> d.cloud(0, 0, 10));
        due.refused("a seventh cloud, no vineyard", x, 2, 6, d -> d.cloud(6, 0, 1));
        // A number that was free before is used without what stood there.
        x.title(1, 3);
        x.pledge(1, 2);
        x.redeem(1);
        x.hail(0);
        due.equal("clouds after the hail", x.account(0), 5);
        due.equal("cloud again", x.cloud(3, 2, 4), 5);
        due.equal("its line", Deeds.line(x, 5), "5@3:2/4");
        due.equal("its title shape", x.cloudOf(5, 4), -1);
        Desk y = new Desk();
        y.cloud(0, 0, 1);
        y.title(0, 2);
        y.hail(0);
        y.cloud(1, 0, 2);
        due.equal("without the title of the one that is gone", Deeds.line(y, 0), "0@1:0/2");
    }

    private static void promise03Vine() {
        Desk x = new Desk();
        due.equal("vine", x.vine(0, 3), 1);
        due.equal("vine", x.vine(5, 0), 2);
        due.equal("vine", x.vine(0, 2), 2);
        due.equal("its owner", x.vineyardOf(0, 0), 2);
        due.equal("to none", x.vine(0, -1), 1);
        due.equal("its owner", x.vineyardOf(0, 0), -1);
        due.refused("none already", x, 4, -1, d -> d.vine(0, -1));
        due.refused("so already", x, 4, 0, d -> d.vine(5, 0));
        for (int vineyard : new int[] {-1, 6, Integer.MIN_VALUE, Integer.MAX_VALUE}) {
            due.refused("vine " + vineyard, x, 2, vineyard, d -> d.vine(vineyard, 9));
        }
        for (int owner : new int[] {-2, 4, Integer.MIN_VALUE, Integer.MAX_VALUE}) {
            due.refused("vine to " + owner, x, 2, owner, d -> d.vine(0, owner));
        }
        for (int n = 0; n < 5; n++) {
            due.equal("vine", x.vine(n, 1), n + 2);
        }
    }

    private static void promise04Title() {
        Desk x = new Desk();
        x.cloud(1, 4, 9);
        x.cloud(2, 3, 8);
        x.cloud(2, 3, 3);
        x.cloud(2, 2, 4);
        due.equal("title", x.title(0, 1), 11);
        due.equal("owner", x.cloudOf(0, 3), 1);
        due.equal("title shape", x.cloudOf(0, 4), 4);
        due.equal("coins of the office", x.account(9), 9);
        due.equal("title", x.title(1, 1), 3);
        due.equal("coins of the office", x.account(9), 17);
        for (int cloud : new int[] {-1, 4, Integer.MIN_VALUE, Integer.MAX_VALUE}) {
            due.refused("title of " + cloud, x, 2, cloud, d -> d.title(cloud, 9));
        }
        for (int owner : new int[] {-1, 4, Integer.MIN_VALUE, Integer.MAX_VALUE}) {
            due.refused("title to " + owner, x, 2, owner, d -> d.title(0, owner));
        }
        due.refused("title of a cloud with one", x, 5, 1, d -> d.title(0, 2));
        due.refused("title of one's own cloud", x, 5, 1, d -> d.title(0, 1));
        due.refused("too dear", x, 7, 3, d -> d.title(3, 1));
        due.equal("the last coins", x.title(2, 1), 0);
        due.refused("without a coin", x, 7, 0, d -> d.title(3, 1));
    }

    private static void promise05Sell() {
        Desk x = new Desk();
        x.cloud(0, 2, 5);
        x.title(0, 0);
        x.wind(1);
        due.equal("title shape", x.cloudOf(0, 4), 2);
        due.equal("sell", x.sell(0, 3, 20), 35);
        due.equal("coins of the one who paid", x.ownerOf(3, 0), 0);
        due.equal("owner", x.cloudOf(0, 3), 3);
        due.equal("title shape", x.cloudOf(0, 4), 3);
        due.equal("sell for nothing", x.sell(0, 1, 0), 0);
        due.equal("owner", x.cloudOf(0, 3), 1);
        due.equal("coins of the office", x.account(9), 5);
        x.sell(0, 2, 20);
        due.equal("coins", x.ownerOf(1, 0), 40);
        x.sell(0, 1, 40);
        due.equal("coins", x.ownerOf(1, 0), 0);
        due.equal("coins", x.ownerOf(2, 0), 40);
    }

    private static void promise05SellOrder() {
        Desk x = new Desk();
        x.cloud(0, 2, 1);
        x.cloud(0, 2, 1);
        x.title(0, 0);
        for (int cloud : new int[] {-1, 2, Integer.MIN_VALUE, Integer.MAX_VALUE}) {
            due.refused("sell " + cloud, x, 2, cloud, d -> d.sell(cloud, 9, 100));
        }
        for (int other : new int[] {-1, 4, Integer.MIN_VALUE, Integer.MAX_VALUE}) {
            due.refused("sell to " + other, x, 2, other, d -> d.sell(1, other, 100));
        }
        for (int coins : new int[] {-1, 100, Integer.MIN_VALUE, Integer.MAX_VALUE}) {
            due.refused("sell for " + coins, x, 3, coins, d -> d.sell(1, 0, coins));
        }
        due.refused("no title", x, 6, 1, d -> d.sell(1, 0, 99));
        due.refused("to the owner", x, 4, 0, d -> d.sell(0, 0, 99));
        due.refused("too dear", x, 7, 20, d -> d.sell(0, 1, 99));
        due.refused("too dear by one", x, 7, 20, d -> d.sell(0, 1, 21));
        x.pledge(0, 3);
        due.refused("pledged", x, 8, 3, d -> d.sell(0, 1, 99));
        due.refused("pledged, to the lender", x, 8, 3, d -> d.sell(0, 3, 0));
        due.refused("pledged, to the owner", x, 4, 0, d -> d.sell(0, 0, 0));
    }

    private static void promise06Pledge() {
        Desk x = new Desk();
        x.cloud(0, 2, 9);
        x.title(0, 0);
        due.equal("pledge", x.pledge(0, 2), 18);
        due.equal("coins of the owner", x.ownerOf(0, 0), 29);
        due.equal("coins of the lender", x.ownerOf(2, 0), 2);
        due.equal("owner", x.cloudOf(0, 3), 0);
        due.equal("lender", x.cloudOf(0, 5), 2);
        due.equal("redemption", x.cloudOf(0, 6), 19);
        x.cloud(0, 0, 1);
        x.title(1, 3);
        due.equal("with the last coins", x.pledge(1, 2), 2);
        due.equal("coins of the lender", x.ownerOf(2, 0), 0);
        due.equal("no coin to the office", x.account(9), 10);
    }

    private static void promise06PledgeOrder() {
        Desk x = new Desk();
        x.cloud(0, 2, 9);
        x.cloud(0, 2, 9);
        x.cloud(0, 2, 1);
        x.title(0, 0);
        for (int cloud : new int[] {-1, 3, Integer.MIN_VALUE, Integer.MAX_VALUE}) {
            due.refused("pledge " + cloud, x, 2, cloud, d -> d.pledge(cloud, 9));
        }
        for (int lender : new int[] {-1, 4, Integer.MIN_VALUE, Integer.MAX_VALUE}) {
            due.refused("pledge to " + lender, x, 2, lender, d -> d.pledge(1, lender));
        }
        due.refused("no title", x, 6, 1, d -> d.pledge(1, 0));
        due.refused("to the owner", x, 4, 0, d -> d.pledge(0, 0));
        x.pledge(0, 2);
        due.refused("to the owner, pledged", x, 4, 0, d -> d.pledge(0, 0));
        due.refused("pledged to this one", x, 8, 2, d -> d.pledge(0, 2));
        due.refused("pledged to another", x, 8, 2, d -> d.pledge(0, 3));
        x.title(1, 1);
        due.refused("too few coins", x, 7, 2, d -> d.pledge(1, 2));
        x.sell(1, 3, 1);
        x.title(2, 2);
        x.sell(2, 3, 0);
        due.refused("too few coins by one", x, 7, 1, d -> d.pledge(2, 2));
    }

    private static void promise07Redeem() {
        Desk x = new Desk();
        x.cloud(0, 2, 3);
        x.cloud(0, 2, 3);
        x.title(0, 0);
        for (int cloud : new int[] {-1, 2, Integer.MIN_VALUE, Integer.MAX_VALUE}) {
            due.refused("redeem " + cloud, x, 2, cloud, d -> d.redeem(cloud));
        }
        due.refused("not pledged", x, 9, 0, d -> d.redeem(0));
        due.refused("no title", x, 9, 1, d -> d.redeem(1));
        x.pledge(0, 1);
        x.wind(2);
        due.equal("redeem", x.redeem(0), 7);
        due.equal("coins of the owner", x.ownerOf(0, 0), 16);
        due.equal("coins of the lender", x.ownerOf(1, 0), 21);
        due.equal("owner", x.cloudOf(0, 3), 0);
        due.equal("the title as it was", x.cloudOf(0, 4), 2);
        due.equal("the shape", x.cloudOf(0, 1), 4);
        due.equal("lender", x.cloudOf(0, 5), -1);
        due.equal("redemption", x.cloudOf(0, 6), 0);
        due.refused("redeemed", x, 9, 0, d -> d.redeem(0));
        x.pledge(0, 1);
        x.cloud(0, 0, 8);
        x.title(2, 2);
        x.sell(2, 0, 16);
        due.refused("too few coins", x, 7, 6, d -> d.redeem(0));
        x.sell(2, 3, 1);
        due.equal("with the last coins", x.redeem(0), 7);
        due.equal("coins of the owner", x.ownerOf(0, 0), 0);
    }
}

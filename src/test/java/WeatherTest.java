/** Promises 8 to 10: winds, hail, dawns. */
public final class WeatherTest {
    private static final Due due = new Due();

    public static void main(String[] args) {
        promise08Wind();
        promise08WindRefused();
        promise09Hail();
        promise09HailPledged();
        promises08To10SixClouds();
        promise10Dawn();
        promise10DawnPays();
        promise10DawnEndsPledges();
        due.end();
    }

    private static void promise08Wind() {
        for (int wind = -3; wind <= 3; wind++) {
            for (int n = 0; wind != 0 && n < 6; n++) {
                Desk x = new Desk();
                x.cloud(n, 5 - n, 4);
                due.equal("wind " + wind, x.wind(wind), 0);
                due.equal("vineyard from " + n + " by " + wind, x.cloudOf(0, 0), (n + wind + 6) % 6);
                due.equal("shape from " + (5 - n) + " by " + wind, x.cloudOf(0, 1), (5 - n + Math.abs(wind)) % 6);
                due.equal("size", x.cloudOf(0, 2), 4);
            }
        }
        Desk x = new Desk();
        due.equal("wind without clouds", x.wind(1), 0);
        x.cloud(0, 0, 1);
        x.cloud(0, 1, 1);
        x.cloud(0, 2, 1);
        x.title(0, 0);
        x.title(2, 1);
        due.equal("titles for another shape", x.wind(-3), 2);
        due.equal("title shape stays", x.cloudOf(0, 4), 0);
        x.title(1, 1);
        due.equal("titles for another shape", x.wind(3), 1);
        due.equal("titles for another shape", x.wind(3), 2);
        due.equal("its shape", x.cloudOf(1, 1), 4);
    }

    private static void promise08WindRefused() {
        Desk x = new Desk();
        x.cloud(0, 0, 1);
        for (int wind : new int[] {0, 4, -4, Integer.MIN_VALUE, Integer.MAX_VALUE}) {
            due.refused("wind " + wind, x, 3, wind, d -> d.wind(wind));
        }
    }

    private static void promise09Hail() {
        Desk x = new Desk();
        x.cloud(3, 0, 1);
        x.cloud(3, 1, 2);
        x.cloud(4, 2, 1);
        x.cloud(3, 3, 1);
        x.cloud(4, 4, 9);
        x.title(4, 2);
        due.equal("hail on nothing", x.hail(5), 0);
        due.equal("clouds", x.account(0), 5);
        due.equal("hail", x.hail(3), 0);
        due.equal("clouds", x.account(0), 3);
        due.equal("gone", x.account(8), 2);
        due.equal("line", Deeds.line(x, 0), "0@3:1/1");
        due.equal("line", Deeds.line(x, 1), "1@4:2/1");
        due.equal("line", Deeds.line(x, 2), "2@4:4/9=2");
        due.equal("hail", x.hail(4), 0);
        due.equal("line", Deeds.line(x, 1), "1@4:4/8=2");
        due.equal("gone", x.account(8), 3);
        for (int vineyard : new int[] {-1, 6, Integer.MIN_VALUE, Integer.MAX_VALUE}) {
            due.refused("hail on " + vineyard, x, 2, vineyard, d -> d.hail(vineyard));
        }
        for (int n = 0; n < 8; n++) {
            x.hail(4);
        }
        due.equal("clouds", x.account(0), 1);
        due.equal("a title that is gone did not lapse", x.account(5), 0);
        x.hail(3);
        due.equal("clouds", x.account(0), 0);
        due.equal("gone", x.account(8), 5);
    }

    private static void promise09HailPledged() {
        Desk x = new Desk();
        x.cloud(0, 0, 1);
        x.cloud(0, 1, 2);
        x.cloud(1, 2, 3);
        x.title(0, 0);
        x.title(1, 1);
        x.title(2, 2);
        x.pledge(0, 3);
        x.pledge(1, 3);
        x.pledge(2, 3);
        x.wind(1);
        due.equal("foreclosed", x.hail(1), 2);
        due.equal("line", Deeds.line(x, 0), "0@1:1/1=3");
        due.equal("line", Deeds.line(x, 1), "1@1:2/2=3");
        due.equal("line", Deeds.line(x, 2), "2@2:3/3=2?*3");
        due.equal("title shape", x.cloudOf(0, 4), 1);
        due.equal("foreclosed so far", x.account(7), 2);
        due.equal("coins stay with the owner", x.ownerOf(0, 0), 21);
        due.equal("coins of the lender", x.ownerOf(3, 0), 8);
        due.equal("foreclosed", x.hail(2), 1);
        due.equal("foreclosed so far", x.account(7), 3);
        due.equal("hail again", x.hail(1), 0);
        due.equal("clouds", x.account(0), 2);
        due.equal("foreclosed so far", x.account(7), 3);
        due.equal("gone", x.account(8), 1);
    }

    private static void promises08To10SixClouds() {
        Desk x = new Desk();
        for (int n = 0; n < 6; n++) {
            x.cloud(n, n, 3);
            x.title(n, n % 4);
            x.vine(n, (n + 1) % 4);
        }
        due.equal("hail", x.hail(5), 0);
        due.equal("line", Deeds.line(x, 5), "5@5:5/2=1");
        due.equal("claimed", x.dawn(), 0);
        due.equal("record", Deeds.dawnLine(x, 0), "012301");
        due.equal("wind", x.wind(1), 6);
        due.equal("claimed", x.dawn(), 6);
        due.equal("record", Deeds.dawnLine(x, 0), "230121");
        due.equal("record of the first", Deeds.dawnLine(x, 1), "012301");
        due.equal("lapsed", x.account(5), 6);
        due.equal("paid", x.account(10), 6);
        x.pledge(5, 0);
        due.equal("foreclosed", x.hail(0), 1);
        due.equal("owner", x.cloudOf(5, 3), 0);
        due.equal("greatest", x.greatest(5), 5);
        due.equal("ranked", x.ranked(0), 2);
        due.equal("ranked, with fewer coins", x.ranked(1), 0);
        due.holds("balanced", x.isBalanced());
        for (int n = 0; n < 6; n++) {
            due.equal("recorded", x.recorded(1, n), n % 4);
        }
        for (int n = 0; n < 3; n++) {
            x.dawn();
        }
        due.equal("record of the first", Deeds.dawnLine(x, 4), "012301");
    }

    private static void promise10Dawn() {
        Desk x = new Desk();
        due.equal("dawn without clouds", x.dawn(), 0);
        x.cloud(0, 0, 1);
        x.cloud(1, 1, 2);
        x.cloud(2, 2, 3);
        x.vine(0, 3);
        x.vine(1, 0);
        due.equal("claimed", x.dawn(), 2);
        due.equal("line", Deeds.line(x, 0), "0@0:0/1=3");
        due.equal("line", Deeds.line(x, 1), "1@1:1/2=0");
        due.equal("line", Deeds.line(x, 2), "2@2:2/3");
        due.equal("record", Deeds.dawnLine(x, 0), "30-");
        due.equal("claimed so far", x.account(6), 2);
        due.equal("no coin to the office", x.account(9), 0);
        due.equal("claimed again", x.dawn(), 0);
        due.equal("dawns", x.account(4), 3);
        x.wind(1);
        due.equal("claimed after a wind", x.dawn(), 1);
        due.equal("lapsed", x.account(5), 2);
        due.equal("line", Deeds.line(x, 0), "0@1:1/1=0");
        due.equal("title shape", x.cloudOf(0, 4), 1);
        due.equal("line", Deeds.line(x, 1), "1@2:2/2");
        due.equal("title shape", x.cloudOf(1, 4), -1);
        due.equal("record", Deeds.dawnLine(x, 0), "0--");
        // A title for the shape that the cloud has is not taken by the owner of the vineyard.
        x.vine(2, 2);
        x.title(1, 1);
        due.equal("claimed beside a title", x.dawn(), 0);
        due.equal("line", Deeds.line(x, 1), "1@2:2/2=1");
    }

    private static void promise10DawnPays() {
        Desk x = new Desk();
        x.vine(0, 0);
        x.vine(1, 0);
        x.vine(2, 1);
        x.cloud(0, 0, 9);
        x.cloud(0, 0, 1);
        x.cloud(1, 0, 1);
        x.cloud(2, 0, 2);
        x.cloud(3, 0, 2);
        x.title(3, 0);
        x.title(4, 2);
        due.equal("claimed", x.dawn(), 3);
        due.equal("coins", x.ownerOf(0, 0), 21);
        due.equal("coins over another's vineyard", x.ownerOf(1, 0), 20);
        due.equal("coins over nobody's vineyard", x.ownerOf(2, 0), 18);
        due.equal("paid at dawns", x.account(10), 3);
        x.dawn();
        due.equal("coins", x.ownerOf(0, 0), 24);
        due.equal("paid at dawns", x.account(10), 6);
        // A pledged cloud still pays its owner.
        x.pledge(2, 3);
        x.dawn();
        due.equal("coins", x.ownerOf(0, 0), 29);
        due.equal("coins of the lender", x.ownerOf(3, 0), 18);
        // A title that lapses is claimed anew ahead of the pay.
        x.vine(3, 3);
        x.wind(3);
        due.equal("claimed", x.dawn(), 3);
        due.equal("record", Deeds.dawnLine(x, 0), "33--0");
        due.equal("coins", x.ownerOf(3, 0), 20);
    }

    private static void promise10DawnEndsPledges() {
        Desk x = new Desk();
        x.cloud(0, 0, 2);
        x.title(0, 0);
        x.pledge(0, 1);
        due.equal("claimed", x.dawn(), 0);
        due.equal("a pledge lasts", x.cloudOf(0, 5), 1);
        x.wind(1);
        due.equal("line", Deeds.line(x, 0), "0@1:1/2=0?*1");
        x.dawn();
        due.equal("line", Deeds.line(x, 0), "0@1:1/2");
        due.equal("lender", x.cloudOf(0, 5), -1);
        due.equal("redemption", x.cloudOf(0, 6), 0);
        due.equal("coins of the owner", x.ownerOf(0, 0), 22);
        due.equal("coins of the lender", x.ownerOf(1, 0), 16);
        due.equal("not foreclosed", x.account(7), 0);
        x.title(0, 0);
        for (int n = 0; n < 3; n++) {
            x.wind(-2);
        }
        due.equal("line, round the shapes", Deeds.line(x, 0), "0@1:1/2=0");
        x.dawn();
        due.equal("lapsed", x.account(5), 1);
        due.equal("line", Deeds.line(x, 0), "0@1:1/2=0");
    }
}

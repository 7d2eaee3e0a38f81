import java.util.ArrayList;
import java.util.List;
import java.util.function.Function;

/**
 * An office that keeps its calls, so that others can be made that went the same way and looked into, while this one
 * goes on. It takes no more calls than the document speaks of.
 */
final class Desk {
    private static final int MOST_CALLS = 512;

    private final CloudDeeds deeds = new CloudDeeds();
    private final List<Function<CloudDeeds, ?>> calls = new ArrayList<>();

    /** A new office with which all calls of this one have been made. */
    Desk again() {
        Desk other = new Desk();
        for (Function<CloudDeeds, ?> call : calls) {
            try {
                other.make(call);
            } catch (RuntimeException e) {
                // As it was with this one.
                continue;
            }
        }
        return other;
    }

    private <T> T make(Function<CloudDeeds, T> call) {
        if (calls.size() == MOST_CALLS) {
            throw new AssertionError("a test makes more than " + MOST_CALLS + " calls with one object");
        }
        calls.add(call);
        return call.apply(deeds);
    }

    int cloud(int vineyard, int shape, int size) {
        return make(d -> d.cloud(vineyard, shape, size));
    }

    int vine(int vineyard, int owner) {
        return make(d -> d.vine(vineyard, owner));
    }

    int title(int cloud, int owner) {
        return make(d -> d.title(cloud, owner));
    }

    int sell(int cloud, int other, int coins) {
        return make(d -> d.sell(cloud, other, coins));
    }

    int pledge(int cloud, int lender) {
        return make(d -> d.pledge(cloud, lender));
    }

    int redeem(int cloud) {
        return make(d -> d.redeem(cloud));
    }

    int wind(int wind) {
        return make(d -> d.wind(wind));
    }

    int hail(int vineyard) {
        return make(d -> d.hail(vineyard));
    }

    int dawn() {
        return make(CloudDeeds::dawn);
    }

    int cloudOf(int cloud, int what) {
        return make(d -> d.cloudOf(cloud, what));
    }

    int ownerOf(int owner, int what) {
        return make(d -> d.ownerOf(owner, what));
    }

    int vineyardOf(int vineyard, int what) {
        return make(d -> d.vineyardOf(vineyard, what));
    }

    int clouds(int owner) {
        return make(d -> d.clouds(owner));
    }

    int cloudsAgain(int owner) {
        return make(d -> d.cloudsAgain(owner));
    }

    int windTo(int cloud, int vineyard) {
        return make(d -> d.windTo(cloud, vineyard));
    }

    int windToAgain(int cloud, int vineyard) {
        return make(d -> d.windToAgain(cloud, vineyard));
    }

    int would(int owner, int wind) {
        return make(d -> d.would(owner, wind));
    }

    int bestWind(int owner) {
        return make(d -> d.bestWind(owner));
    }

    int recorded(int ago, int cloud) {
        return make(d -> d.recorded(ago, cloud));
    }

    int coins() {
        return make(CloudDeeds::coins);
    }

    int coinsAgain() {
        return make(CloudDeeds::coinsAgain);
    }

    int greatest(int place) {
        return make(d -> d.greatest(place));
    }

    int ranked(int place) {
        return make(d -> d.ranked(place));
    }

    int feed(char character) {
        return make(d -> d.feed(character));
    }

    int run() {
        return make(CloudDeeds::run);
    }

    int faultPosition() {
        return make(CloudDeeds::faultPosition);
    }

    int reason(boolean isBehind, boolean isDetail) {
        return make(d -> d.reason(isBehind, isDetail));
    }

    int line(int cloud) {
        return make(d -> d.line(cloud));
    }

    int dawnLine(int ago) {
        return make(d -> d.dawnLine(ago));
    }

    char character(int index) {
        return make(d -> d.character(index));
    }

    double meanSize() {
        return make(CloudDeeds::meanSize);
    }

    float titledShare() {
        return make(CloudDeeds::titledShare);
    }

    int account(int what) {
        return make(d -> d.account(what));
    }

    boolean isBalanced() {
        return make(CloudDeeds::isBalanced);
    }

    int undo() {
        return make(CloudDeeds::undo);
    }

    int save() {
        return make(CloudDeeds::save);
    }

    int restore() {
        return make(CloudDeeds::restore);
    }
}

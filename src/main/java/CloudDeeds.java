import java.util.NoSuchElementException;

/**
 * A deed office for clouds over vineyards.
 *
 * All objects are made in the constructor and used again, so that a call makes none but the exception it throws.
 */
public final class CloudDeeds {
    private static final int NONE = -1;
    private static final int OWNERS = 4;
    private static final int VINEYARDS = 6;
    private static final int SHAPES = 6;
    private static final int MOST_CLOUDS = 6;
    private static final int GREATEST_SIZE = 9;
    private static final int DEAREST_SALE = 99;
    private static final int STRONGEST_WIND = 3;
    private static final int FIRST_COINS = 20;
    private static final int LOAN_FOR_SIZE = 2;
    private static final int INTEREST = 1;
    private static final int KEPT_DAWNS = 5;
    private static final int KEPT_CHANGES = 8;
    private static final int TAPE_LENGTH = 60;
    // "dawn" is the shortest order: twelve of them and the ";" behind each fill the tape.
    private static final int MOST_ORDERS = 12;
    private static final int MOST_NUMBERS = 3;

    // How many numbers there are to ask for.
    private static final int CLOUD_NUMBERS = 7;
    private static final int OWNER_NUMBERS = 5;
    private static final int VINEYARD_NUMBERS = 3;
    private static final int ACCOUNTS = 13;
    // These two accounts tell of the tape and the changes, which are no part of the office.
    private static final int TAPE_ACCOUNT = 11;
    private static final int UNDO_ACCOUNT = 12;

    // No change answers a number below 0, so this one tells that it was refused.
    private static final int REFUSED = -1;
    private static final int ALLOWED = 0;

    private static final int NO_REASON = 0;
    private static final int FULL = 1;
    private static final int NOT_THERE = 2;
    private static final int OUT_OF_RANGE = 3;
    private static final int SO_ALREADY = 4;
    private static final int TITLED = 5;
    private static final int UNTITLED = 6;
    private static final int TOO_FEW_COINS = 7;
    private static final int PLEDGED = 8;
    private static final int NOT_PLEDGED = 9;
    private static final int ORDER_REFUSED = 10;

    private static final Kind[] KINDS = Kind.values();

    private final Office office = new Office();
    private final Office before = new Office();
    private final Office imagined = new Office();
    private final Office saved = new Office();
    private boolean isSaved = false;
    private final History history = new History();
    private final Reasons reasons = new Reasons();
    private final Tape tape = new Tape();
    private int keptFault = NONE;
    private final StringBuilder text = new StringBuilder();

    public CloudDeeds() {
    }

    // ---- clouds, vineyards, titles

    public int cloud(int vineyard, int shape, int size) throws UnsupportedOperationException {
        return change(Kind.CLOUD, vineyard, shape, size);
    }

    public int vine(int vineyard, int owner) throws UnsupportedOperationException {
        return change(Kind.VINE, vineyard, owner, 0);
    }

    public int title(int cloud, int owner) throws UnsupportedOperationException {
        return change(Kind.TITLE, cloud, owner, 0);
    }

    public int sell(int cloud, int other, int coins) throws UnsupportedOperationException {
        return change(Kind.SELL, cloud, other, coins);
    }

    public int pledge(int cloud, int lender) throws UnsupportedOperationException {
        return change(Kind.PLEDGE, cloud, lender, 0);
    }

    public int redeem(int cloud) throws UnsupportedOperationException {
        return change(Kind.REDEEM, cloud, 0, 0);
    }

    // ---- winds, hail, dawns

    public int wind(int wind) throws UnsupportedOperationException {
        return change(Kind.WIND, wind, 0, 0);
    }

    public int hail(int vineyard) throws UnsupportedOperationException {
        return change(Kind.HAIL, vineyard, 0, 0);
    }

    public int dawn() {
        history.push(office);
        return office.letDawn();
    }

    // ---- what there is

    public int cloudOf(int cloud, int what) throws IndexOutOfBoundsException, IllegalArgumentException {
        if (!office.hasCloud(cloud)) {
            throw new IndexOutOfBoundsException("there is no such cloud");
        }
        if (!isWithin(what, CLOUD_NUMBERS)) {
            throw new IllegalArgumentException("a cloud has no such number");
        }
        return office.clouds[cloud].tell(what);
    }

    public int ownerOf(int owner, int what) throws IndexOutOfBoundsException, IllegalArgumentException {
        demandOwner(owner);
        if (!isWithin(what, OWNER_NUMBERS)) {
            throw new IllegalArgumentException("an owner has no such number");
        }
        return office.tellOfOwner(owner, what);
    }

    public int vineyardOf(int vineyard, int what) throws IndexOutOfBoundsException, IllegalArgumentException {
        if (!isVineyard(vineyard)) {
            throw new IndexOutOfBoundsException("there is no such vineyard");
        }
        if (!isWithin(what, VINEYARD_NUMBERS)) {
            throw new IllegalArgumentException("a vineyard has no such number");
        }
        return office.tellOfVineyard(vineyard, what);
    }

    public int clouds(int owner) throws IndexOutOfBoundsException {
        demandOwner(owner);
        return office.cloudsCounted(owner);
    }

    public int cloudsAgain(int owner) throws IndexOutOfBoundsException {
        demandOwner(owner);
        return office.cloudsLeftOver(owner);
    }

    public int windTo(int cloud, int vineyard) throws IndexOutOfBoundsException {
        if (!office.hasCloud(cloud) || !isVineyard(vineyard)) {
            throw new IndexOutOfBoundsException("there is no such cloud or vineyard");
        }
        return office.clouds[cloud].windByTrying(vineyard);
    }

    public int windToAgain(int cloud, int vineyard) throws IndexOutOfBoundsException {
        if (!office.hasCloud(cloud) || !isVineyard(vineyard)) {
            throw new IndexOutOfBoundsException("there is no such cloud or vineyard");
        }
        return office.clouds[cloud].windByDistance(vineyard);
    }

    public int would(int owner, int wind) throws IndexOutOfBoundsException, IllegalArgumentException {
        demandOwner(owner);
        if (wind < -STRONGEST_WIND || wind > STRONGEST_WIND) {
            throw new IllegalArgumentException("the wind is out of range");
        }
        return cloudsImagined(owner, wind);
    }

    public int bestWind(int owner) throws IndexOutOfBoundsException {
        demandOwner(owner);
        int best = 0;
        int most = NONE;
        for (int wind = -STRONGEST_WIND; wind <= STRONGEST_WIND; wind++) {
            int count = cloudsImagined(owner, wind);
            if (count > most) {
                most = count;
                best = wind;
            }
        }
        return best;
    }

    public int recorded(int ago, int cloud) throws NoSuchElementException {
        Records records = office.records;
        if (!records.hasDawn(ago) || !isWithin(cloud, records.cloudsAt(ago))) {
            throw new NoSuchElementException("there is no such dawn, or there was no such cloud");
        }
        return records.ownerAt(ago, cloud);
    }

    public int coins() {
        return office.coinsCounted();
    }

    public int coinsAgain() {
        return office.coinsByPayments();
    }

    public int greatest(int place) throws NoSuchElementException {
        if (!isWithin(place, office.cloudCount)) {
            throw new NoSuchElementException("there is no such place");
        }
        return office.cloudAtPlace(place);
    }

    public int ranked(int place) throws NoSuchElementException {
        if (!isWithin(place, OWNERS)) {
            throw new NoSuchElementException("there is no such place");
        }
        return office.ownerAtPlace(place);
    }

    // ---- texts, lines, accounts

    public int feed(char character) throws IllegalStateException {
        if (tape.isFull()) {
            throw new IllegalStateException("the tape is full");
        }
        return tape.append(character);
    }

    public int run() throws IllegalArgumentException, UnsupportedOperationException {
        int fault = tape.read();
        tape.empty();
        if (fault != NONE) {
            keptFault = fault;
            throw new IllegalArgumentException("the text has a fault");
        }
        before.copyFrom(office);
        for (int n = 0; n < tape.orderCount; n++) {
            if (tape.orders[n].carryOutIn(office) == REFUSED) {
                reasons.keepOrder(n, office);
                office.copyFrom(before);
                throw new UnsupportedOperationException("an order cannot be done");
            }
        }
        history.push(before);
        return tape.orderCount;
    }

    public int faultPosition() throws NoSuchElementException {
        if (keptFault == NONE) {
            throw new NoSuchElementException("no text had a fault");
        }
        return keptFault;
    }

    public int reason(boolean isBehind, boolean isDetail) throws NoSuchElementException {
        int told = isBehind ? reasons.behind : reasons.reason;
        if (told == NO_REASON) {
            throw new NoSuchElementException("there is no such reason");
        }
        if (!isDetail) {
            return told;
        }
        return isBehind ? reasons.behindDetail : reasons.detail;
    }

    public int line(int cloud) throws IndexOutOfBoundsException {
        if (!office.hasCloud(cloud)) {
            throw new IndexOutOfBoundsException("there is no such cloud");
        }
        text.setLength(0);
        text.append(cloud);
        office.clouds[cloud].writeTo(text);
        return text.length();
    }

    public int dawnLine(int ago) throws NoSuchElementException {
        if (!office.records.hasDawn(ago)) {
            throw new NoSuchElementException("there is no such dawn");
        }
        text.setLength(0);
        office.records.writeTo(text, ago);
        return text.length();
    }

    public char character(int index) throws IndexOutOfBoundsException {
        if (!isWithin(index, text.length())) {
            throw new IndexOutOfBoundsException("there is no such index");
        }
        return text.charAt(index);
    }

    public double meanSize() throws ArithmeticException {
        if (office.cloudCount == 0) {
            throw new ArithmeticException("there are no clouds");
        }
        return (double) office.sizes() / (double) office.cloudCount;
    }

    public float titledShare() throws ArithmeticException {
        if (office.cloudCount == 0) {
            throw new ArithmeticException("there are no clouds");
        }
        return (float) office.titledClouds() / (float) office.cloudCount;
    }

    public int account(int what) throws IllegalArgumentException {
        if (!isWithin(what, ACCOUNTS)) {
            throw new IllegalArgumentException("there is no such account");
        }
        if (what == TAPE_ACCOUNT) {
            return tape.length;
        }
        return what == UNDO_ACCOUNT ? history.count : office.tellAccount(what);
    }

    public boolean isBalanced() {
        return office.areCloudsAlike() && office.coinsCounted() == office.coinsByPayments() && office.areWindsAlike();
    }

    // ---- undo and the snapshot

    public int undo() throws IllegalStateException {
        if (history.count == 0) {
            throw new IllegalStateException("nothing can be undone");
        }
        history.popInto(office);
        return history.count;
    }

    public int save() {
        saved.copyFrom(office);
        isSaved = true;
        return office.cloudCount;
    }

    public int restore() throws IllegalStateException {
        if (!isSaved) {
            throw new IllegalStateException("nothing was saved");
        }
        office.copyFrom(saved);
        history.clear();
        return office.cloudCount;
    }

    // ---- what the calls share

    private int change(Kind kind, int first, int second, int third) {
        before.copyFrom(office);
        int answer = office.carryOut(kind, first, second, third);
        if (answer == REFUSED) {
            reasons.keep(office);
            throw new UnsupportedOperationException("this is refused");
        }
        history.push(before);
        return answer;
    }

    private int cloudsImagined(int owner, int wind) {
        imagined.copyFrom(office);
        if (wind != 0) {
            imagined.blow(wind);
        }
        imagined.letDawn();
        return imagined.cloudsCounted(owner);
    }

    private static void demandOwner(int owner) {
        if (!isOwner(owner)) {
            throw new IndexOutOfBoundsException("there is no such owner");
        }
    }

    private static boolean isWithin(int number, int end) {
        return number >= 0 && number < end;
    }

    private static boolean isOwner(int owner) {
        return owner >= 0 && owner < OWNERS;
    }

    private static boolean isVineyard(int vineyard) {
        return vineyard >= 0 && vineyard < VINEYARDS;
    }

    private static void copyNumbers(int[] from, int[] to) {
        System.arraycopy(from, 0, to, 0, Math.min(from.length, to.length));
    }

    /** A cloud, and its title and its pledge, if it has them. */
    private static final class Cloud {
        private int vineyard = 0;
        private int shape = 0;
        private int size = 0;
        private int owner = NONE;
        private int titleShape = NONE;
        private int lender = NONE;
        private int pledgedSize = 0;

        void copyFrom(Cloud other) {
            vineyard = other.vineyard;
            shape = other.shape;
            size = other.size;
            owner = other.owner;
            titleShape = other.titleShape;
            lender = other.lender;
            pledgedSize = other.pledgedSize;
        }

        void comeOver(int newVineyard, int newShape, int newSize) {
            vineyard = newVineyard;
            shape = newShape;
            size = newSize;
            loseTitle();
        }

        boolean hasTitle() {
            return owner != NONE;
        }

        boolean isPledged() {
            return lender != NONE;
        }

        boolean hasTitleForOtherShape() {
            return hasTitle() && titleShape != shape;
        }

        /** A new title is for the shape of now, and no pledge outlives the old one. */
        void entitle(int newOwner) {
            owner = newOwner;
            titleShape = shape;
            endPledge();
        }

        void loseTitle() {
            owner = NONE;
            titleShape = NONE;
            endPledge();
        }

        void pledgeTo(int newLender) {
            lender = newLender;
            pledgedSize = size;
        }

        void endPledge() {
            lender = NONE;
            pledgedSize = 0;
        }

        int loan() {
            return LOAN_FOR_SIZE * size;
        }

        int redemption() {
            return isPledged() ? LOAN_FOR_SIZE * pledgedSize + INTEREST : 0;
        }

        void drift(int wind) {
            vineyard = vineyardAfter(wind);
            shape = Math.floorMod(shape + Math.abs(wind), SHAPES);
        }

        int vineyardAfter(int wind) {
            return Math.floorMod(vineyard + wind, VINEYARDS);
        }

        int windByTrying(int target) {
            for (int strength = 0; strength <= STRONGEST_WIND; strength++) {
                if (vineyardAfter(strength) == target) {
                    return strength;
                }
                if (vineyardAfter(-strength) == target) {
                    return -strength;
                }
            }
            return 0;
        }

        int windByDistance(int target) {
            int far = Math.floorMod(target - vineyard, VINEYARDS);
            return far <= STRONGEST_WIND ? far : far - VINEYARDS;
        }

        boolean isAheadOf(Cloud later) {
            if (size != later.size) {
                return size > later.size;
            }
            return hasTitle() && !later.hasTitle();
        }

        int tell(int what) {
            switch (what) {
                case 0: return vineyard;
                case 1: return shape;
                case 2: return size;
                case 3: return owner;
                case 4: return titleShape;
                case 5: return lender;
                default: return redemption();
            }
        }

        void writeTo(StringBuilder text) {
            text.append('@').append(vineyard).append(':').append(shape).append('/').append(size);
            if (hasTitle()) {
                text.append('=').append(owner);
            }
            if (hasTitleForOtherShape()) {
                text.append('?');
            }
            if (isPledged()) {
                text.append('*').append(lender);
            }
        }
    }

    /** The owners of the clouds at the latest dawns: those of one dawn lie side by side, the latest dawn first. */
    private static final class Records {
        private final int[] owners = new int[KEPT_DAWNS * MOST_CLOUDS];
        private final int[] cloudCounts = new int[KEPT_DAWNS];
        private int count = 0;

        void copyFrom(Records other) {
            copyNumbers(other.owners, owners);
            copyNumbers(other.cloudCounts, cloudCounts);
            count = other.count;
        }

        void record(Cloud[] clouds, int cloudCount) {
            makeRoom();
            for (int n = 0; n < cloudCount && n < MOST_CLOUDS; n++) {
                owners[n] = clouds[n].owner;
            }
            cloudCounts[0] = cloudCount;
            count = Math.min(count + 1, KEPT_DAWNS);
        }

        private void makeRoom() {
            for (int n = owners.length - 1; n >= MOST_CLOUDS; n--) {
                owners[n] = owners[n - MOST_CLOUDS];
            }
            for (int n = cloudCounts.length - 1; n >= 1; n--) {
                cloudCounts[n] = cloudCounts[n - 1];
            }
        }

        boolean hasDawn(int ago) {
            return isWithin(ago, count);
        }

        int cloudsAt(int ago) {
            return hasDawn(ago) ? cloudCounts[ago] : 0;
        }

        int ownerAt(int ago, int cloud) {
            return isWithin(cloud, cloudsAt(ago)) ? owners[ago * MOST_CLOUDS + cloud] : NONE;
        }

        void writeTo(StringBuilder text, int ago) {
            for (int n = 0; n < cloudsAt(ago); n++) {
                int owner = ownerAt(ago, n);
                if (owner == NONE) {
                    text.append('-');
                } else {
                    text.append(owner);
                }
            }
        }
    }

    /** All that goes back when a change is undone, with the rules for its changes. */
    private static final class Office {
        private final Cloud[] clouds = new Cloud[MOST_CLOUDS];
        private int cloudCount = 0;
        private final int[] vineyardOwners = new int[VINEYARDS];
        private final int[] purses = new int[OWNERS];
        private final Records records = new Records();
        private int dawns = 0;
        private int lapsed = 0;
        private int claimed = 0;
        private int foreclosed = 0;
        private int gone = 0;
        private int officeCoins = 0;
        private int dawnCoins = 0;
        // Why the latest change was refused. This does not go back, so it is not copied.
        private int refusal = NO_REASON;
        private int refusalDetail = 0;

        Office() {
            for (int n = 0; n < clouds.length; n++) {
                clouds[n] = new Cloud();
            }
            for (int n = 0; n < vineyardOwners.length; n++) {
                vineyardOwners[n] = NONE;
            }
            for (int n = 0; n < purses.length; n++) {
                purses[n] = FIRST_COINS;
            }
        }

        void copyFrom(Office other) {
            for (int n = 0; n < clouds.length; n++) {
                clouds[n].copyFrom(other.clouds[n]);
            }
            cloudCount = other.cloudCount;
            copyNumbers(other.vineyardOwners, vineyardOwners);
            copyNumbers(other.purses, purses);
            records.copyFrom(other.records);
            dawns = other.dawns;
            lapsed = other.lapsed;
            claimed = other.claimed;
            foreclosed = other.foreclosed;
            gone = other.gone;
            officeCoins = other.officeCoins;
            dawnCoins = other.dawnCoins;
        }

        // ---- the changes: each answers REFUSED and keeps why, or is done and answers a number from 0 on

        int carryOut(Kind kind, int first, int second, int third) {
            switch (kind) {
                case CLOUD: return letCome(first, second, third);
                case VINE: return giveVineyard(first, second);
                case TITLE: return giveTitle(first, second);
                case SELL: return sellTo(first, second, third);
                case PLEDGE: return pledgeTo(first, second);
                case REDEEM: return redeemPledge(first);
                case WIND: return blow(first);
                case HAIL: return hailDown(first);
                default: return letDawn();
            }
        }

        private int refuse(int reason, int detail) {
            refusal = reason;
            refusalDetail = detail;
            return REFUSED;
        }

        int letCome(int vineyard, int shape, int size) {
            if (!isVineyard(vineyard)) {
                return refuse(NOT_THERE, vineyard);
            }
            if (!isWithin(shape, SHAPES)) {
                return refuse(OUT_OF_RANGE, shape);
            }
            if (size < 1 || size > GREATEST_SIZE) {
                return refuse(OUT_OF_RANGE, size);
            }
            if (!isWithin(cloudCount, MOST_CLOUDS)) {
                return refuse(FULL, cloudCount);
            }
            clouds[cloudCount].comeOver(vineyard, shape, size);
            cloudCount++;
            return cloudCount - 1;
        }

        int giveVineyard(int vineyard, int owner) {
            if (!isVineyard(vineyard)) {
                return refuse(NOT_THERE, vineyard);
            }
            if (owner != NONE && !isOwner(owner)) {
                return refuse(NOT_THERE, owner);
            }
            if (vineyardOwners[vineyard] == owner) {
                return refuse(SO_ALREADY, owner);
            }
            vineyardOwners[vineyard] = owner;
            return ownedVineyards();
        }

        int giveTitle(int number, int owner) {
            if (!hasCloud(number)) {
                return refuse(NOT_THERE, number);
            }
            if (!isOwner(owner)) {
                return refuse(NOT_THERE, owner);
            }
            Cloud cloud = clouds[number];
            if (cloud.hasTitle()) {
                return refuse(TITLED, cloud.owner);
            }
            if (purses[owner] < cloud.size) {
                return refuse(TOO_FEW_COINS, purses[owner]);
            }
            purses[owner] -= cloud.size;
            officeCoins += cloud.size;
            cloud.entitle(owner);
            return purses[owner];
        }

        int sellTo(int number, int other, int price) {
            if (!hasCloud(number)) {
                return refuse(NOT_THERE, number);
            }
            if (!isOwner(other)) {
                return refuse(NOT_THERE, other);
            }
            if (price < 0 || price > DEAREST_SALE) {
                return refuse(OUT_OF_RANGE, price);
            }
            Cloud cloud = clouds[number];
            if (checkDeal(cloud, number, other, price) == REFUSED) {
                return REFUSED;
            }
            int seller = cloud.owner;
            pay(other, seller, price);
            cloud.entitle(other);
            return purseOf(seller);
        }

        int pledgeTo(int number, int lender) {
            if (!hasCloud(number)) {
                return refuse(NOT_THERE, number);
            }
            if (!isOwner(lender)) {
                return refuse(NOT_THERE, lender);
            }
            Cloud cloud = clouds[number];
            int loan = cloud.loan();
            if (checkDeal(cloud, number, lender, loan) == REFUSED) {
                return REFUSED;
            }
            pay(lender, cloud.owner, loan);
            cloud.pledgeTo(lender);
            return loan;
        }

        /** What a sale and a pledge have in common: one pays the owner of a cloud that is free for the deal. */
        private int checkDeal(Cloud cloud, int number, int payer, int price) {
            if (!cloud.hasTitle()) {
                return refuse(UNTITLED, number);
            }
            if (cloud.owner == payer) {
                return refuse(SO_ALREADY, payer);
            }
            if (cloud.isPledged()) {
                return refuse(PLEDGED, cloud.lender);
            }
            if (purseOf(payer) < price) {
                return refuse(TOO_FEW_COINS, purseOf(payer));
            }
            return ALLOWED;
        }

        int redeemPledge(int number) {
            if (!hasCloud(number)) {
                return refuse(NOT_THERE, number);
            }
            Cloud cloud = clouds[number];
            if (!cloud.isPledged()) {
                return refuse(NOT_PLEDGED, number);
            }
            int price = cloud.redemption();
            if (purseOf(cloud.owner) < price) {
                return refuse(TOO_FEW_COINS, purseOf(cloud.owner));
            }
            pay(cloud.owner, cloud.lender, price);
            cloud.endPledge();
            return price;
        }

        int blow(int wind) {
            if (wind == 0 || wind < -STRONGEST_WIND || wind > STRONGEST_WIND) {
                return refuse(OUT_OF_RANGE, wind);
            }
            int others = 0;
            for (int n = 0; n < cloudCount; n++) {
                clouds[n].drift(wind);
                if (clouds[n].hasTitleForOtherShape()) {
                    others++;
                }
            }
            return others;
        }

        int hailDown(int vineyard) {
            if (!isVineyard(vineyard)) {
                return refuse(NOT_THERE, vineyard);
            }
            int count = 0;
            for (int n = 0; n < cloudCount; n++) {
                Cloud cloud = clouds[n];
                if (cloud.vineyard == vineyard && cloud.isPledged()) {
                    cloud.entitle(cloud.lender);
                    count++;
                } else if (cloud.vineyard == vineyard) {
                    cloud.size--;
                }
            }
            foreclosed += count;
            removeGone();
            return count;
        }

        private void removeGone() {
            int left = 0;
            for (int n = 0; n < cloudCount; n++) {
                if (clouds[n].size > 0) {
                    clouds[left].copyFrom(clouds[n]);
                    left++;
                }
            }
            gone += cloudCount - left;
            cloudCount = left;
        }

        int letDawn() {
            lapseTitles();
            int count = claimClouds();
            payForClouds();
            records.record(clouds, cloudCount);
            dawns++;
            return count;
        }

        private void lapseTitles() {
            for (int n = 0; n < cloudCount; n++) {
                if (clouds[n].hasTitleForOtherShape()) {
                    clouds[n].loseTitle();
                    lapsed++;
                }
            }
        }

        private int claimClouds() {
            int count = 0;
            for (int n = 0; n < cloudCount; n++) {
                int owner = ownerBelow(clouds[n]);
                if (!clouds[n].hasTitle() && owner != NONE) {
                    clouds[n].entitle(owner);
                    count++;
                }
            }
            claimed += count;
            return count;
        }

        private void payForClouds() {
            for (int n = 0; n < cloudCount; n++) {
                int owner = clouds[n].owner;
                if (isOwner(owner) && owner == ownerBelow(clouds[n])) {
                    purses[owner]++;
                    dawnCoins++;
                }
            }
        }

        private void pay(int payer, int payee, int price) {
            if (isOwner(payer) && isOwner(payee)) {
                purses[payer] -= price;
                purses[payee] += price;
            }
        }

        // ---- what there is

        boolean hasCloud(int number) {
            return isWithin(number, cloudCount);
        }

        private int purseOf(int owner) {
            return isOwner(owner) ? purses[owner] : 0;
        }

        private int ownerBelow(Cloud cloud) {
            return isVineyard(cloud.vineyard) ? vineyardOwners[cloud.vineyard] : NONE;
        }

        int cloudsCounted(int owner) {
            int count = 0;
            for (int n = 0; n < cloudCount; n++) {
                if (clouds[n].owner == owner) {
                    count++;
                }
            }
            return count;
        }

        int cloudsLeftOver(int owner) {
            int left = cloudCount - cloudsCounted(NONE);
            for (int other = 0; other < OWNERS; other++) {
                if (other != owner) {
                    left -= cloudsCounted(other);
                }
            }
            return left;
        }

        boolean areCloudsAlike() {
            for (int owner = 0; owner < OWNERS; owner++) {
                if (cloudsCounted(owner) != cloudsLeftOver(owner)) {
                    return false;
                }
            }
            return true;
        }

        boolean areWindsAlike() {
            for (int n = 0; n < cloudCount; n++) {
                for (int vineyard = 0; vineyard < VINEYARDS; vineyard++) {
                    if (clouds[n].windByTrying(vineyard) != clouds[n].windByDistance(vineyard)) {
                        return false;
                    }
                }
            }
            return true;
        }

        int coinsCounted() {
            int sum = 0;
            for (int owner = 0; owner < OWNERS; owner++) {
                sum += purses[owner];
            }
            return sum;
        }

        int coinsByPayments() {
            return OWNERS * FIRST_COINS + dawnCoins - officeCoins;
        }

        int sizes() {
            int sum = 0;
            for (int n = 0; n < cloudCount; n++) {
                sum += clouds[n].size;
            }
            return sum;
        }

        int titledClouds() {
            return cloudCount - cloudsCounted(NONE);
        }

        private int pledgedClouds() {
            int count = 0;
            for (int n = 0; n < cloudCount; n++) {
                if (clouds[n].isPledged()) {
                    count++;
                }
            }
            return count;
        }

        private int ownedVineyards() {
            return VINEYARDS - vineyardsBelongingTo(NONE);
        }

        private int vineyardsBelongingTo(int owner) {
            int count = 0;
            for (int n = 0; n < vineyardOwners.length; n++) {
                if (vineyardOwners[n] == owner) {
                    count++;
                }
            }
            return count;
        }

        int tellOfOwner(int owner, int what) {
            if (what == 0) {
                return purseOf(owner);
            }
            if (what == 1) {
                return vineyardsBelongingTo(owner);
            }
            int sum = 0;
            for (int n = 0; n < cloudCount; n++) {
                Cloud cloud = clouds[n];
                if (what == 2 && cloud.lender == owner) {
                    sum++;
                } else if (what == 3 && cloud.owner == owner && cloud.isPledged()) {
                    sum++;
                } else if (what == 4 && cloud.owner == owner) {
                    sum += cloud.size;
                }
            }
            return sum;
        }

        int tellOfVineyard(int vineyard, int what) {
            if (what == 0) {
                return isVineyard(vineyard) ? vineyardOwners[vineyard] : NONE;
            }
            int sum = 0;
            for (int n = 0; n < cloudCount; n++) {
                if (clouds[n].vineyard == vineyard) {
                    sum += what == 1 ? 1 : clouds[n].size;
                }
            }
            return sum;
        }

        int tellAccount(int what) {
            switch (what) {
                case 0: return cloudCount;
                case 1: return titledClouds();
                case 2: return pledgedClouds();
                case 3: return ownedVineyards();
                case 4: return dawns;
                case 5: return lapsed;
                case 6: return claimed;
                case 7: return foreclosed;
                case 8: return gone;
                case 9: return officeCoins;
                default: return dawnCoins;
            }
        }

        /** The place of a cloud in the order is the number of clouds that go ahead of it; so for owners. */
        int cloudAtPlace(int place) {
            for (int n = 0; n < cloudCount; n++) {
                if (cloudsAheadOf(n) == place) {
                    return n;
                }
            }
            return NONE;
        }

        private int cloudsAheadOf(int number) {
            int count = 0;
            for (int n = 0; n < cloudCount; n++) {
                if (isCloudAhead(n, number)) {
                    count++;
                }
            }
            return count;
        }

        private boolean isCloudAhead(int number, int later) {
            if (!hasCloud(number) || !hasCloud(later)) {
                return false;
            }
            if (clouds[number].isAheadOf(clouds[later])) {
                return true;
            }
            return number < later && !clouds[later].isAheadOf(clouds[number]);
        }

        int ownerAtPlace(int place) {
            for (int owner = 0; owner < OWNERS; owner++) {
                if (ownersAheadOf(owner) == place) {
                    return owner;
                }
            }
            return NONE;
        }

        private int ownersAheadOf(int owner) {
            int count = 0;
            for (int other = 0; other < OWNERS; other++) {
                if (isOwnerAhead(other, owner)) {
                    count++;
                }
            }
            return count;
        }

        private boolean isOwnerAhead(int owner, int later) {
            int more = cloudsCounted(owner) - cloudsCounted(later);
            if (more != 0) {
                return more > 0;
            }
            if (purseOf(owner) != purseOf(later)) {
                return purseOf(owner) > purseOf(later);
            }
            return owner < later;
        }
    }

    /** The offices as they were ahead of the latest changes, in a ring. */
    private static final class History {
        private final Office[] kept = new Office[KEPT_CHANGES];
        private int next = 0;
        private int count = 0;

        History() {
            for (int n = 0; n < kept.length; n++) {
                kept[n] = new Office();
            }
        }

        void push(Office office) {
            if (isWithin(next, kept.length)) {
                kept[next].copyFrom(office);
            }
            next = Math.floorMod(next + 1, KEPT_CHANGES);
            count = Math.min(count + 1, KEPT_CHANGES);
        }

        void popInto(Office office) {
            next = Math.floorMod(next - 1, KEPT_CHANGES);
            count--;
            if (isWithin(next, kept.length)) {
                office.copyFrom(kept[next]);
            }
        }

        void clear() {
            count = 0;
        }
    }

    /** The reason that was kept last, and the one behind it. */
    private static final class Reasons {
        private int reason = NO_REASON;
        private int detail = 0;
        private int behind = NO_REASON;
        private int behindDetail = 0;

        void keep(Office office) {
            reason = office.refusal;
            detail = office.refusalDetail;
            behind = NO_REASON;
            behindDetail = 0;
        }

        void keepOrder(int number, Office office) {
            reason = ORDER_REFUSED;
            detail = number;
            behind = office.refusal;
            behindDetail = office.refusalDetail;
        }
    }

    /**
     * The kinds of orders with their forms. In a form '#' stands for a digit, '%' for a number, '~' for a digit with
     * a "-" ahead of it or none, '!' for ">" and a digit or for "-", and any other sign for itself. Each form starts
     * with another letter, so that the first one tells the kind.
     */
    private enum Kind {
        CLOUD("cloud # # #"),
        VINE("vine #!"),
        TITLE("title #>#"),
        SELL("sell #>#=%"),
        PLEDGE("pledge #>#"),
        REDEEM("redeem #"),
        WIND("wind ~"),
        HAIL("hail #"),
        DAWN("dawn");

        private final String form;

        Kind(String form) {
            this.form = form;
        }

        boolean startsWith(int sign) {
            return !form.isEmpty() && form.charAt(0) == sign;
        }
    }

    /** An order of a text, with its numbers. */
    private static final class Order {
        private Kind kind = Kind.DAWN;
        private final int[] numbers = new int[MOST_NUMBERS];
        private int count = 0;

        void start(Kind newKind) {
            kind = newKind;
            count = 0;
        }

        boolean add(int number) {
            if (!isWithin(count, numbers.length)) {
                return false;
            }
            numbers[count] = number;
            count++;
            return true;
        }

        int carryOutIn(Office office) {
            return office.carryOut(kind, numbers[0], numbers[1], numbers[2]);
        }
    }

    /** The tape, and the orders that were read from it. */
    private static final class Tape {
        private final char[] signs = new char[TAPE_LENGTH];
        private int length = 0;
        private int place = 0;
        private final Order[] orders = new Order[MOST_ORDERS];
        private int orderCount = 0;

        Tape() {
            for (int n = 0; n < orders.length; n++) {
                orders[n] = new Order();
            }
        }

        boolean isFull() {
            return !isWithin(length, signs.length);
        }

        int append(char sign) {
            if (isWithin(length, signs.length)) {
                signs[length] = sign;
                length++;
            }
            return length;
        }

        void empty() {
            length = 0;
        }

        /** Reads the tape as a text; answers the position of its fault, or NONE. */
        int read() {
            place = 0;
            orderCount = 0;
            for (int n = 0; n < orders.length; n++) {
                if (!readOrder(orders[n])) {
                    return place;
                }
                orderCount++;
                if (place == length) {
                    return NONE;
                }
                if (!readSign(';')) {
                    return place;
                }
            }
            // As many orders as the tape can hold, each with a ";" behind it: it is full, and one more order is due.
            return place;
        }

        private boolean readOrder(Order order) {
            for (int n = 0; n < KINDS.length; n++) {
                if (KINDS[n].startsWith(nextSign())) {
                    order.start(KINDS[n]);
                    return readForm(KINDS[n].form, order);
                }
            }
            return false;
        }

        private boolean readForm(String form, Order order) {
            for (int n = 0; n < form.length(); n++) {
                if (!readPart(form.charAt(n), order)) {
                    return false;
                }
            }
            return true;
        }

        private boolean readPart(char part, Order order) {
            if (part == '#') {
                return readDigit(order, 1);
            }
            if (part == '%') {
                return readNumber(order);
            }
            if (part == '~') {
                return readDigit(order, readSign('-') ? -1 : 1);
            }
            if (part == '!') {
                return readSign('-') ? order.add(NONE) : readSign('>') && readDigit(order, 1);
            }
            return readSign(part);
        }

        private boolean readDigit(Order order, int factor) {
            int digit = nextDigit();
            if (digit == NONE) {
                return false;
            }
            place++;
            return order.add(factor * digit);
        }

        private boolean readNumber(Order order) {
            int number = nextDigit();
            if (number == NONE) {
                return false;
            }
            place++;
            int second = nextDigit();
            if (second != NONE) {
                number = 10 * number + second;
                place++;
            }
            return order.add(number);
        }

        private boolean readSign(int sign) {
            if (nextSign() != sign) {
                return false;
            }
            place++;
            return true;
        }

        /** The next digit, or NONE if something else is next. */
        private int nextDigit() {
            int sign = nextSign();
            return sign >= '0' && sign <= '9' ? sign - '0' : NONE;
        }

        /** The next character, or NONE at the end of the tape: no character has that number. */
        private int nextSign() {
            return place >= 0 && place < length && place < signs.length ? signs[place] : NONE;
        }
    }
}

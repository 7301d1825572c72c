/** Auction of fishing spots by sealed bids. The promises in ../shared/DOC.md say what each call does. */
public final class SealedSpots {
    public static final int NONE = -1;

    private static final int SPOTS = 6;
    private static final int BIDDERS = 6;
    private static final int ALL_BIDDERS = (1 << BIDDERS) - 1;
    private static final int MOST_AMOUNT = 99;
    private static final int MOST_PRICE = 99;
    private static final int MOST_FISH = 200;
    private static final int MOST_COINS = 9999;
    private static final int LAST_HOUR = 23;
    private static final int FIRST_CODE = 33;
    private static final int LAST_CODE = 126;

    private final State state = new State();
    private final Sharing sharing = new Sharing();
    private final History history = new History();
    private final Text text = new Text();

    public SealedSpots() {
    }

    // ---- spots, bidders

    public int price(int spot, int price) throws IndexOutOfBoundsException, IllegalArgumentException {
        needPlace(spot, SPOTS);
        needRange(price, 0, MOST_PRICE);
        history.save(state);
        int before = state.get(State.PRICE, spot);
        state.put(State.PRICE, spot, price);
        return before;
    }

    public int pay(int bidder, int coins)
            throws IndexOutOfBoundsException, IllegalArgumentException, IllegalStateException {
        needPlace(bidder, BIDDERS);
        needRange(coins, 1, MOST_AMOUNT);
        needState(state.get(State.COINS) + coins <= MOST_COINS);
        history.save(state);
        state.add(State.COINS, 0, coins);
        state.add(State.PURSE, bidder, coins);
        return state.get(State.PURSE, bidder);
    }

    public int set(int setting, int value) throws IndexOutOfBoundsException, IllegalArgumentException {
        needPlace(setting, State.SETTINGS);
        needRange(value, 0, State.mostOfSetting(setting));
        history.save(state);
        int before = state.get(State.SETTING, setting);
        state.put(State.SETTING, setting, value);
        return before;
    }

    // ---- a day

    public int bid(int bidder, int spot, int amount)
            throws IndexOutOfBoundsException, IllegalArgumentException, IllegalStateException {
        needPlace(bidder, BIDDERS);
        needPlace(spot, SPOTS);
        needRange(amount, 1, MOST_AMOUNT);
        needState(state.whyNotSealed(bidder, spot, amount) == 0);
        history.save(state);
        return state.sealBid(bidder, spot, amount);
    }

    public int withdraw(int bidder, int spot) throws IndexOutOfBoundsException, IllegalStateException {
        needPlace(bidder, BIDDERS);
        needPlace(spot, SPOTS);
        needState(state.whyNotWithdrawn(bidder, spot) == 0);
        history.save(state);
        return state.takeBack(bidder, spot);
    }

    public int pause(int hours) throws IllegalArgumentException {
        needRange(hours, 1, LAST_HOUR);
        history.save(state);
        return state.passHours(hours);
    }

    public int open() throws IllegalStateException {
        needState(!state.isOpened());
        history.save(state);
        return shareOut();
    }

    public int fish(int spot) throws IndexOutOfBoundsException, IllegalStateException {
        needPlace(spot, SPOTS);
        needState(state.canFish(spot));
        history.save(state);
        return state.catchFish(spot);
    }

    public int nextDay() {
        history.save(state);
        return state.beginDay();
    }

    // ---- texts, the snapshot

    public int append(int code) throws IllegalArgumentException, IllegalStateException {
        needRange(code, FIRST_CODE, LAST_CODE);
        needState(!text.isFull());
        return text.add(code);
    }

    public int clearBuffer() {
        return text.empty();
    }

    public int firstError() {
        return text.firstWrong();
    }

    public int run() throws IllegalArgumentException {
        if (!text.isComplete()) {
            throw new IllegalArgumentException("the buffer is not a complete auction");
        }
        history.save(state);
        int done = 0;
        int begin = 0;
        boolean possible = true;
        for (int end = 0; possible && end <= text.length(); end++) {
            if (text.isEndOfPart(end)) {
                possible = doPart(begin, end);
                done += possible ? 1 : 0;
                begin = end + 1;
            }
        }
        text.empty();
        return done;
    }

    public int keep() {
        history.takeSnapshot(state);
        return state.get(State.CHEST);
    }

    public int goBack() throws IllegalStateException {
        needState(history.hasSnapshot());
        history.save(state);
        history.restoreSnapshot(state);
        return state.get(State.CHEST);
    }

    public int undo() throws IllegalStateException {
        needState(history.savedStates() > 0);
        history.restoreLatest(state);
        return history.savedStates();
    }

    // ---- looks; nothing is changed

    public int spot(int spot, int what) throws IndexOutOfBoundsException, IllegalArgumentException {
        needPlace(spot, SPOTS);
        switch (what) {
            case 0: return state.get(State.PRICE, spot);
            case 1: return state.get(State.FISH, spot);
            case 2: return state.get(State.OWNER, spot);
            case 3: return state.get(State.PAID, spot);
            case 4: return state.bidsForSpot(spot);
            case 5: return state.get(State.CAUGHT_AT, spot);
            default: throw new IllegalArgumentException("no such number of a spot");
        }
    }

    public int bidder(int bidder, int what) throws IndexOutOfBoundsException, IllegalArgumentException {
        needPlace(bidder, BIDDERS);
        switch (what) {
            case 0: return state.get(State.PURSE, bidder);
            case 1: return state.get(State.CATCH, bidder);
            case 2: return state.bidsOfBidder(bidder);
            case 3: return state.spotOfOwner(bidder);
            case 4: return state.get(State.PRICES, bidder);
            case 5: return state.get(State.FEES, bidder);
            default: throw new IllegalArgumentException("no such number of a bidder");
        }
    }

    public int sealed(int bidder, int spot, int what) throws IndexOutOfBoundsException, IllegalArgumentException {
        needPlace(bidder, BIDDERS);
        needPlace(spot, SPOTS);
        needRange(what, 0, 4);
        if (what == 4) {
            return state.whyNotWithdrawn(bidder, spot);
        }
        return state.hasBid(bidder, spot) ? numberOfBid(bidder, spot, what) : NONE;
    }

    public int count(int what) throws IllegalArgumentException {
        switch (what) {
            case 0: return state.get(State.DAYS);
            case 1: return state.get(State.HOUR);
            case 2: return state.isOpened() ? 1 : 0;
            case 3: return state.bidsInAll();
            case 4: return state.get(State.CHEST);
            case 5: return state.sum(State.PURSE, BIDDERS);
            case 6: return state.get(State.COINS);
            case 7: return state.sum(State.FEES, BIDDERS);
            case 8: return state.sum(State.PRICES, BIDDERS);
            case 9: return state.get(State.GIVEN);
            case 10: return state.sum(State.FISH, SPOTS);
            case 11: return state.sum(State.CATCH, BIDDERS);
            case 12: return state.get(State.SEALED);
            case 13: return state.get(State.WITHDRAWN);
            case 14: return history.savedStates();
            default: throw new IllegalArgumentException("no such count");
        }
    }

    public int setting(int setting) throws IndexOutOfBoundsException {
        needPlace(setting, State.SETTINGS);
        return state.get(State.SETTING, setting);
    }

    public int why(int bidder, int spot, int amount) throws IndexOutOfBoundsException, IllegalArgumentException {
        needPlace(bidder, BIDDERS);
        needPlace(spot, SPOTS);
        needRange(amount, 1, MOST_AMOUNT);
        return state.whyNotSealed(bidder, spot, amount);
    }

    // ---- what would be; nothing is changed (the purses, prices and bids of now count, whether the bids are
    // opened or not)

    public int worth(int without, int way) throws IllegalArgumentException {
        needRange(without, 0, BIDDERS);
        needRange(way, 0, 1);
        findSharing();
        return way == 0 ? sharing.worthByTrying(without) : sharing.worthWithout(without);
    }

    public int ifOpened(int spot, int what) throws IndexOutOfBoundsException, IllegalArgumentException {
        needPlace(spot, SPOTS);
        needRange(what, 0, 1);
        findSharing();
        return what == 0 ? sharing.ownerOf(spot) : sharing.priceOf(spot, state);
    }

    public int ifBid(int bidder, int spot, int amount, int what)
            throws IndexOutOfBoundsException, IllegalArgumentException {
        needPlace(bidder, BIDDERS);
        needPlace(spot, SPOTS);
        needRange(amount, 1, MOST_AMOUNT);
        needRange(what, 0, 1);
        sharing.readBids(state);
        sharing.replaceBid(bidder, spot, Sharing.keyOf(state, bidder, spot, amount));
        sharing.find(NONE);
        int won = sharing.spotOf(bidder);
        return what == 0 || won == NONE ? won : sharing.priceOf(won, state);
    }

    public int least(int bidder, int spot) throws IndexOutOfBoundsException {
        needPlace(bidder, BIDDERS);
        needPlace(spot, SPOTS);
        return leastWinning(bidder, spot);
    }

    public int keenest() {
        findSharing();
        int keenest = 0;
        for (int bidder = 1; bidder < BIDDERS; bidder++) {
            if (sharing.worthWithout(bidder) < sharing.worthWithout(keenest)) {
                keenest = bidder;
            }
        }
        return keenest;
    }

    public double chestShare() {
        int coins = count(6);
        return coins == 0 ? 0.0 : (double) count(4) / coins;
    }

    public float meanPrice() {
        int given = count(9);
        return given == 0 ? 0.0f : (float) count(8) / given;
    }

    public long digest() {
        long hash = 3797L;
        for (int what = 0; what <= 14; what++) {
            hash = mix(hash, count(what));
        }
        for (int setting = 0; setting < State.SETTINGS; setting++) {
            hash = mix(hash, setting(setting));
        }
        hash = mixSpots(hash);
        hash = mixBidders(hash);
        hash = mixBids(hash);
        hash = mixWorths(hash);
        hash = mix(hash, ifBid(1, 2, 20, 0));
        hash = mix(hash, ifBid(1, 2, 20, 1));
        hash = mix(hash, least(0, 0));
        hash = mix(hash, keenest());
        hash = mix(hash, bitsOf(chestShare(), 52, 1023));
        hash = mix(hash, bitsOf(meanPrice(), 23, 127));
        hash = mix(hash, history.hasSnapshot() ? 1 : 0);
        return mixText(hash);
    }

    // ---- arguments

    private static void needPlace(int number, int places) {
        if (number < 0 || number >= places) {
            throw new IndexOutOfBoundsException("no such spot, bidder or setting");
        }
    }

    private static void needRange(int number, int lowest, int highest) {
        if (number < lowest || number > highest) {
            throw new IllegalArgumentException("a number is out of range");
        }
    }

    private static void needState(boolean possible) {
        if (!possible) {
            throw new IllegalStateException("that can not be done now");
        }
    }

    // ---- parts of the calls above

    private int numberOfBid(int bidder, int spot, int what) {
        switch (what) {
            case 0: return state.ofBid(State.SEAL, bidder, spot);
            case 1: return state.ofBid(State.SEAL_HOUR, bidder, spot);
            case 2: return state.isOpened() ? state.ofBid(State.AMOUNT, bidder, spot) : NONE;
            default: return state.feeFor(bidder, spot);
        }
    }

    private void findSharing() {
        sharing.readBids(state);
        sharing.find(NONE);
    }

    private int shareOut() {
        findSharing();
        state.openBids();
        int given = 0;
        for (int spot = 0; spot < SPOTS; spot++) {
            int owner = sharing.ownerOf(spot);
            if (owner != NONE) {
                state.giveSpot(spot, owner, sharing.priceOf(spot, state));
                given++;
            }
        }
        return given;
    }

    /** The best sharing with this bid is that of the others and it, so two searches tell it for every amount. */
    private int leastWinning(int bidder, int spot) {
        sharing.readBids(state);
        sharing.replaceBid(bidder, spot, 0L);
        sharing.find(NONE);
        long without = sharing.keyWithout(NONE);
        sharing.find(spot);
        long others = sharing.keyWithout(bidder);
        for (int amount = 1; amount <= MOST_AMOUNT; amount++) {
            long key = Sharing.keyOf(state, bidder, spot, amount);
            if (key != 0L && others + key > without) {
                return amount;
            }
        }
        return NONE;
    }

    /** False where the call of this part would throw. */
    private boolean doPart(int begin, int end) {
        int first = text.digit(begin + 1);
        int second = text.digit(begin + 2);
        switch (text.code(begin)) {
            case 'b': return sealIfPossible(first, second, text.number(begin + 3, end));
            case 'w': return takeBackIfPossible(first, second);
            case 'h':
                state.passHours(text.number(begin + 1, end));
                return true;
            case 'o':
                if (state.isOpened()) {
                    return false;
                }
                shareOut();
                return true;
            case 'f': return fishIfPossible(first);
            default:
                state.beginDay();
                return true;
        }
    }

    private boolean sealIfPossible(int bidder, int spot, int amount) {
        if (state.whyNotSealed(bidder, spot, amount) != 0) {
            return false;
        }
        state.sealBid(bidder, spot, amount);
        return true;
    }

    private boolean takeBackIfPossible(int bidder, int spot) {
        if (state.whyNotWithdrawn(bidder, spot) != 0) {
            return false;
        }
        state.takeBack(bidder, spot);
        return true;
    }

    private boolean fishIfPossible(int spot) {
        if (!state.canFish(spot)) {
            return false;
        }
        state.catchFish(spot);
        return true;
    }

    // ---- the digest

    private static long mix(long hash, long value) {
        return 31L * hash + value;
    }

    private long mixSpots(long before) {
        long hash = before;
        findSharing();
        for (int spot = 0; spot < SPOTS; spot++) {
            for (int what = 0; what <= 5; what++) {
                hash = mix(hash, spot(spot, what));
            }
            hash = mix(hash, sharing.ownerOf(spot));
            hash = mix(hash, sharing.priceOf(spot, state));
        }
        return hash;
    }

    private long mixBidders(long before) {
        long hash = before;
        for (int bidder = 0; bidder < BIDDERS; bidder++) {
            for (int what = 0; what <= 5; what++) {
                hash = mix(hash, bidder(bidder, what));
            }
        }
        return hash;
    }

    private long mixBids(long before) {
        long hash = before;
        for (int bidder = 0; bidder < BIDDERS; bidder++) {
            for (int spot = 0; spot < SPOTS; spot++) {
                for (int what = 0; what <= 4; what++) {
                    hash = mix(hash, sealed(bidder, spot, what));
                }
            }
        }
        return hash;
    }

    private long mixWorths(long before) {
        long hash = before;
        findSharing();
        for (int without = 0; without <= BIDDERS; without++) {
            hash = mix(hash, sharing.worthByTrying(without));
            hash = mix(hash, sharing.worthWithout(without));
        }
        return hash;
    }

    private long mixText(long before) {
        long hash = mix(before, text.length());
        for (int i = 0; i < text.length(); i++) {
            hash = mix(hash, text.code(i));
        }
        return hash;
    }

    /** The bits of a number that is 0 or above; by arithmetic, as the language has no call that tells them. */
    private static long bitsOf(double number, int fractionBits, int bias) {
        if (!(number > 0.0)) {
            return 0L;
        }
        double part = number;
        long exponent = bias;
        for (int i = 0; i < bias && part >= 2.0; i++) {
            part = part / 2.0;
            exponent++;
        }
        for (int i = 0; i < bias && part < 1.0; i++) {
            part = part * 2.0;
            exponent--;
        }
        long unit = 1L << fractionBits;
        return exponent * unit + (long) ((part - 1.0) * (double) unit);
    }

    /** All that undo() restores, in one row of numbers: so to save a state is to copy a row. */
    private static final class State {
        static final int SETTINGS = 3;

        // Where the numbers of each kind begin in the row.
        static final int PRICE = 0;
        static final int FISH = PRICE + SPOTS;
        static final int OWNER = FISH + SPOTS;
        static final int PAID = OWNER + SPOTS;
        static final int CAUGHT_AT = PAID + SPOTS;
        static final int PURSE = CAUGHT_AT + SPOTS;
        static final int CATCH = PURSE + BIDDERS;
        static final int PRICES = CATCH + BIDDERS;
        static final int FEES = PRICES + BIDDERS;
        static final int AMOUNT = FEES + BIDDERS;
        static final int SEAL = AMOUNT + BIDDERS * SPOTS;
        static final int SEAL_HOUR = SEAL + BIDDERS * SPOTS;
        static final int SETTING = SEAL_HOUR + BIDDERS * SPOTS;
        static final int CHEST = SETTING + SETTINGS;
        static final int COINS = CHEST + 1;
        static final int DAYS = COINS + 1;
        static final int HOUR = DAYS + 1;
        static final int OPENED = HOUR + 1;
        static final int SEALED_TODAY = OPENED + 1;
        static final int SEALED = SEALED_TODAY + 1;
        static final int WITHDRAWN = SEALED + 1;
        static final int GIVEN = WITHDRAWN + 1;
        static final int SIZE = GIVEN + 1;

        private final int[] row = new int[SIZE];

        State() {
            fill(PRICE, SPOTS, 5);
            fill(FISH, SPOTS, 100);
            fill(OWNER, SPOTS, NONE);
            fill(PAID, SPOTS, NONE);
            fill(PURSE, BIDDERS, 100);
            put(SETTING, 0, 2);
            put(SETTING, 1, 1);
            put(SETTING, 2, 10);
            put(COINS, 0, 100 * BIDDERS);
            put(DAYS, 0, 1);
        }

        static int mostOfSetting(int setting) {
            switch (setting) {
                case 0: return 20;
                case 1: return 9;
                default: return 50;
            }
        }

        int get(int kind, int number) {
            int at = kind + number;
            return at >= 0 && at < row.length ? row[at] : 0;
        }

        int get(int kind) {
            return get(kind, 0);
        }

        void put(int kind, int number, int value) {
            int at = kind + number;
            if (at >= 0 && at < row.length) {
                row[at] = value;
            }
        }

        void add(int kind, int number, int more) {
            put(kind, number, get(kind, number) + more);
        }

        private void fill(int kind, int numbers, int value) {
            for (int i = 0; i < numbers; i++) {
                put(kind, i, value);
            }
        }

        int sum(int kind, int numbers) {
            int sum = 0;
            for (int i = 0; i < numbers; i++) {
                sum += get(kind, i);
            }
            return sum;
        }

        // ---- bids; an amount of 0 is none

        private static int placeOfBid(int bidder, int spot) {
            return bidder * SPOTS + spot;
        }

        int ofBid(int kind, int bidder, int spot) {
            return get(kind, placeOfBid(bidder, spot));
        }

        boolean hasBid(int bidder, int spot) {
            return ofBid(AMOUNT, bidder, spot) != 0;
        }

        int bidsForSpot(int spot) {
            int bids = 0;
            for (int bidder = 0; bidder < BIDDERS; bidder++) {
                bids += hasBid(bidder, spot) ? 1 : 0;
            }
            return bids;
        }

        int bidsOfBidder(int bidder) {
            int bids = 0;
            for (int spot = 0; spot < SPOTS; spot++) {
                bids += hasBid(bidder, spot) ? 1 : 0;
            }
            return bids;
        }

        int bidsInAll() {
            int bids = 0;
            for (int bidder = 0; bidder < BIDDERS; bidder++) {
                bids += bidsOfBidder(bidder);
            }
            return bids;
        }

        int whyNotSealed(int bidder, int spot, int amount) {
            if (isOpened()) {
                return 1;
            }
            if (hasBid(bidder, spot)) {
                return 2;
            }
            if (amount < get(PRICE, spot)) {
                return 3;
            }
            return get(PURSE, bidder) < amount ? 4 : 0;
        }

        int sealBid(int bidder, int spot, int amount) {
            int place = placeOfBid(bidder, spot);
            int seal = (73 * amount + 41 * get(SEALED_TODAY) + 6 * bidder + spot) % 4096;
            put(AMOUNT, place, amount);
            put(SEAL, place, seal);
            put(SEAL_HOUR, place, get(HOUR));
            add(SEALED_TODAY, 0, 1);
            add(SEALED, 0, 1);
            return seal;
        }

        int feeFor(int bidder, int spot) {
            int hours = get(HOUR) - ofBid(SEAL_HOUR, bidder, spot);
            return get(SETTING, 0) + get(SETTING, 1) * hours;
        }

        int whyNotWithdrawn(int bidder, int spot) {
            if (isOpened()) {
                return 1;
            }
            if (!hasBid(bidder, spot)) {
                return 2;
            }
            return get(PURSE, bidder) < feeFor(bidder, spot) ? 3 : 0;
        }

        int takeBack(int bidder, int spot) {
            int fee = feeFor(bidder, spot);
            put(AMOUNT, placeOfBid(bidder, spot), 0);
            putInChest(bidder, fee);
            add(FEES, bidder, fee);
            add(WITHDRAWN, 0, 1);
            return fee;
        }

        private void putInChest(int bidder, int coins) {
            add(PURSE, bidder, -coins);
            add(CHEST, 0, coins);
        }

        // ---- a day

        boolean isOpened() {
            return get(OPENED) != 0;
        }

        void openBids() {
            put(OPENED, 0, 1);
        }

        int passHours(int hours) {
            put(HOUR, 0, Math.min(LAST_HOUR, get(HOUR) + hours));
            return get(HOUR);
        }

        void giveSpot(int spot, int owner, int price) {
            put(OWNER, spot, owner);
            put(PAID, spot, price);
            putInChest(owner, price);
            add(PRICES, owner, price);
            add(GIVEN, 0, 1);
        }

        int spotOfOwner(int bidder) {
            for (int spot = 0; spot < SPOTS; spot++) {
                if (get(OWNER, spot) == bidder) {
                    return spot;
                }
            }
            return NONE;
        }

        boolean canFish(int spot) {
            return isOpened() && get(OWNER, spot) != NONE;
        }

        int catchFish(int spot) {
            int there = get(FISH, spot);
            int caught = Math.min(there, there / 4 + 1);
            add(FISH, spot, -caught);
            add(CATCH, get(OWNER, spot), caught);
            add(CAUGHT_AT, spot, caught);
            swim(spot, spot - 1);
            swim(spot, spot + 1);
            return caught;
        }

        private void swim(int from, int to) {
            boolean free = to >= 0 && to < SPOTS && get(OWNER, to) == NONE;
            if (free && get(FISH, to) < get(FISH, from)) {
                int moved = Math.min(get(FISH, from) / 10, MOST_FISH - get(FISH, to));
                add(FISH, from, -moved);
                add(FISH, to, moved);
            }
        }

        int beginDay() {
            int come = 0;
            for (int spot = 0; spot < SPOTS; spot++) {
                int more = Math.min(get(SETTING, 2), MOST_FISH - get(FISH, spot));
                add(FISH, spot, more);
                come += more;
            }
            fill(AMOUNT, BIDDERS * SPOTS, 0);
            fill(OWNER, SPOTS, NONE);
            fill(PAID, SPOTS, NONE);
            put(HOUR, 0, 0);
            put(OPENED, 0, 0);
            put(SEALED_TODAY, 0, 0);
            add(DAYS, 0, 1);
            return come;
        }

        // ---- copies

        void copyTo(int[] rows, int begin) {
            for (int i = 0; i < SIZE; i++) {
                int at = begin + i;
                if (at >= 0 && at < rows.length) {
                    rows[at] = get(i);
                }
            }
        }

        void copyFrom(int[] rows, int begin) {
            for (int i = 0; i < SIZE; i++) {
                int at = begin + i;
                if (at >= 0 && at < rows.length) {
                    put(i, 0, rows[at]);
                }
            }
        }
    }

    /**
     * The best sharing. Each bid that counts has a key, such that of all sharings the best one is that whose keys
     * together are the greatest: its highest bits tell the worth, then come three that count the spots given, then
     * three for each spot, from the first, that tell its bidder, the lower the greater, and 0 for none.
     */
    private static final class Sharing {
        private static final int BITS = 3;
        private static final int DIGIT = (1 << BITS) - 1;
        private static final int GIVEN_SHIFT = BITS * SPOTS;
        private static final int WORTH_SHIFT = GIVEN_SHIFT + BITS;
        private static final long NO_BID = 0L;

        private final long[] keys = new long[BIDDERS * SPOTS];
        /** For each set of bidders the greatest keys that the spots looked at can bring to bidders of this set. */
        private final long[] most = new long[ALL_BIDDERS + 1];

        static long keyOf(State state, int bidder, int spot, int amount) {
            int worth = amount - state.get(State.PRICE, spot);
            if (amount == 0 || worth < 0 || state.get(State.PURSE, bidder) < amount) {
                return NO_BID;
            }
            long digit = (long) (BIDDERS - bidder) << digitShift(spot);
            return ((long) worth << WORTH_SHIFT) + (1L << GIVEN_SHIFT) + digit;
        }

        private static int digitShift(int spot) {
            return BITS * (SPOTS - 1 - spot);
        }

        private static int worthOf(long key) {
            return (int) (key >> WORTH_SHIFT);
        }

        private static int setWithout(int set, int bidder) {
            return bidder >= 0 && bidder < BIDDERS ? set & ~(1 << bidder) : set;
        }

        private static boolean isIn(int set, int bidder) {
            return (set >> bidder & 1) != 0;
        }

        void readBids(State state) {
            for (int bidder = 0; bidder < BIDDERS; bidder++) {
                for (int spot = 0; spot < SPOTS; spot++) {
                    int amount = state.ofBid(State.AMOUNT, bidder, spot);
                    replaceBid(bidder, spot, keyOf(state, bidder, spot, amount));
                }
            }
        }

        void replaceBid(int bidder, int spot, long key) {
            int place = bidder * SPOTS + spot;
            if (place >= 0 && place < keys.length) {
                keys[place] = key;
            }
        }

        private static long keyIn(long[] keys, int bidder, int spot) {
            int place = bidder * SPOTS + spot;
            return place >= 0 && place < keys.length ? keys[place] : NO_BID;
        }

        // ---- told by sets of bidders

        /** Finds the best sharing for each set of bidders; a spot can be left out. */
        void find(int leftOut) {
            for (int set = 0; set < most.length; set++) {
                most[set] = 0L;
            }
            for (int spot = 0; spot < SPOTS; spot++) {
                if (spot != leftOut) {
                    lookAtSpot(spot);
                }
            }
        }

        /** From the largest set down: a smaller one must still tell of the spots before this one. */
        private void lookAtSpot(int spot) {
            for (int set = most.length - 1; set > 0; set--) {
                long best = most[set];
                for (int bidder = 0; bidder < BIDDERS; bidder++) {
                    long key = isIn(set, bidder) ? keyIn(keys, bidder, spot) : NO_BID;
                    if (key != NO_BID) {
                        best = Math.max(best, mostOf(setWithout(set, bidder)) + key);
                    }
                }
                most[set] = best;
            }
        }

        long keyWithout(int bidder) {
            return mostOf(setWithout(ALL_BIDDERS, bidder));
        }

        private long mostOf(int set) {
            return set >= 0 && set < most.length ? most[set] : 0L;
        }

        int worthWithout(int bidder) {
            return worthOf(keyWithout(bidder));
        }

        int ownerOf(int spot) {
            int digit = (int) (keyWithout(NONE) >> digitShift(spot)) & DIGIT;
            return digit == 0 ? NONE : BIDDERS - digit;
        }

        int spotOf(int bidder) {
            for (int spot = 0; spot < SPOTS; spot++) {
                if (ownerOf(spot) == bidder) {
                    return spot;
                }
            }
            return NONE;
        }

        int priceOf(int spot, State state) {
            int owner = ownerOf(spot);
            if (owner == NONE) {
                return NONE;
            }
            int others = worthWithout(NONE) - worthOf(keyIn(keys, owner, spot));
            return state.get(State.PRICE, spot) + worthWithout(owner) - others;
        }

        // ---- told by trying all sharings

        int worthByTrying(int without) {
            return tryFrom(keys, 0, setWithout(ALL_BIDDERS, without));
        }

        /** The most that this spot and those behind it can bring to the bidders that are free. */
        private static int tryFrom(long[] keys, int spot, int free) {
            if (spot >= SPOTS) {
                return 0;
            }
            int best = tryFrom(keys, spot + 1, free);
            for (int bidder = 0; bidder < BIDDERS; bidder++) {
                long key = isIn(free, bidder) ? keyIn(keys, bidder, spot) : NO_BID;
                if (key != NO_BID) {
                    int rest = tryFrom(keys, spot + 1, setWithout(free, bidder));
                    best = Math.max(best, worthOf(key) + rest);
                }
            }
            return best;
        }
    }

    /** The saved states, the oldest first, and the snapshot. */
    private static final class History {
        private static final int MOST_SAVED = 6;

        private final int[] rows = new int[MOST_SAVED * State.SIZE];
        private int saved;
        private final int[] snapshot = new int[State.SIZE];
        private boolean snapshotTaken;

        void save(State state) {
            if (saved == MOST_SAVED) {
                dropOldest();
            }
            state.copyTo(rows, saved * State.SIZE);
            saved++;
        }

        private void dropOldest() {
            for (int i = 0; i + State.SIZE < rows.length; i++) {
                rows[i] = rows[i + State.SIZE];
            }
            saved--;
        }

        int savedStates() {
            return saved;
        }

        void restoreLatest(State state) {
            if (saved > 0) {
                saved--;
                state.copyFrom(rows, saved * State.SIZE);
            }
        }

        boolean hasSnapshot() {
            return snapshotTaken;
        }

        void takeSnapshot(State state) {
            state.copyTo(snapshot, 0);
            snapshotTaken = true;
        }

        void restoreSnapshot(State state) {
            state.copyFrom(snapshot, 0);
        }
    }

    /** The buffer, and where in an auction as a text its characters stand. */
    private static final class Text {
        private static final int MOST_LENGTH = 60;

        // What may come next.
        private static final int WRONG = -1;
        private static final int PART = 0;
        private static final int BID_BIDDER = 1;
        private static final int BID_SPOT = 2;
        private static final int AMOUNT = 3;
        private static final int AMOUNT_MORE = 4;
        private static final int WITHDRAW_BIDDER = 5;
        private static final int LAST_DIGIT = 6;
        private static final int HOURS = 7;
        private static final int HOURS_MORE = 8;
        private static final int HOURS_TO_3 = 9;
        private static final int END = 10;

        private final int[] codes = new int[MOST_LENGTH];
        private int length;

        int length() {
            return length;
        }

        boolean isFull() {
            return length >= codes.length;
        }

        int add(int code) {
            if (length >= 0 && length < codes.length) {
                codes[length] = code;
                length++;
            }
            return length;
        }

        int empty() {
            int before = length;
            length = 0;
            return before;
        }

        int code(int place) {
            return place >= 0 && place < length && place < codes.length ? codes[place] : 0;
        }

        // ---- syntax

        int firstWrong() {
            int next = PART;
            for (int i = 0; i < length; i++) {
                next = after(next, code(i));
                if (next == WRONG) {
                    return i;
                }
            }
            return length;
        }

        boolean isComplete() {
            int next = PART;
            for (int i = 0; i < length; i++) {
                next = after(next, code(i));
            }
            return next == END || next == AMOUNT_MORE || next == HOURS_MORE || next == HOURS_TO_3;
        }

        /** What may come behind this character, where this may come; WRONG stays so. */
        private static int after(int next, int code) {
            switch (next) {
                case PART: return afterLetter(code);
                case BID_BIDDER: return isDigit(code, '0', '5') ? BID_SPOT : WRONG;
                case BID_SPOT: return isDigit(code, '0', '5') ? AMOUNT : WRONG;
                case AMOUNT: return isDigit(code, '1', '9') ? AMOUNT_MORE : WRONG;
                case AMOUNT_MORE: return isDigit(code, '0', '9') ? END : afterEnd(code);
                case WITHDRAW_BIDDER: return isDigit(code, '0', '5') ? LAST_DIGIT : WRONG;
                case LAST_DIGIT: return isDigit(code, '0', '5') ? END : WRONG;
                case HOURS: return afterHours(code);
                case HOURS_MORE: return isDigit(code, '0', '9') ? END : afterEnd(code);
                case HOURS_TO_3: return isDigit(code, '0', '3') ? END : afterEnd(code);
                case END: return afterEnd(code);
                default: return WRONG;
            }
        }

        private static int afterLetter(int code) {
            switch (code) {
                case 'b': return BID_BIDDER;
                case 'w': return WITHDRAW_BIDDER;
                case 'h': return HOURS;
                case 'f': return LAST_DIGIT;
                case 'o':
                case 'n': return END;
                default: return WRONG;
            }
        }

        private static int afterHours(int code) {
            if (code == '1') {
                return HOURS_MORE;
            }
            if (code == '2') {
                return HOURS_TO_3;
            }
            return isDigit(code, '3', '9') ? END : WRONG;
        }

        private static int afterEnd(int code) {
            return code == ';' ? PART : WRONG;
        }

        private static boolean isDigit(int code, int lowest, int highest) {
            return code >= lowest && code <= highest;
        }

        // ---- parts

        boolean isEndOfPart(int place) {
            return place == length || code(place) == ';';
        }

        int digit(int place) {
            return code(place) - '0';
        }

        int number(int begin, int end) {
            int number = 0;
            for (int i = begin; i < end; i++) {
                number = 10 * number + digit(i);
            }
            return number;
        }
    }
}

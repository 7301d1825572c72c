import java.util.ArrayDeque;
import java.util.ArrayList;
import java.util.Deque;
import java.util.List;
import java.util.regex.Matcher;
import java.util.regex.Pattern;

/** The document told a second time, with the whole Java library and without any care for speed. */
final class Model {
    static final int NONE = -1;
    private static final String PART =
            "(?:b[0-5][0-5][1-9][0-9]?|w[0-5][0-5]|h(?:[3-9]|1[0-9]?|2[0-3]?)|o|f[0-5]|n)";
    private static final Pattern AUCTION = Pattern.compile(PART + "(?:;" + PART + ")*");

    private record Bid(int bidder, int spot, int amount, int seal, int hour) {
    }

    private static final class State implements Cloneable {
        int[] price = {5, 5, 5, 5, 5, 5};
        int[] fish = {100, 100, 100, 100, 100, 100};
        int[] owner = {NONE, NONE, NONE, NONE, NONE, NONE};
        int[] paid = {NONE, NONE, NONE, NONE, NONE, NONE};
        int[] caughtAt = new int[6];
        int[] purse = {100, 100, 100, 100, 100, 100};
        int[] caught = new int[6];
        int[] pricesOf = new int[6];
        int[] feesOf = new int[6];
        int[] setting = {2, 1, 10};
        List<Bid> bids = new ArrayList<>();
        int rank;
        int chest;
        int days = 1;
        int hour;
        boolean opened;
        int paidIn;
        int fees;
        int prices;
        int given;
        int allCaught;
        int sealed;
        int withdrawn;

        State copy() {
            try {
                State copy = (State) clone();
                copy.price = price.clone();
                copy.fish = fish.clone();
                copy.owner = owner.clone();
                copy.paid = paid.clone();
                copy.caughtAt = caughtAt.clone();
                copy.purse = purse.clone();
                copy.caught = caught.clone();
                copy.pricesOf = pricesOf.clone();
                copy.feesOf = feesOf.clone();
                copy.setting = setting.clone();
                copy.bids = new ArrayList<>(bids);
                return copy;
            } catch (CloneNotSupportedException e) {
                throw new AssertionError(e);
            }
        }
    }

    private State now = new State();
    private State snapshot;
    private final Deque<State> saved = new ArrayDeque<>();
    private String buffer = "";

    private static void index(boolean good) {
        if (!good) {
            throw new IndexOutOfBoundsException();
        }
    }

    private static void argument(boolean good) {
        if (!good) {
            throw new IllegalArgumentException();
        }
    }

    private static void state(boolean good) {
        if (!good) {
            throw new IllegalStateException();
        }
    }

    private static boolean in(int number, int low, int high) {
        return low <= number && number <= high;
    }

    private void save() {
        saved.addLast(now.copy());
        if (saved.size() > 6) {
            saved.removeFirst();
        }
    }

    private Bid find(int bidder, int spot) {
        for (Bid bid : now.bids) {
            if (bid.bidder == bidder && bid.spot == spot) {
                return bid;
            }
        }
        return null;
    }

    int price(int spot, int price) {
        index(in(spot, 0, 5));
        argument(in(price, 0, 99));
        save();
        int before = now.price[spot];
        now.price[spot] = price;
        return before;
    }

    int pay(int bidder, int coins) {
        index(in(bidder, 0, 5));
        argument(in(coins, 1, 99));
        state(now.chest + count(5) + coins <= 9999);
        save();
        now.paidIn += coins;
        return now.purse[bidder] += coins;
    }

    int set(int setting, int value) {
        index(in(setting, 0, 2));
        argument(in(value, 0, new int[] {20, 9, 50}[setting]));
        save();
        int before = now.setting[setting];
        now.setting[setting] = value;
        return before;
    }

    int bid(int bidder, int spot, int amount) {
        state(why(bidder, spot, amount) == 0);
        save();
        return doBid(bidder, spot, amount);
    }

    private int doBid(int bidder, int spot, int amount) {
        int seal = (amount * 73 + now.rank * 41 + bidder * 6 + spot) % 4096;
        now.bids.add(new Bid(bidder, spot, amount, seal, now.hour));
        now.rank++;
        now.sealed++;
        return seal;
    }

    int withdraw(int bidder, int spot) {
        state(sealed(bidder, spot, 4) == 0);
        save();
        return doWithdraw(bidder, spot);
    }

    private int doWithdraw(int bidder, int spot) {
        int fee = sealed(bidder, spot, 3);
        now.bids.remove(find(bidder, spot));
        now.purse[bidder] -= fee;
        now.chest += fee;
        now.feesOf[bidder] += fee;
        now.fees += fee;
        now.withdrawn++;
        return fee;
    }

    int pause(int hours) {
        argument(in(hours, 1, 23));
        save();
        return doPause(hours);
    }

    private int doPause(int hours) {
        for (int i = 0; i < hours && now.hour < 23; i++) {
            now.hour++;
        }
        return now.hour;
    }

    int open() {
        state(!now.opened);
        save();
        return doOpen();
    }

    private int doOpen() {
        Best best = best(now.bids, NONE);
        int[] due = new int[6];
        for (int spot = 0; spot < 6; spot++) {
            due[spot] = due(best, now.bids, spot);
        }
        for (int spot = 0; spot < 6; spot++) {
            int owner = best.owner[spot];
            if (owner != NONE) {
                now.owner[spot] = owner;
                now.paid[spot] = due[spot];
                now.purse[owner] -= due[spot];
                now.chest += due[spot];
                now.pricesOf[owner] += due[spot];
                now.prices += due[spot];
                now.given++;
            }
        }
        now.opened = true;
        return best.given;
    }

    int fish(int spot) {
        index(in(spot, 0, 5));
        state(now.opened && now.owner[spot] != NONE);
        save();
        return doFish(spot);
    }

    private int doFish(int spot) {
        int caught = now.fish[spot] / 4 + 1;
        if (caught > now.fish[spot]) {
            caught = now.fish[spot];
        }
        now.fish[spot] -= caught;
        now.caught[now.owner[spot]] += caught;
        now.caughtAt[spot] += caught;
        now.allCaught += caught;
        for (int to : new int[] {spot - 1, spot + 1}) {
            if (in(to, 0, 5) && now.owner[to] == NONE && now.fish[to] < now.fish[spot]) {
                for (int moved = now.fish[spot] / 10; moved > 0 && now.fish[to] < 200; moved--) {
                    now.fish[spot]--;
                    now.fish[to]++;
                }
            }
        }
        return caught;
    }

    int nextDay() {
        save();
        return doNextDay();
    }

    private int doNextDay() {
        int come = 0;
        for (int spot = 0; spot < 6; spot++) {
            for (int i = 0; i < now.setting[2] && now.fish[spot] < 200; i++) {
                now.fish[spot]++;
                come++;
            }
            now.owner[spot] = NONE;
            now.paid[spot] = NONE;
        }
        now.bids.clear();
        now.rank = 0;
        now.hour = 0;
        now.opened = false;
        now.days++;
        return come;
    }

    int append(int code) {
        argument(in(code, 33, 126));
        state(buffer.length() < 60);
        buffer += (char) code;
        return buffer.length();
    }

    int clearBuffer() {
        int length = buffer.length();
        buffer = "";
        return length;
    }

    int firstError() {
        for (int i = 0; i < buffer.length(); i++) {
            Matcher matcher = AUCTION.matcher(buffer.substring(0, i + 1));
            if (!matcher.matches() && !matcher.hitEnd()) {
                return i;
            }
        }
        return buffer.length();
    }

    int run() {
        argument(AUCTION.matcher(buffer).matches());
        save();
        int done = 0;
        for (String part : buffer.split(";")) {
            if (!doPart(part)) {
                break;
            }
            done++;
        }
        buffer = "";
        return done;
    }

    private boolean doPart(String part) {
        int first = part.length() > 1 ? part.charAt(1) - '0' : NONE;
        int second = part.length() > 2 ? part.charAt(2) - '0' : NONE;
        String kind = part.substring(0, 1);
        if (kind.equals("b")) {
            int amount = Integer.parseInt(part.substring(3));
            return why(first, second, amount) == 0 && doBid(first, second, amount) >= 0;
        }
        if (kind.equals("w")) {
            return sealed(first, second, 4) == 0 && doWithdraw(first, second) >= 0;
        }
        if (kind.equals("h")) {
            return doPause(Integer.parseInt(part.substring(1))) >= 0;
        }
        if (kind.equals("o")) {
            return !now.opened && doOpen() >= 0;
        }
        if (kind.equals("f")) {
            return now.opened && now.owner[first] != NONE && doFish(first) >= 0;
        }
        return doNextDay() >= 0;
    }

    int keep() {
        snapshot = now.copy();
        return now.chest;
    }

    int goBack() {
        state(snapshot != null);
        save();
        now = snapshot.copy();
        return now.chest;
    }

    int undo() {
        state(!saved.isEmpty());
        now = saved.removeLast();
        return saved.size();
    }

    int spot(int spot, int what) {
        index(in(spot, 0, 5));
        argument(in(what, 0, 5));
        int bids = (int) now.bids.stream().filter(bid -> bid.spot == spot).count();
        return new int[] {now.price[spot], now.fish[spot], now.owner[spot], now.paid[spot], bids,
            now.caughtAt[spot]}[what];
    }

    int bidder(int bidder, int what) {
        index(in(bidder, 0, 5));
        argument(in(what, 0, 5));
        int bids = (int) now.bids.stream().filter(bid -> bid.bidder == bidder).count();
        int got = NONE;
        for (int spot = 0; spot < 6; spot++) {
            got = now.owner[spot] == bidder ? spot : got;
        }
        return new int[] {now.purse[bidder], now.caught[bidder], bids, got, now.pricesOf[bidder],
            now.feesOf[bidder]}[what];
    }

    int sealed(int bidder, int spot, int what) {
        index(in(bidder, 0, 5) && in(spot, 0, 5));
        argument(in(what, 0, 4));
        Bid bid = find(bidder, spot);
        int fee = bid == null ? NONE : now.setting[0] + now.setting[1] * (now.hour - bid.hour);
        if (what == 4) {
            return now.opened ? 1 : bid == null ? 2 : now.purse[bidder] < fee ? 3 : 0;
        }
        if (bid == null) {
            return NONE;
        }
        return new int[] {bid.seal, bid.hour, now.opened ? bid.amount : NONE, fee}[what];
    }

    private static int sum(int[] numbers) {
        int sum = 0;
        for (int number : numbers) {
            sum += number;
        }
        return sum;
    }

    int count(int what) {
        argument(in(what, 0, 14));
        return new int[] {now.days, now.hour, now.opened ? 1 : 0, now.bids.size(), now.chest, sum(now.purse),
            600 + now.paidIn, now.fees, now.prices, now.given, sum(now.fish), now.allCaught, now.sealed,
            now.withdrawn, saved.size()}[what];
    }

    int setting(int setting) {
        index(in(setting, 0, 2));
        return now.setting[setting];
    }

    int why(int bidder, int spot, int amount) {
        index(in(bidder, 0, 5) && in(spot, 0, 5));
        argument(in(amount, 1, 99));
        if (now.opened) {
            return 1;
        }
        if (find(bidder, spot) != null) {
            return 2;
        }
        return amount < now.price[spot] ? 3 : amount > now.purse[bidder] ? 4 : 0;
    }

    // ---- the opening, by looking at each sharing

    private static final class Best {
        int worth = -1;
        int given;
        int[] owner = new int[6];
    }

    /** The amounts of the bids that count, 0 where there is none. */
    private int[][] counting(List<Bid> bids, int without) {
        int[][] amounts = new int[6][6];
        for (Bid bid : bids) {
            boolean counts = bid.amount >= now.price[bid.spot] && bid.amount <= now.purse[bid.bidder];
            if (counts && bid.bidder != without) {
                amounts[bid.spot][bid.bidder] = bid.amount;
            }
        }
        return amounts;
    }

    private Best best(List<Bid> bids, int without) {
        Best best = new Best();
        look(counting(bids, without), 0, new int[6], new boolean[6], best);
        return best;
    }

    /** The sharings come in the order in which they are compared, so that a later one must be better. */
    private void look(int[][] amounts, int spot, int[] owner, boolean[] gone, Best best) {
        if (spot == 6) {
            int worth = 0;
            int given = 0;
            for (int s = 0; s < 6; s++) {
                if (owner[s] != NONE) {
                    worth += amounts[s][owner[s]] - now.price[s];
                    given++;
                }
            }
            if (worth > best.worth || worth == best.worth && given > best.given) {
                best.worth = worth;
                best.given = given;
                best.owner = owner.clone();
            }
            return;
        }
        for (int bidder = 0; bidder < 6; bidder++) {
            if (!gone[bidder] && amounts[spot][bidder] > 0) {
                gone[bidder] = true;
                owner[spot] = bidder;
                look(amounts, spot + 1, owner, gone, best);
                gone[bidder] = false;
            }
        }
        owner[spot] = NONE;
        look(amounts, spot + 1, owner, gone, best);
    }

    private int due(Best best, List<Bid> bids, int spot) {
        int owner = best.owner[spot];
        if (owner == NONE) {
            return NONE;
        }
        int own = 0;
        for (Bid bid : bids) {
            own = bid.bidder == owner && bid.spot == spot ? bid.amount - now.price[spot] : own;
        }
        return now.price[spot] + best(bids, owner).worth - (best.worth - own);
    }

    int worth(int without, int way) {
        argument(in(without, 0, 6) && in(way, 0, 1));
        return best(now.bids, without).worth;
    }

    int ifOpened(int spot, int what) {
        index(in(spot, 0, 5));
        argument(in(what, 0, 1));
        Best best = best(now.bids, NONE);
        return what == 0 ? best.owner[spot] : due(best, now.bids, spot);
    }

    int ifBid(int bidder, int spot, int amount, int what) {
        index(in(bidder, 0, 5) && in(spot, 0, 5));
        argument(in(amount, 1, 99) && in(what, 0, 1));
        List<Bid> bids = new ArrayList<>(now.bids);
        bids.remove(find(bidder, spot));
        bids.add(new Bid(bidder, spot, amount, 0, 0));
        Best best = best(bids, NONE);
        for (int won = 0; won < 6; won++) {
            if (best.owner[won] == bidder) {
                return what == 0 ? won : due(best, bids, won);
            }
        }
        return NONE;
    }

    int least(int bidder, int spot) {
        index(in(bidder, 0, 5) && in(spot, 0, 5));
        for (int amount = 1; amount <= 99; amount++) {
            if (ifBid(bidder, spot, amount, 0) == spot) {
                return amount;
            }
        }
        return NONE;
    }

    int keenest() {
        int keenest = 0;
        for (int bidder = 5; bidder >= 0; bidder--) {
            keenest = worth(bidder, 0) <= worth(keenest, 0) ? bidder : keenest;
        }
        return keenest;
    }

    double chestShare() {
        return (double) count(4) / count(6);
    }

    float meanPrice() {
        return count(9) == 0 ? 0.0f : (float) count(8) / count(9);
    }

    long digest() {
        List<Long> values = new ArrayList<>();
        for (int what = 0; what < 15; what++) {
            values.add((long) count(what));
        }
        for (int setting = 0; setting < 3; setting++) {
            values.add((long) setting(setting));
        }
        for (int spot = 0; spot < 6; spot++) {
            for (int what = 0; what < 6; what++) {
                values.add((long) spot(spot, what));
            }
            values.add((long) ifOpened(spot, 0));
            values.add((long) ifOpened(spot, 1));
        }
        for (int bidder = 0; bidder < 6; bidder++) {
            for (int what = 0; what < 6; what++) {
                values.add((long) bidder(bidder, what));
            }
        }
        for (int place = 0; place < 36; place++) {
            for (int what = 0; what < 5; what++) {
                values.add((long) sealed(place / 6, place % 6, what));
            }
        }
        for (int without = 0; without < 7; without++) {
            long worth = worth(without, 0);
            values.add(worth);
            values.add(worth);
        }
        values.add((long) ifBid(1, 2, 20, 0));
        values.add((long) ifBid(1, 2, 20, 1));
        values.add((long) least(0, 0));
        values.add((long) keenest());
        values.add(Double.doubleToLongBits(chestShare()));
        values.add((long) Float.floatToIntBits(meanPrice()));
        values.add(snapshot == null ? 0L : 1L);
        values.add((long) buffer.length());
        for (char c : buffer.toCharArray()) {
            values.add((long) c);
        }
        long hash = 3797;
        for (long value : values) {
            hash = 31 * hash + value;
        }
        return hash;
    }
}

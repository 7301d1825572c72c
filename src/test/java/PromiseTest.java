/** Each promise of the document in turn: ordinary inputs, the edges that it names, wrong inputs. */
public final class PromiseTest {
    private static final Class<?> INDEX = IndexOutOfBoundsException.class;
    private static final Class<?> ARGUMENT = IllegalArgumentException.class;
    private static final Class<?> STATE = IllegalStateException.class;
    private static final int NONE = SealedSpots.NONE;
    private static final int HUGE = Integer.MAX_VALUE;
    private static final int TINY = Integer.MIN_VALUE;
    private static final int[] NO_PLACE = {-1, 6, HUGE, TINY};

    private final Check check = new Check();

    public static void main(String[] args) {
        PromiseTest test = new PromiseTest();
        test.promise1();
        test.promise2();
        test.promise3();
        test.promise4();
        test.promise5();
        test.promise6();
        test.promise7();
        test.promise8();
        test.promise8Prices();
        test.promise8Order();
        test.promise9();
        test.promise9Neighbours();
        test.promise10();
        test.promise11();
        test.promise12();
        test.promise13();
        test.promise14();
        test.promise14Stops();
        test.promise15();
        test.promise16();
        test.promise17();
        test.promise18();
        test.promise19();
        test.promise20();
        test.promise21();
        test.promise22();
        test.promise23();
        test.promise24();
        test.promise25();
        test.promise26();
        test.promise27();
        test.promise28();
        test.promise29();
        test.promise30();
        test.promise31();
        test.check.end();
    }

    private static void type(SealedSpots x, String text) {
        x.clearBuffer();
        for (int i = 0; i < text.length(); i++) {
            x.append(text.charAt(i));
        }
    }

    private static int run(SealedSpots x, String text) {
        type(x, text);
        return x.run();
    }

    private void counts(SealedSpots x, int... due) {
        for (int what = 0; what < due.length; what++) {
            check.same("count(" + what + ")", x.count(what), due[what]);
        }
    }

    private void numbersOfSpot(SealedSpots x, int spot, int... due) {
        for (int what = 0; what < due.length; what++) {
            check.same("spot(" + spot + ", " + what + ")", x.spot(spot, what), due[what]);
        }
    }

    private void numbersOfBidder(SealedSpots x, int bidder, int... due) {
        for (int what = 0; what < due.length; what++) {
            check.same("bidder(" + bidder + ", " + what + ")", x.bidder(bidder, what), due[what]);
        }
    }

    private void numbersOfBid(SealedSpots x, int bidder, int spot, int... due) {
        for (int what = 0; what < due.length; what++) {
            check.same("sealed(" + bidder + ", " + spot + ", " + what + ")", x.sealed(bidder, spot, what), due[what]);
        }
    }

    private void promise1() {
        SealedSpots x = new SealedSpots();
        for (int i = 0; i < 6; i++) {
            numbersOfSpot(x, i, 5, 100, NONE, NONE, 0, 0);
            numbersOfBidder(x, i, 100, 0, 0, NONE, 0, 0);
            for (int spot = 0; spot < 6; spot++) {
                numbersOfBid(x, i, spot, NONE, NONE, NONE, NONE, 2);
            }
        }
        counts(x, 1, 0, 0, 0, 0, 600, 600, 0, 0, 0, 600, 0, 0, 0, 0);
        check.same("setting(0)", x.setting(0), 2);
        check.same("setting(1)", x.setting(1), 1);
        check.same("setting(2)", x.setting(2), 10);
        check.same("firstError()", x.firstError(), 0);
        check.same("clearBuffer()", x.clearBuffer(), 0);
        check.throwing(x, "goBack() without a snapshot", STATE, () -> x.goBack());
        check.throwing(x, "undo() of nothing", STATE, () -> x.undo());
        SealedSpots other = new SealedSpots();
        other.price(0, 9);
        check.same("the price in another object", x.spot(0, 0), 5);
    }

    private void promise2() {
        SealedSpots x = new SealedSpots();
        check.same("price(0, 99)", x.price(0, 99), 5);
        check.same("price(0, 0)", x.price(0, 0), 99);
        check.same("price(5, 7)", x.price(5, 7), 5);
        check.same("spot(0, 0)", x.spot(0, 0), 0);
        check.same("spot(5, 0)", x.spot(5, 0), 7);
        check.same("spot(1, 0)", x.spot(1, 0), 5);
        x.bid(2, 1, 10);
        check.same("price(1, 50) above a bid", x.price(1, 50), 5);
        check.same("the bid stays", x.spot(1, 4), 1);
        check.same("saved states", x.count(14), 5);
        for (int spot : NO_PLACE) {
            check.throwing(x, "price of no spot", INDEX, () -> x.price(spot, 5));
            check.throwing(x, "price of no spot, out of range", INDEX, () -> x.price(spot, 100));
        }
        for (int price : new int[] {-1, 100, HUGE, TINY}) {
            check.throwing(x, "price(0, " + price + ")", ARGUMENT, () -> x.price(0, price));
        }
    }

    private void promise3() {
        SealedSpots x = new SealedSpots();
        check.same("pay(0, 1)", x.pay(0, 1), 101);
        check.same("pay(5, 99)", x.pay(5, 99), 199);
        check.same("all coins", x.count(6), 700);
        check.same("all purses", x.count(5), 700);
        check.same("saved states", x.count(14), 2);
        for (int bidder : NO_PLACE) {
            check.throwing(x, "pay to nobody", INDEX, () -> x.pay(bidder, 0));
        }
        for (int coins : new int[] {0, -1, 100, HUGE, TINY}) {
            check.throwing(x, "pay(0, " + coins + ")", ARGUMENT, () -> x.pay(0, coins));
        }
        for (int i = 0; i < 93; i++) {
            x.pay(1, 99);
        }
        check.same("all coins", x.count(6), 9907);
        check.throwing(x, "pay(0, 93) to 10000", STATE, () -> x.pay(0, 93));
        check.throwing(x, "pay(6, 93) to 10000", INDEX, () -> x.pay(6, 93));
        check.throwing(x, "pay(0, 100) to 10007", ARGUMENT, () -> x.pay(0, 100));
        check.same("pay(0, 92) to 9999", x.pay(0, 92), 193);
        check.throwing(x, "pay(0, 1) to 10000", STATE, () -> x.pay(0, 1));
        x.bid(0, 0, 20);
        x.open();
        check.throwing(x, "pay(0, 1) with coins in the chest", STATE, () -> x.pay(0, 1));
    }

    private void promise4() {
        SealedSpots x = new SealedSpots();
        int[] first = {2, 1, 10};
        int[] most = {20, 9, 50};
        for (int i = 0; i < 3; i++) {
            int setting = i;
            check.same("set(" + i + ") to the most", x.set(i, most[i]), first[i]);
            check.same("set(" + i + ") to 0", x.set(i, 0), most[i]);
            check.same("setting(" + i + ")", x.setting(i), 0);
            check.throwing(x, "set(" + i + ") above", ARGUMENT, () -> x.set(setting, most[setting] + 1));
            check.throwing(x, "set(" + i + ") below", ARGUMENT, () -> x.set(setting, -1));
            check.throwing(x, "set(" + i + ") far above", ARGUMENT, () -> x.set(setting, HUGE));
        }
        check.same("saved states", x.count(14), 6);
        for (int setting : new int[] {-1, 3, HUGE, TINY}) {
            check.throwing(x, "set of no setting", INDEX, () -> x.set(setting, 100));
        }
    }

    private void promise5() {
        SealedSpots x = new SealedSpots();
        check.same("bid(0, 0, 30)", x.bid(0, 0, 30), 73 * 30);
        check.same("bid(5, 4, 99), the second", x.bid(5, 4, 99), (73 * 99 + 41 + 30 + 4) - 4096);
        check.same("bid(1, 0, 5) of the least price", x.bid(1, 0, 5), 73 * 5 + 82 + 6);
        x.withdraw(1, 0);
        check.same("bid(1, 0, 98) of the whole purse", x.bid(1, 0, 98), (73 * 98 + 123 + 6) - 4096);
        check.same("bids", x.count(3), 3);
        check.same("bids sealed so far", x.count(12), 4);
        check.same("saved states", x.count(14), 5);
        check.same("the purse is not touched", x.bidder(0, 0), 100);
        for (int place : NO_PLACE) {
            check.throwing(x, "bid of nobody", INDEX, () -> x.bid(place, 0, 0));
            check.throwing(x, "bid for no spot", INDEX, () -> x.bid(0, place, 100));
        }
        for (int amount : new int[] {0, 100, -1, HUGE, TINY}) {
            check.throwing(x, "bid(0, 0, " + amount + ")", ARGUMENT, () -> x.bid(0, 0, amount));
        }
        check.throwing(x, "a second bid", STATE, () -> x.bid(0, 0, 31));
        check.throwing(x, "a bid below the least price", STATE, () -> x.bid(0, 1, 4));
        check.throwing(x, "a bid above the purse", STATE, () -> x.bid(1, 1, 99));
        x.open();
        check.throwing(x, "a bid behind the opening", STATE, () -> x.bid(3, 3, 10));
        x.nextDay();
        check.same("bid(3, 3, 10), the first of the day", x.bid(3, 3, 10), 730 + 18 + 3);
        x.price(2, 0);
        check.same("bid(3, 2, 1)", x.bid(3, 2, 1), 73 + 41 + 18 + 2);
    }

    private void promise6() {
        SealedSpots x = new SealedSpots();
        x.bid(2, 3, 50);
        x.bid(2, 4, 60);
        check.same("withdraw(2, 3) at once", x.withdraw(2, 3), 2);
        x.pause(4);
        x.bid(2, 3, 50);
        x.pause(6);
        check.same("withdraw(2, 4) behind 10 hours", x.withdraw(2, 4), 12);
        check.same("withdraw(2, 3) behind 6 hours", x.withdraw(2, 3), 8);
        numbersOfBidder(x, 2, 78, 0, 0, NONE, 0, 22);
        check.same("the chest", x.count(4), 22);
        check.same("fees so far", x.count(7), 22);
        check.same("bids withdrawn", x.count(13), 3);
        check.same("saved states", x.count(14), 6);
        x.set(0, 20);
        x.set(1, 9);
        for (int i = 0; i < 2; i++) {
            x.bid(2, i, 20);
        }
        x.pause(6);
        check.same("withdraw(2, 0) for most of the purse", x.withdraw(2, 0), 74);
        check.same("the purse", x.bidder(2, 0), 4);
        check.throwing(x, "withdraw(2, 1) with too small a purse", STATE, () -> x.withdraw(2, 1));
        x.pay(2, 70);
        check.same("withdraw(2, 1) for the whole purse", x.withdraw(2, 1), 74);
        check.same("the purse", x.bidder(2, 0), 0);
        check.throwing(x, "withdraw of no bid", STATE, () -> x.withdraw(2, 1));
        for (int place : NO_PLACE) {
            check.throwing(x, "withdraw of nobody", INDEX, () -> x.withdraw(place, 0));
            check.throwing(x, "withdraw from no spot", INDEX, () -> x.withdraw(0, place));
        }
        x.bid(1, 1, 20);
        x.open();
        check.throwing(x, "withdraw behind the opening", STATE, () -> x.withdraw(1, 1));
    }

    private void promise7() {
        SealedSpots x = new SealedSpots();
        check.same("pause(1)", x.pause(1), 1);
        check.same("pause(22)", x.pause(22), 23);
        check.same("pause(1) at 23", x.pause(1), 23);
        x.nextDay();
        check.same("pause(23)", x.pause(23), 23);
        check.same("count(1)", x.count(1), 23);
        check.same("pause(23) again", x.pause(23), 23);
        check.same("saved states", x.count(14), 6);
        x.nextDay();
        x.open();
        check.same("pause(2) behind the opening", x.pause(2), 2);
        for (int hours : new int[] {0, 24, -1, HUGE, TINY}) {
            check.throwing(x, "pause(" + hours + ")", ARGUMENT, () -> x.pause(hours));
        }
    }

    private void promise8() {
        SealedSpots x = new SealedSpots();
        check.same("open() without bids", x.open(), 0);
        counts(x, 1, 0, 1, 0, 0, 600, 600, 0, 0, 0, 600, 0, 0, 0, 1);
        check.throwing(x, "open() twice", STATE, () -> x.open());
        x.nextDay();
        x.bid(0, 0, 30);
        x.bid(1, 0, 20);
        x.bid(2, 0, 10);
        check.same("open() of three bids for a spot", x.open(), 1);
        numbersOfSpot(x, 0, 5, 110, 0, 20, 3, 0);
        numbersOfBidder(x, 0, 80, 0, 1, 0, 20, 0);
        numbersOfBidder(x, 1, 100, 0, 1, NONE, 0, 0);
        counts(x, 2, 0, 1, 3, 20, 580, 600, 0, 20, 1, 660, 0, 3, 0, 6);
        x.nextDay();
        x.bid(0, 0, 30);
        x.price(0, 31);
        x.bid(1, 1, 99);
        x.bid(1, 2, 99);
        x.withdraw(1, 2);
        check.same("open() of bids that do not count", x.open(), 0);
        check.same("the bids stay", x.count(3), 2);
        check.same("who got spot 0", x.spot(0, 2), NONE);
        check.same("what was paid for spot 0", x.spot(0, 3), NONE);
        x.nextDay();
        x.price(0, 31);
        x.bid(3, 0, 31);
        check.same("open() of a bid of the worth 0", x.open(), 1);
        check.same("its price", x.spot(0, 3), 31);
    }

    private void promise8Prices() {
        SealedSpots x = new SealedSpots();
        x.price(0, 10);
        x.bid(0, 0, 60);
        x.bid(0, 1, 50);
        x.bid(1, 0, 55);
        x.bid(2, 1, 20);
        // Worths: bidder 0: 50 or 45; bidder 1: 45 for spot 0; bidder 2: 15 for spot 1. Best: 45 + 45 = 90.
        check.same("open()", x.open(), 2);
        numbersOfSpot(x, 1, 5, 100, 0, 5 + 60 - 45, 2, 0);
        numbersOfSpot(x, 0, 10, 100, 1, 10 + 65 - 45, 2, 0);
        check.same("the chest", x.count(4), 50);
        check.same("prices so far", x.count(8), 50);
        x.nextDay();
        x.bid(1, 0, 70);
        x.bid(1, 1, 70);
        check.same("open() with the whole purse", x.open(), 1);
        check.same("one spot at most for a bidder", x.bidder(1, 3), 1);
    }

    private void promise8Order() {
        SealedSpots x = new SealedSpots();
        run(x, "b0520;b1520;o");
        check.same("of two the lower bidder", x.spot(5, 2), 0);
        x = new SealedSpots();
        run(x, "b0120;b0020;o");
        check.same("of two spots the first", x.bidder(0, 3), 0);
        x = new SealedSpots();
        run(x, "b0020;b0120;b1020;b1120;o");
        check.same("the first spot to the lower one", x.spot(0, 2), 0);
        check.same("the next spot to the other", x.spot(1, 2), 1);
        x = new SealedSpots();
        x.price(1, 5);
        run(x, "b0030;b015;b1030;o");
        // The worth is 25 with one spot or with two; the most spots come before the lower bidder.
        check.same("the most spots of one worth", x.count(9), 2);
        check.same("spot 0 so goes to the higher bidder", x.spot(0, 2), 1);
        check.same("spot 1 so goes to the lower bidder", x.spot(1, 2), 0);
        x = new SealedSpots();
        run(x, "b205;b215;b225;b315;b325;o");
        check.same("spot 0 is given rather than to none", x.spot(0, 2), 2);
        check.same("spot 1 is given behind it", x.spot(1, 2), 3);
        check.same("spot 2 is left", x.spot(2, 2), NONE);
    }

    private void promise9() {
        SealedSpots x = new SealedSpots();
        x.bid(4, 0, 40);
        check.throwing(x, "fish(0) before the opening", STATE, () -> x.fish(0));
        x.open();
        int[] caught = {26, 19, 14, 11, 8, 6, 5, 3, 3, 2, 1, 1, 1};
        int[] left = {74, 55, 41, 30, 22, 16, 11, 8, 5, 3, 2, 1, 0};
        for (int i = 0; i < caught.length; i++) {
            check.same("fish(0), time " + i, x.fish(0), caught[i]);
            check.same("what is left", x.spot(0, 1), left[i]);
        }
        check.same("fish(0) of none", x.fish(0), 0);
        check.same("saved states", x.count(14), 6);
        check.same("caught by bidder 4", x.bidder(4, 1), 100);
        check.same("caught at spot 0", x.spot(0, 5), 100);
        check.same("caught in all", x.count(11), 100);
        check.same("spot 1 is not touched", x.spot(1, 1), 100);
        check.throwing(x, "fish(1) that nobody got", STATE, () -> x.fish(1));
        for (int spot : NO_PLACE) {
            check.throwing(x, "fish at no spot", INDEX, () -> x.fish(spot));
        }
        x.nextDay();
        check.throwing(x, "fish(0) on the next day", STATE, () -> x.fish(0));
        check.throwing(x, "fish(6) on the next day", INDEX, () -> x.fish(6));
    }

    private void promise9Neighbours() {
        SealedSpots x = new SealedSpots();
        x.set(2, 0);
        emptySpot(x, 1, 7);
        emptySpot(x, 3, 7);
        check.same("fish at spot 1", x.spot(1, 1), 11);
        // The last time at spot 1 and at spot 3 none is left that tenths could go to spot 2.
        check.same("fish at spot 2", x.spot(2, 1), 100);
        run(x, "n;b0290;o;f2");
        // 26 are caught, 74 left; 7 to spot 1, then a tenth of 67 to spot 3.
        check.same("fish at spot 2", x.spot(2, 1), 61);
        check.same("fish at spot 1", x.spot(1, 1), 18);
        check.same("fish at spot 3", x.spot(3, 1), 17);
        check.same("fish caught at spot 2", x.spot(2, 5), 26);
        run(x, "n;b0230;b1120;o;f2");
        // 16 are caught, 45 left; spot 1 is somebody's; 4 to spot 3.
        check.same("fish at spot 2", x.spot(2, 1), 41);
        check.same("fish at spot 1", x.spot(1, 1), 18);
        check.same("fish at spot 3", x.spot(3, 1), 21);
        check.same("fish at spot 0", x.spot(0, 1), 100);
        check.same("fish at spot 4", x.spot(4, 1), 100);
        x = new SealedSpots();
        x.set(2, 0);
        emptySpot(x, 1, 6);
        emptySpot(x, 0, 1);
        // 26 caught at spot 0 leave 74, more than the 16 of spot 1: 7 go there.
        check.same("fish at spot 0", x.spot(0, 1), 67);
        check.same("fish at spot 1", x.spot(1, 1), 23);
        x = new SealedSpots();
        x.set(2, 0);
        emptySpot(x, 0, 6);
        emptySpot(x, 1, 1);
        check.same("fish at spot 1", x.spot(1, 1), 67);
        check.same("fish at spot 0", x.spot(0, 1), 23);
        x = new SealedSpots();
        x.set(2, 0);
        emptySpot(x, 4, 6);
        emptySpot(x, 5, 1);
        check.same("fish at spot 5", x.spot(5, 1), 67);
        check.same("fish at spot 4", x.spot(4, 1), 23);
        x = new SealedSpots();
        x.set(2, 0);
        emptySpot(x, 1, 1);
        run(x, "n;b0050;o;f0");
        // 74 are left at each: no fewer there.
        check.same("fish at spot 0", x.spot(0, 1), 74);
        check.same("fish at spot 1", x.spot(1, 1), 74);
        x = new SealedSpots();
        x.set(2, 0);
        emptySpot(x, 1, 7);
        emptySpot(x, 4, 7);
        emptySpot(x, 3, 1);
        emptySpot(x, 2, 1);
        // 7 of the 74 at spot 3 went to spot 4. So did 7 of the 74 at spot 2 to spot 1: then spot 3 has no fewer.
        check.same("fish at spot 4", x.spot(4, 1), 18);
        check.same("fish at spot 1", x.spot(1, 1), 18);
        check.same("fish at spot 2", x.spot(2, 1), 67);
        check.same("fish at spot 3", x.spot(3, 1), 67);
    }

    /** Bidder 5 gets the spot, fishes so often, and the next day comes. */
    private void emptySpot(SealedSpots x, int spot, int times) {
        x.bid(5, spot, 10);
        x.open();
        for (int i = 0; i < times; i++) {
            x.fish(spot);
        }
        x.nextDay();
    }

    private void promise10() {
        SealedSpots x = new SealedSpots();
        check.same("nextDay() before the opening", x.nextDay(), 60);
        check.same("days", x.count(0), 2);
        x.bid(0, 2, 40);
        x.bid(1, 1, 40);
        x.withdraw(1, 1);
        x.pause(9);
        x.open();
        x.fish(2);
        // 110 less 28 are 82; nobody beside has fewer.
        check.same("fish at spot 2", x.spot(2, 1), 82);
        check.same("nextDay()", x.nextDay(), 60);
        counts(x, 3, 0, 0, 0, 7, 593, 600, 2, 5, 1, 692, 28, 2, 1, 6);
        numbersOfSpot(x, 2, 5, 92, NONE, NONE, 0, 28);
        numbersOfBidder(x, 0, 95, 28, 0, NONE, 5, 0);
        numbersOfBid(x, 0, 2, NONE, NONE, NONE, NONE, 2);
        x.set(2, 50);
        check.same("nextDay() of 50", x.nextDay(), 300);
        check.same("nextDay() up to 200", x.nextDay(), 5 * 30 + 50);
        check.same("nextDay() up to 200 at spot 2", x.nextDay(), 8);
        check.same("nextDay() of none", x.nextDay(), 0);
        check.same("fish at all spots", x.count(10), 1200);
        x.set(2, 0);
        x.bid(0, 2, 40);
        x.open();
        x.fish(2);
        check.same("nextDay() without fish", x.nextDay(), 0);
    }

    private void promise11() {
        SealedSpots x = new SealedSpots();
        check.same("append(33)", x.append(33), 1);
        check.same("append(126)", x.append(126), 2);
        for (int code : new int[] {32, 127, 0, -1, HUGE, TINY}) {
            check.throwing(x, "append(" + code + ")", ARGUMENT, () -> x.append(code));
        }
        for (int i = 3; i <= 60; i++) {
            check.same("append(98)", x.append(98), i);
        }
        check.throwing(x, "append(98) to 60", STATE, () -> x.append(98));
        check.throwing(x, "append(32) to 60", ARGUMENT, () -> x.append(32));
        check.same("saved states", x.count(14), 0);
        check.same("clearBuffer()", x.clearBuffer(), 60);
        check.same("append(98) anew", x.append(98), 1);
    }

    private void promise12() {
        SealedSpots x = new SealedSpots();
        check.same("clearBuffer() of none", x.clearBuffer(), 0);
        type(x, "b00");
        check.same("clearBuffer()", x.clearBuffer(), 3);
        check.same("clearBuffer() again", x.clearBuffer(), 0);
        check.same("saved states", x.count(14), 0);
        x.price(0, 9);
        type(x, "b00");
        x.undo();
        check.same("undo() leaves the buffer", x.clearBuffer(), 3);
    }

    private void promise13() {
        String[] good = {"", "b", "b0", "b05", "b051", "b0519", "b0599", "b551;", "w", "w5", "w55", "w00;", "h", "h1",
            "h10", "h19", "h2", "h20", "h23", "h3", "h9", "o", "o;", "f", "f5", "n", "n;n", "o;f0;f0;n;b0011;h2;w00",
            "n;n;n;n;n;n;n;n;n;n;n;n;n;n;n;n;n;n;n;n;n;n;n;n;n;n;n;n;n;n;"};
        for (String text : good) {
            check.same("firstError() of " + text, errorOf(text), text.length());
        }
        String[] bad = {"!", ";", "x", "B", "0", "b6", "b/", "b:", "b06", "b0;", "b000", "b00/", "b00:", "b00;",
            "b001:", "b001/", "b00123", "w6", "w06", "w00;;", "w000", "h0", "h;", "h24", "h29", "h30", "h99", "h1:",
            "h100", "h200", "oo", "of", "f6", "f;", "f00", "n0", "n;;", "o;x", "b0011,", "n;b0011;h24"};
        for (String text : bad) {
            check.same("firstError() of " + text, errorOf(text), text.length() - 1);
            check.same("firstError() of more than " + text, errorOf(text + "o;n"), text.length() - 1);
        }
    }

    private static int errorOf(String text) {
        SealedSpots x = new SealedSpots();
        type(x, text);
        return x.firstError();
    }

    private void promise14() {
        SealedSpots x = new SealedSpots();
        String[] incomplete = {"", "b", "b0", "b00", "w", "w0", "h", "f", "o;", "b0010;", "x", "o;x", "oo", "h24",
            "b000", "n;b00"};
        for (String text : incomplete) {
            type(x, text);
            check.throwing(x, "run() of " + text, ARGUMENT, () -> x.run());
            check.same("the buffer stays", x.clearBuffer(), text.length());
        }
        check.same("saved states", x.count(14), 0);
        check.same("run() of b055", run(x, "b055"), 1);
        check.same("the seal", x.sealed(0, 5, 0), 73 * 5 + 5);
        check.same("the buffer is empty", x.clearBuffer(), 0);
        check.same("saved states", x.count(14), 1);
        check.same("run() of two bids and hours", run(x, "b1299;h5;b2140;h1;w12;h23"), 6);
        counts(x, 1, 23, 0, 2, 8, 592, 600, 8, 0, 0, 600, 0, 3, 1, 2);
        check.same("run() of a day", run(x, "o;f1;f1;n;b0010"), 5);
        counts(x, 2, 0, 0, 1, 18, 582, 600, 8, 10, 2, 615, 45, 4, 1, 3);
        check.same("undo() of a whole text", x.undo(), 2);
        check.same("bids", x.count(3), 2);
        check.same("the hour", x.count(1), 23);
        check.same("undo() of a whole text", x.undo(), 1);
        check.same("undo() of the first text", x.undo(), 0);
        counts(x, 1, 0, 0, 0, 0, 600, 600, 0, 0, 0, 600, 0, 0, 0, 0);
        String hours = "h1;h2;h3;h4;h5;h6;h7;h8;h9;h10;h11;h12;h13;h14;h15;h16;h17;n";
        check.same("run() of 60 characters", run(x, hours), 18);
    }

    private void promise14Stops() {
        SealedSpots x = new SealedSpots();
        check.same("run() of a bid below the price", run(x, "b004"), 0);
        check.same("saved states", x.count(14), 1);
        check.same("the buffer is empty", x.clearBuffer(), 0);
        check.same("run() up to a second bid", run(x, "b0010;b0011;n"), 1);
        check.same("bids", x.count(3), 1);
        check.same("days", x.count(0), 1);
        check.same("run() up to a bid that is not there", run(x, "h2;w00;w00;h5"), 2);
        check.same("the hour", x.count(1), 2);
        check.same("run() up to fish before the opening", run(x, "b0010;f0;o"), 1);
        check.same("count(2)", x.count(2), 0);
        check.same("run() up to a second opening", run(x, "o;o;n"), 1);
        check.same("count(2)", x.count(2), 1);
        check.same("run() up to a bid behind the opening", run(x, "f0;b1110;f0"), 1);
        check.same("caught", x.count(11), 26);
        check.same("run() up to a spot that nobody got", run(x, "f0;f1;f0"), 1);
        check.same("caught", x.count(11), 45);
        check.same("run() up to a withdrawal behind the opening", run(x, "w00"), 0);
        check.same("saved states", x.count(14), 6);
        check.same("undo() of nothing done", x.undo(), 5);
        check.same("caught", x.count(11), 45);
        check.same("undo()", x.undo(), 4);
        check.same("caught", x.count(11), 26);
    }

    private void promise15() {
        SealedSpots x = new SealedSpots();
        check.same("keep()", x.keep(), 0);
        check.same("keep() is not undoable", x.count(14), 0);
        x.bid(0, 0, 20);
        x.withdraw(0, 0);
        check.same("keep() in its place", x.keep(), 2);
        x.nextDay();
        x.price(0, 50);
        check.same("goBack()", x.goBack(), 2);
        check.same("days", x.count(0), 1);
        check.same("price", x.spot(0, 0), 5);
        x.undo();
        x.undo();
        x.undo();
        x.undo();
        check.same("undo() leaves the snapshot", x.goBack(), 2);
    }

    private void promise16() {
        SealedSpots x = new SealedSpots();
        check.throwing(x, "goBack() without a snapshot", STATE, () -> x.goBack());
        x.set(2, 40);
        x.bid(3, 3, 30);
        x.keep();
        long digest = x.digest();
        type(x, "n");
        x.pause(4);
        x.open();
        x.fish(3);
        check.same("saved states", x.count(14), 5);
        check.same("goBack()", x.goBack(), 0);
        check.same("saved states are not gone back to", x.count(14), 6);
        check.same("the buffer stays", x.clearBuffer(), 1);
        numbersOfBid(x, 3, 3, 73 * 30 + 18 + 3, 0, NONE, 2, 0);
        counts(x, 1, 0, 0, 1, 0, 600, 600, 0, 0, 0, 600, 0, 1, 0, 6);
        check.same("undo() of goBack()", x.undo(), 5);
        check.same("caught", x.count(11), 26);
        check.same("the chest", x.count(4), 5);
        check.same("goBack() again", x.goBack(), 0);
        x.nextDay();
        check.same("the snapshot stays", x.goBack(), 0);
        check.same("bids", x.count(3), 1);
        check.same("setting(2)", x.setting(2), 40);
        for (int i = 0; i < 5; i++) {
            x.undo();
        }
        SealedSpots y = new SealedSpots();
        y.set(2, 40);
        y.bid(3, 3, 30);
        y.keep();
        check.same("the digest with the same saved states", y.digest(), digest);
    }

    private void promise17() {
        SealedSpots x = new SealedSpots();
        check.throwing(x, "undo() of nothing", STATE, () -> x.undo());
        for (int price = 10; price < 18; price++) {
            x.price(0, price);
        }
        check.same("saved states", x.count(14), 6);
        for (int i = 0; i < 6; i++) {
            check.same("undo()", x.undo(), 5 - i);
            check.same("the price then", x.spot(0, 0), 16 - i);
        }
        check.throwing(x, "undo() of the oldest, dropped", STATE, () -> x.undo());
        x.price(0, 11);
        check.same("a call that changes nothing is saved", x.undo(), 0);
        x.price(0, 30);
        x.undo();
        x.price(0, 31);
        check.same("undo() behind undo()", x.undo(), 0);
        check.same("the price", x.spot(0, 0), 11);
        check.throwing(x, "price(0, 100)", ARGUMENT, () -> x.price(0, 100));
        check.same("a call that throws saves nothing", x.count(14), 0);
    }

    private void promise18() {
        SealedSpots x = new SealedSpots();
        x.price(3, 8);
        x.bid(1, 3, 20);
        x.bid(4, 3, 15);
        numbersOfSpot(x, 3, 8, 100, NONE, NONE, 2, 0);
        x.open();
        x.fish(3);
        numbersOfSpot(x, 3, 8, 74, 1, 15, 2, 26);
        numbersOfSpot(x, 2, 5, 100, NONE, NONE, 0, 0);
        x.nextDay();
        numbersOfSpot(x, 3, 8, 84, NONE, NONE, 0, 26);
        run(x, "b3390;o;f3");
        numbersOfSpot(x, 3, 8, 62, 3, 8, 1, 48);
        check.same("saved states", x.count(14), 6);
        for (int spot : NO_PLACE) {
            check.throwing(x, "spot(" + spot + ", 9)", INDEX, () -> x.spot(spot, 9));
        }
        for (int what : new int[] {-1, 6, HUGE, TINY}) {
            check.throwing(x, "spot(0, " + what + ")", ARGUMENT, () -> x.spot(0, what));
        }
    }

    private void promise19() {
        SealedSpots x = new SealedSpots();
        run(x, "b1320;b1020;b4310;h3;w10");
        numbersOfBidder(x, 1, 95, 0, 1, NONE, 0, 5);
        run(x, "o;f3;f3");
        numbersOfBidder(x, 1, 85, 45, 1, 3, 10, 5);
        numbersOfBidder(x, 4, 100, 0, 1, NONE, 0, 0);
        run(x, "n;b1030;o;f0");
        numbersOfBidder(x, 1, 80, 73, 1, 0, 15, 5);
        x.pay(1, 20);
        numbersOfBidder(x, 1, 100, 73, 1, 0, 15, 5);
        for (int bidder : NO_PLACE) {
            check.throwing(x, "bidder(" + bidder + ", 9)", INDEX, () -> x.bidder(bidder, 9));
        }
        for (int what : new int[] {-1, 6, HUGE, TINY}) {
            check.throwing(x, "bidder(0, " + what + ")", ARGUMENT, () -> x.bidder(0, what));
        }
    }

    private void promise20() {
        SealedSpots x = new SealedSpots();
        x.pause(2);
        x.bid(1, 3, 20);
        numbersOfBid(x, 1, 3, 73 * 20 + 6 + 3, 2, NONE, 2, 0);
        numbersOfBid(x, 3, 1, NONE, NONE, NONE, NONE, 2);
        x.pause(10);
        x.set(0, 20);
        x.set(1, 8);
        numbersOfBid(x, 1, 3, 73 * 20 + 6 + 3, 2, NONE, 100, 0);
        x.set(1, 9);
        numbersOfBid(x, 1, 3, 73 * 20 + 6 + 3, 2, NONE, 110, 3);
        x.open();
        x.pause(1);
        numbersOfBid(x, 1, 3, 73 * 20 + 6 + 3, 2, 20, 119, 1);
        numbersOfBid(x, 3, 1, NONE, NONE, NONE, NONE, 1);
        x.nextDay();
        numbersOfBid(x, 1, 3, NONE, NONE, NONE, NONE, 2);
        for (int place : NO_PLACE) {
            check.throwing(x, "sealed(" + place + ", 0, 9)", INDEX, () -> x.sealed(place, 0, 9));
            check.throwing(x, "sealed(0, " + place + ", 9)", INDEX, () -> x.sealed(0, place, 9));
        }
        for (int what : new int[] {-1, 5, HUGE, TINY}) {
            check.throwing(x, "sealed(1, 3, " + what + ")", ARGUMENT, () -> x.sealed(1, 3, what));
        }
    }

    private void promise21() {
        SealedSpots x = new SealedSpots();
        run(x, "b0030;b1020;b2240;b2340;h4;w23;o;f0;f2;h2");
        // Bidder 0 pays 20 for spot 0, bidder 2 pays 5 for spot 2, and a fee of 6; 26 are caught at each.
        x.pay(5, 40);
        counts(x, 1, 6, 1, 3, 31, 609, 640, 6, 25, 2, 548, 52, 4, 1, 2);
        x.nextDay();
        x.bid(0, 0, 5);
        counts(x, 2, 0, 0, 1, 31, 609, 640, 6, 25, 2, 608, 52, 5, 1, 4);
        for (int what : new int[] {-1, 15, HUGE, TINY}) {
            check.throwing(x, "count(" + what + ")", ARGUMENT, () -> x.count(what));
        }
    }

    private void promise22() {
        SealedSpots x = new SealedSpots();
        x.set(0, 7);
        x.set(1, 8);
        x.set(2, 9);
        for (int i = 0; i < 3; i++) {
            check.same("setting(" + i + ")", x.setting(i), 7 + i);
        }
        for (int setting : new int[] {-1, 3, HUGE, TINY}) {
            check.throwing(x, "setting(" + setting + ")", INDEX, () -> x.setting(setting));
        }
    }

    private void promise23() {
        SealedSpots x = new SealedSpots();
        run(x, "b0030;b1050;b1160;h23");
        x.set(0, 20);
        x.withdraw(1, 0);
        check.same("the purse", x.bidder(1, 0), 57);
        check.same("why(1, 2, 57)", x.why(1, 2, 57), 0);
        check.same("why(1, 2, 58)", x.why(1, 2, 58), 4);
        check.same("why(1, 2, 5)", x.why(1, 2, 5), 0);
        check.same("why(1, 2, 4)", x.why(1, 2, 4), 3);
        x.price(2, 80);
        check.same("why(1, 2, 79), two reasons", x.why(1, 2, 79), 3);
        check.same("why(1, 2, 80)", x.why(1, 2, 80), 4);
        x.price(1, 99);
        check.same("why(1, 1, 98), three reasons", x.why(1, 1, 98), 2);
        check.same("why(1, 0, 30) behind the withdrawal", x.why(1, 0, 30), 0);
        x.open();
        check.same("why(1, 1, 98), all reasons", x.why(1, 1, 98), 1);
        check.same("why(1, 0, 30) behind the opening", x.why(1, 0, 30), 1);
        x.nextDay();
        x.price(0, 0);
        check.same("why(1, 0, 1)", x.why(1, 0, 1), 0);
        check.same("why(3, 0, 99)", x.why(3, 0, 99), 0);
        for (int place : NO_PLACE) {
            check.throwing(x, "why(" + place + ", 0, 0)", INDEX, () -> x.why(place, 0, 0));
            check.throwing(x, "why(0, " + place + ", 0)", INDEX, () -> x.why(0, place, 0));
        }
        for (int amount : new int[] {0, 100, -1, HUGE, TINY}) {
            check.throwing(x, "why(0, 0, " + amount + ")", ARGUMENT, () -> x.why(0, 0, amount));
        }
    }

    private void promise24() {
        SealedSpots x = new SealedSpots();
        int[] none = {0, 0, 0, 0, 0, 0, 0};
        worths(x, none);
        run(x, "b0060;b0150;b1055;b2120");
        worths(x, 50 + 15, 55 + 15, 50 + 45, 95, 95, 95, 95);
        x.price(0, 56);
        // Bidder 1 no longer counts; bidder 0 brings 4 or 45.
        worths(x, 15, 45, 45, 45, 45, 45, 45);
        x.open();
        // What bidder 0 paid leaves it 80: its bids count on.
        worths(x, 15, 45, 45, 45, 45, 45, 45);
        x = new SealedSpots();
        x.bid(0, 0, 60);
        x.bid(1, 0, 55);
        x.open();
        // Bidder 0 paid 55, so its bid does not count any more.
        worths(x, 50, 0, 50, 50, 50, 50, 50);
        x = new SealedSpots();
        for (int bidder = 0; bidder < 6; bidder++) {
            for (int spot = 0; spot < 6; spot++) {
                x.bid(bidder, spot, 10 + (bidder == spot ? 30 : 0) + bidder);
            }
        }
        worths(x, 190, 189, 188, 187, 186, 185, 225);
        for (int without : new int[] {-1, 7, HUGE, TINY}) {
            SealedSpots y = x;
            check.throwing(x, "worth(" + without + ", 0)", ARGUMENT, () -> y.worth(without, 0));
        }
        for (int way : new int[] {-1, 2, HUGE, TINY}) {
            SealedSpots y = x;
            check.throwing(x, "worth(0, " + way + ")", ARGUMENT, () -> y.worth(0, way));
        }
    }

    private void worths(SealedSpots x, int... due) {
        for (int without = 0; without < 7; without++) {
            check.same("worth(" + without + ", 0)", x.worth(without, 0), due[without]);
            check.same("worth(" + without + ", 1)", x.worth(without, 1), due[without]);
        }
    }

    private void promise25() {
        SealedSpots x = new SealedSpots();
        opened(x, 0, NONE, NONE);
        run(x, "b0060;b0150;b1055;b2120");
        opened(x, 0, 1, 5 + 70 - 45);
        opened(x, 1, 0, 5 + 65 - 50);
        opened(x, 2, NONE, NONE);
        check.same("nothing is changed", x.spot(0, 2), NONE);
        check.same("saved states", x.count(14), 1);
        x.open();
        check.same("who got spot 0", x.spot(0, 2), 1);
        check.same("what it paid", x.spot(0, 3), 30);
        // The purses are 80, 70 and 100 now: all bids count on.
        opened(x, 0, 1, 30);
        x.price(0, 56);
        opened(x, 0, NONE, NONE);
        opened(x, 1, 0, 5 + 15);
        x.price(5, 0);
        opened(x, 5, NONE, NONE);
        for (int spot : NO_PLACE) {
            check.throwing(x, "ifOpened(" + spot + ", 2)", INDEX, () -> x.ifOpened(spot, 2));
        }
        for (int what : new int[] {-1, 2, HUGE, TINY}) {
            check.throwing(x, "ifOpened(0, " + what + ")", ARGUMENT, () -> x.ifOpened(0, what));
        }
    }

    private void opened(SealedSpots x, int spot, int bidder, int price) {
        check.same("ifOpened(" + spot + ", 0)", x.ifOpened(spot, 0), bidder);
        check.same("ifOpened(" + spot + ", 1)", x.ifOpened(spot, 1), price);
    }

    private void promise26() {
        SealedSpots x = new SealedSpots();
        x.bid(0, 0, 30);
        brings(x, 1, 0, 31, 0, 30);
        brings(x, 1, 0, 30, NONE, NONE);
        brings(x, 1, 1, 5, 1, 5);
        brings(x, 1, 1, 4, NONE, NONE);
        brings(x, 0, 0, 99, 0, 5);
        brings(x, 0, 0, 4, NONE, NONE);
        x.bid(1, 0, 20);
        brings(x, 0, 0, 20, 0, 20);
        brings(x, 0, 0, 19, NONE, NONE);
        brings(x, 1, 1, 10, 1, 5);
        // With a bid for spot 1, bidder 0 leaves spot 0 to bidder 1.
        brings(x, 0, 1, 40, 1, 5 + 15 - 15);
        brings(x, 0, 1, 15, 1, 5);
        brings(x, 0, 1, 14, 0, 5 + 15);
        check.same("bids", x.count(3), 2);
        check.same("saved states", x.count(14), 2);
        x.bid(2, 2, 99);
        x.withdraw(2, 2);
        brings(x, 2, 2, 99, NONE, NONE);
        brings(x, 2, 2, 98, 2, 5);
        x.open();
        // Bidder 0 paid 20: its purse of 80 is what counts then.
        brings(x, 0, 3, 81, 0, 20);
        brings(x, 0, 3, 80, 3, 5);
        x.price(5, 0);
        brings(x, 3, 5, 1, 5, 0);
        for (int place : NO_PLACE) {
            check.throwing(x, "ifBid(" + place + ", 0, 0, 2)", INDEX, () -> x.ifBid(place, 0, 0, 2));
            check.throwing(x, "ifBid(0, " + place + ", 0, 2)", INDEX, () -> x.ifBid(0, place, 0, 2));
        }
        for (int number : new int[] {-1, 100, HUGE, TINY}) {
            check.throwing(x, "ifBid(0, 0, " + number + ", 0)", ARGUMENT, () -> x.ifBid(0, 0, number, 0));
            check.throwing(x, "ifBid(0, 0, 10, " + number + ")", ARGUMENT, () -> x.ifBid(0, 0, 10, number));
        }
        check.throwing(x, "ifBid(0, 0, 0, 0)", ARGUMENT, () -> x.ifBid(0, 0, 0, 0));
        check.throwing(x, "ifBid(0, 0, 10, 2)", ARGUMENT, () -> x.ifBid(0, 0, 10, 2));
    }

    private void brings(SealedSpots x, int bidder, int spot, int amount, int won, int price) {
        String call = "ifBid(" + bidder + ", " + spot + ", " + amount;
        check.same(call + ", 0)", x.ifBid(bidder, spot, amount, 0), won);
        check.same(call + ", 1)", x.ifBid(bidder, spot, amount, 1), price);
    }

    private void promise27() {
        SealedSpots x = new SealedSpots();
        check.same("least(0, 0)", x.least(0, 0), 5);
        x.price(0, 0);
        check.same("least(0, 0) at the price 0", x.least(0, 0), 1);
        x.price(0, 99);
        check.same("least(0, 0) at the price 99", x.least(0, 0), 99);
        x.price(0, 5);
        x.bid(2, 0, 30);
        check.same("least(1, 0), lower than who bids", x.least(1, 0), 30);
        check.same("least(3, 0), higher than who bids", x.least(3, 0), 31);
        check.same("least(2, 0) in place of its own", x.least(2, 0), 5);
        check.same("least(2, 1) beside its own bid", x.least(2, 1), 31);
        x.bid(4, 0, 99);
        check.same("least(1, 0) against 99", x.least(1, 0), 99);
        check.same("least(5, 0) against 99", x.least(5, 0), NONE);
        check.same("saved states", x.count(14), 5);
        x = new SealedSpots();
        x.bid(1, 1, 10);
        x.withdraw(1, 1);
        x.price(2, 98);
        check.same("least(1, 2) of the whole purse", x.least(1, 2), 98);
        x.price(2, 99);
        check.same("least(1, 2) above the purse", x.least(1, 2), NONE);
        SealedSpots y = x;
        for (int place : NO_PLACE) {
            check.throwing(x, "least(" + place + ", 0)", INDEX, () -> y.least(place, 0));
            check.throwing(x, "least(0, " + place + ")", INDEX, () -> y.least(0, place));
        }
    }

    private void promise28() {
        SealedSpots x = new SealedSpots();
        check.same("keenest() of none", x.keenest(), 0);
        x.bid(3, 0, 30);
        check.same("keenest() of one", x.keenest(), 3);
        x.bid(4, 1, 40);
        check.same("keenest() of two", x.keenest(), 4);
        x.bid(2, 2, 40);
        check.same("keenest() of the lowest", x.keenest(), 2);
        x.bid(5, 2, 39);
        check.same("keenest() where another follows", x.keenest(), 4);
        check.same("saved states", x.count(14), 4);
        x.open();
        check.same("keenest() behind the opening", x.keenest(), 4);
    }

    private void promise29() {
        SealedSpots x = new SealedSpots();
        check.isTrue("chestShare() of none", x.chestShare() == 0.0);
        x.bid(0, 0, 30);
        x.bid(1, 0, 25);
        x.open();
        check.isTrue("chestShare() of 25 / 600", x.chestShare() == 25.0 / 600.0);
        x.pay(0, 99);
        check.isTrue("chestShare() of 25 / 699", x.chestShare() == 25.0 / 699.0);
        x.nextDay();
        x.bid(2, 2, 40);
        x.withdraw(2, 2);
        check.isTrue("chestShare() of 27 / 699", x.chestShare() == 27.0 / 699.0);
    }

    private void promise30() {
        SealedSpots x = new SealedSpots();
        check.isTrue("meanPrice() of none", x.meanPrice() == 0.0f);
        x.open();
        check.isTrue("meanPrice() of none given", x.meanPrice() == 0.0f);
        run(x, "n;b0030;b1025;b1110;b2210;b2320;h2;w23;o");
        // Bidder 0 pays 20, as bidder 1 leaves spot 1 for it; bidder 1 and 2 pay 5 each.
        check.same("prices", x.count(8), 30);
        check.isTrue("meanPrice() of 30 / 3", x.meanPrice() == 10.0f);
        x.price(1, 7);
        run(x, "n;b3110;o");
        check.isTrue("meanPrice() of 37 / 4", x.meanPrice() == 9.25f);
        run(x, "n;b3310;b4410;o");
        check.isTrue("meanPrice() of 47 / 6", x.meanPrice() == 47.0f / 6.0f);
        x.price(0, 0);
        SealedSpots y = new SealedSpots();
        y.price(0, 0);
        run(y, "b0030;o");
        check.isTrue("meanPrice() of 0 / 1", y.meanPrice() == 0.0f);
    }

    private void promise31() {
        SealedSpots x = new SealedSpots();
        long before = x.digest();
        check.same("digest() again", x.digest(), before);
        check.same("digest() of a new object", before, Hash.of(x, false, ""));
        String[] texts = {"b0030;b1025;b1110;b2210;b2320;h2;w23", "o", "f0;f1;f1", "n;b0199;b1299;b3599;b5120"};
        for (int last = 0; last < texts.length; last++) {
            SealedSpots y = new SealedSpots();
            for (int i = 0; i <= last; i++) {
                run(y, texts[i]);
            }
            check.same("digest() behind " + texts[last], y.digest(), Hash.of(y, false, ""));
        }
        x.keep();
        type(x, "~!b0;");
        check.same("digest() of a snapshot and a buffer", x.digest() == before ? 1 : 0, 0);
        SealedSpots z = new SealedSpots();
        z.keep();
        type(z, "~!b0;");
        check.same("digest() of a snapshot and a buffer", z.digest(), Hash.of(z, true, "~!b0;"));
    }
}

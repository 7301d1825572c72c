import java.util.function.Consumer;

/** The sentences of the promises 1 to 17, the calls that change something. */
final class CallSentences extends Sentences {
    private static final int[] NO_SETTING = {3, -1, HUGE, TINY};
    private static final int[] NO_HOURS = {0, 24, -1, HUGE, TINY};
    private static final int[] NO_CODE = {32, 127, 0, -1, HUGE, TINY};
    private static final String FULL = "n;".repeat(30);
    /** Bidder 0 gets the spot 0, bidder 1 the spot 1. */
    private static final Consumer<SealedSpots> OPENED = x -> run(x, "b0030;b1120;o");

    @Override
    void all() {
        newObject();
        price();
        pay();
        set();
        bid();
        bidThrows();
        withdraw();
        withdrawThrows();
        pause();
        open();
        fish();
        fishThrows();
        nextDay();
        append();
        clearBuffer();
        firstError();
        runDoes();
        runStops();
        runThrows();
        keep();
        goBack();
        undo();
    }

    private void newObject() {
        test(1, "Creates spots and bidders as told above", x -> {
            for (int i = 0; i < 6; i++) {
                int[] spot = {5, 100, NONE, NONE, 0, 0};
                int[] bidder = {100, 0, 0, NONE, 0, 0};
                for (int what = 0; what < 6; what++) {
                    same("spot(" + i + ", " + what + ")", x.spot(i, what), spot[what]);
                    same("bidder(" + i + ", " + what + ")", x.bidder(i, what), bidder[what]);
                }
            }
            int[] counts = {1, 0, 0, 0, 0, 600, 600, 0, 0, 0, 600, 0, 0, 0, 0};
            for (int what = 0; what < counts.length; what++) {
                same("count(" + what + ")", x.count(what), counts[what]);
            }
            same("settings", 100 * x.setting(0) + 50 * x.setting(1) + x.setting(2), 260);
        });
        test(1, "with an empty buffer and no snapshot", x -> {
            same("firstError()", x.firstError(), 0);
            same("clearBuffer()", x.clearBuffer(), 0);
            refusedAsMade("goBack()", STATE, NEW, y -> y.goBack());
            refusedAsMade("undo()", STATE, NEW, y -> y.undo());
            refusedAsMade("run()", ARGUMENT, NEW, y -> y.run());
        });
        test(1, "Creates spots and bidders", x -> {
            SealedSpots y = new SealedSpots();
            x.price(0, 9);
            x.keep();
            x.append('n');
            same("the price in another object", y.spot(0, 0), 5);
            same("the buffer of another object", y.clearBuffer(), 0);
            same("goBack() in another object", Check.kindOf(() -> y.goBack()), 3);
        });
    }

    private void price() {
        test(2, "Changes the least price of a spot; bids for it stay.", x -> {
            x.bid(0, 0, 30);
            x.price(0, 99);
            same("a bid below the price stays", x.spot(0, 4), 1);
            same("but would get nothing", x.ifOpened(0, 0), NONE);
            same("a bid of the price before", x.why(1, 0, 98), 3);
            x.price(0, 30);
            same("the bid at the price", x.ifOpened(0, 0), 0);
            x.open();
            x.price(0, 31);
            same("the price behind the opening", x.spot(0, 0), 31);
            x.nextDay();
            same("the price on the next day", x.spot(0, 0), 31);
            same("the price of another spot", x.spot(1, 0), 5);
        });
        test(2, "Undoable.", x -> {
            undoable("price(0, 99)", OPENED, y -> y.price(0, 99));
            undoable("price(0, 5)", OPENED, y -> y.price(0, 5));
        });
        test(2, "`spot`: 0 to 5", x -> {
            same("price(0, 7)", x.price(0, 7), 5);
            same("price(5, 8)", x.price(5, 8), 5);
            same("spot(0, 0)", x.spot(0, 0), 7);
            same("spot(5, 0)", x.spot(5, 0), 8);
        });
        test(2, "`price`: 0 to 99", x -> {
            same("price(0, 0)", x.price(0, 0), 5);
            same("spot(0, 0)", x.spot(0, 0), 0);
            same("price(0, 99)", x.price(0, 99), 0);
            same("spot(0, 0)", x.spot(0, 0), 99);
        });
        test(2, "Returns the least price before.", x -> {
            same("price(1, 6)", x.price(1, 6), 5);
            same("price(1, 6) again", x.price(1, 6), 6);
            same("price(2, 6)", x.price(2, 6), 5);
        });
        test(2, "Throws `IndexOutOfBoundsException` if there is no such spot", x -> {
            refusedFor(NO_PLACE, "price(#, 5)", INDEX, NEW, (y, spot) -> y.price(spot, 5));
            refusedFor(NO_PLACE, "price(#, 100)", INDEX, NEW, (y, spot) -> y.price(spot, 100));
        });
        test(2, "Throws `IllegalArgumentException` if price is out of range", x ->
            refusedFor(new int[] {100, -1, HUGE, TINY}, "price(5, #)", ARGUMENT, OPENED,
                    (y, price) -> y.price(5, price)));
    }

    private void pay() {
        test(3, "Fills a purse.", x -> {
            x.pay(2, 40);
            same("the purse", x.bidder(2, 0), 140);
            same("another purse", x.bidder(1, 0), 100);
            same("all purses", x.count(5), 640);
            same("all coins", x.count(6), 640);
            same("the chest", x.count(4), 0);
        });
        test(3, "Undoable.", x -> undoable("pay(5, 99)", OPENED, y -> y.pay(5, 99)));
        test(3, "`bidder`: 0 to 5", x -> {
            same("pay(0, 7)", x.pay(0, 7), 107);
            same("pay(5, 8)", x.pay(5, 8), 108);
        });
        test(3, "`coins`: 1 to 99", x -> {
            same("pay(0, 1)", x.pay(0, 1), 101);
            same("pay(1, 99)", x.pay(1, 99), 199);
        });
        test(3, "Returns what is in it then.", x -> {
            x.bid(3, 0, 9);
            x.withdraw(3, 0);
            same("pay(3, 2) to 98", x.pay(3, 2), 100);
            same("pay(3, 2) again", x.pay(3, 2), 102);
        });
        test(3, "Throws `IndexOutOfBoundsException` if there is no such bidder", x -> {
            refusedFor(NO_PLACE, "pay(#, 1)", INDEX, NEW, (y, bidder) -> y.pay(bidder, 1));
            refusedFor(NO_PLACE, "pay(#, 0)", INDEX, NEW, (y, bidder) -> y.pay(bidder, 0));
        });
        test(3, "Throws `IllegalArgumentException` if coins is out of range", x ->
            refusedFor(NO_AMOUNT, "pay(0, #)", ARGUMENT, NEW, (y, coins) -> y.pay(0, coins)));
        test(3, "Throws `IllegalStateException` if there would be more than 9999 coins in all", x -> {
            TermsSentences.payUpTo(x, 9990);
            same("pay(0, 9) to 9999", x.pay(0, 9), 109);
            same("all coins", x.count(6), 9999);
            refused("pay(0, 10) to 10000", STATE, y -> TermsSentences.payUpTo(y, 9990), y -> y.pay(0, 10));
            refused("pay(5, 1) to 10000", STATE, y -> TermsSentences.payUpTo(y, 9999), y -> y.pay(5, 1));
            Consumer<SealedSpots> chest = y -> {
                TermsSentences.payUpTo(y, 9999);
                run(y, "b1099;b0099;o");
            };
            same("the chest", make(chest).count(4), 99);
            refused("pay(0, 1) to 10000, some in the chest", STATE, chest, y -> y.pay(0, 1));
            refused("pay(0, 100) to 10099", ARGUMENT, chest, y -> y.pay(0, 100));
            x.undo();
            same("pay(0, 9) again behind undo()", x.pay(0, 9), 109);
        });
    }

    private void set() {
        test(4, "Changes a setting.", x -> {
            x.set(0, 3);
            x.set(1, 4);
            x.bid(0, 0, 9);
            x.pause(2);
            same("the fee", x.sealed(0, 0, 3), 11);
            x.set(2, 7);
            same("nextDay()", x.nextDay(), 42);
            same("a setting on the next day", x.setting(0), 3);
        });
        test(4, "Undoable.", x -> {
            undoable("set(0, 20)", OPENED, y -> y.set(0, 20));
            undoable("set(1, 1)", OPENED, y -> y.set(1, 1));
        });
        test(4, "`setting`: 0 to 2", x -> {
            same("set(0, 5)", x.set(0, 5), 2);
            same("set(2, 6)", x.set(2, 6), 10);
            same("setting(0)", x.setting(0), 5);
            same("setting(1)", x.setting(1), 1);
            same("setting(2)", x.setting(2), 6);
        });
        test(4, "`value`: the new value", x -> {
            int[] most = {20, 9, 50};
            for (int i = 0; i < 3; i++) {
                x.set(i, most[i]);
                same("the most", x.setting(i), most[i]);
                x.set(i, 0);
                same("the least", x.setting(i), 0);
            }
        });
        test(4, "Returns the previous value.", x -> {
            same("set(1, 9)", x.set(1, 9), 1);
            same("set(1, 9) again", x.set(1, 9), 9);
            same("set(0, 0)", x.set(0, 0), 2);
        });
        test(4, "Throws `IndexOutOfBoundsException` if there is no such setting", x -> {
            refusedFor(NO_SETTING, "set(#, 5)", INDEX, NEW, (y, setting) -> y.set(setting, 5));
            refusedFor(NO_SETTING, "set(#, 51)", INDEX, NEW, (y, setting) -> y.set(setting, 51));
        });
        test(4, "Throws `IllegalArgumentException` if value is out of range", x -> {
            refused("set(0, 21)", ARGUMENT, NEW, y -> y.set(0, 21));
            refused("set(1, 10)", ARGUMENT, NEW, y -> y.set(1, 10));
            refused("set(2, 51)", ARGUMENT, NEW, y -> y.set(2, 51));
            for (int value : new int[] {-1, HUGE, TINY}) {
                refusedFor(new int[] {0, 1, 2}, "set(#, " + value + ")", ARGUMENT, NEW,
                        (y, setting) -> y.set(setting, value));
            }
        });
    }

    private void bid() {
        test(5, "Seals a bid.", x -> {
            x.bid(2, 3, 40);
            same("bids", x.count(3), 1);
            same("bids sealed", x.count(12), 1);
            same("its amount is sealed", x.sealed(2, 3, 2), NONE);
            same("bids of the bidder", x.bidder(2, 2), 1);
            same("bids for the spot", x.spot(3, 4), 1);
            same("the purse keeps its coins", x.bidder(2, 0), 100);
        });
        test(5, "Undoable.", x -> undoable("bid(0, 0, 30)", y -> y.pause(4), y -> y.bid(0, 0, 30)));
        test(5, "`bidder`: 0 to 5", x -> {
            same("bid(0, 1, 5)", x.bid(0, 1, 5), 366);
            same("bid(5, 1, 5)", x.bid(5, 1, 5), 365 + 41 + 31);
        });
        test(5, "`spot`: 0 to 5", x -> {
            same("bid(1, 0, 5)", x.bid(1, 0, 5), 371);
            same("bid(1, 5, 5)", x.bid(1, 5, 5), 365 + 41 + 11);
        });
        test(5, "`amount`: 1 to 99", x -> {
            x.price(0, 0);
            same("bid(0, 0, 1)", x.bid(0, 0, 1), 73);
            same("bid(1, 0, 99)", x.bid(1, 0, 99), 73 * 99 + 41 + 6 - 4096);
        });
        test(5, "Returns its seal.", x -> {
            same("bid(4, 2, 17)", x.bid(4, 2, 17), x.sealed(4, 2, 0));
            same("bid(4, 3, 99)", x.bid(4, 3, 99), x.sealed(4, 3, 0));
            same("the least seal", new SealedSpots().bid(1, 2, 56), 0);
            same("the greatest seal", new SealedSpots().bid(1, 1, 56), 4095);
        });
    }

    private void bidThrows() {
        test(5, "Throws `IndexOutOfBoundsException` if there is no such bidder or spot", x -> {
            refusedFor(NO_PLACE, "bid(#, 0, 9)", INDEX, NEW, (y, bidder) -> y.bid(bidder, 0, 9));
            refusedFor(NO_PLACE, "bid(0, #, 9)", INDEX, NEW, (y, spot) -> y.bid(0, spot, 9));
            refusedFor(NO_PLACE, "bid(#, 0, 0)", INDEX, OPENED, (y, bidder) -> y.bid(bidder, 0, 0));
            refusedFor(NO_PLACE, "bid(0, #, 0)", INDEX, OPENED, (y, spot) -> y.bid(0, spot, 0));
        });
        test(5, "Throws `IllegalArgumentException` if amount is out of range", x -> {
            refusedFor(NO_AMOUNT, "bid(0, 0, #)", ARGUMENT, y -> y.price(0, 0), (y, amount) -> y.bid(0, 0, amount));
            refusedFor(NO_AMOUNT, "bid(0, 0, #) opened", ARGUMENT, OPENED, (y, amount) -> y.bid(0, 0, amount));
        });
        test(5, "Throws `IllegalStateException` if it can not be sealed", x -> {
            refused("bid behind the opening", STATE, OPENED, y -> y.bid(5, 5, 9));
            refused("a second bid", STATE, y -> y.bid(5, 5, 9), y -> y.bid(5, 5, 9));
            refused("a bid of 4 at the price 5", STATE, NEW, y -> y.bid(5, 5, 4));
            refused("a bid of 98 at the price 99", STATE, y -> y.price(5, 99), y -> y.bid(5, 5, 98));
            refused("a bid of 99 with a purse of 98", STATE, y -> payFee(y, 5, 0, 2), y -> y.bid(5, 5, 99));
            SealedSpots y = make(z -> payFee(z, 5, 0, 2));
            same("a bid of 98 with a purse of 98", y.bid(5, 5, 98), 73 * 98 + 41 + 35 - 4096);
        });
    }

    private void withdraw() {
        test(6, "Withdraws a bid.", x -> {
            run(x, "b0030;b0130;b1030");
            x.withdraw(0, 0);
            same("bids", x.count(3), 2);
            same("bids withdrawn", x.count(13), 1);
            same("bids sealed", x.count(12), 3);
            same("the seal", x.sealed(0, 0, 0), NONE);
            same("bids for the spot", x.spot(0, 4), 1);
            same("bids of the bidder", x.bidder(0, 2), 1);
            same("who would get the spot", x.ifOpened(0, 0), 1);
        });
        test(6, "Undoable.", x -> undoable("withdraw(0, 0)", y -> run(y, "b0030;h7"), y -> y.withdraw(0, 0)));
        test(6, "`bidder`: 0 to 5", x -> {
            run(x, "b019;b519");
            same("withdraw(0, 1)", x.withdraw(0, 1), 2);
            same("withdraw(5, 1)", x.withdraw(5, 1), 2);
            same("bids", x.count(3), 0);
        });
        test(6, "`spot`: 0 to 5", x -> {
            run(x, "b109;b159");
            same("withdraw(1, 0)", x.withdraw(1, 0), 2);
            same("withdraw(1, 5)", x.withdraw(1, 5), 2);
            same("bids", x.count(3), 0);
        });
        test(6, "Returns the fee.", x -> {
            run(x, "b009;b019;b029;h5");
            same("withdraw(0, 0)", x.withdraw(0, 0), 7);
            x.set(0, 0);
            x.set(1, 0);
            same("withdraw(0, 1) for nothing", x.withdraw(0, 1), 0);
            x.set(0, 20);
            x.set(1, 9);
            same("withdraw(0, 2)", x.withdraw(0, 2), 65);
            same("fees of the bidder", x.bidder(0, 5), 72);
            same("fees", x.count(7), 72);
        });
    }

    private void withdrawThrows() {
        Consumer<SealedSpots> sealed = y -> run(y, "b0030;b5530");
        test(6, "Throws `IndexOutOfBoundsException` if there is no such bidder or spot", x -> {
            refusedFor(NO_PLACE, "withdraw(#, 0)", INDEX, sealed, (y, bidder) -> y.withdraw(bidder, 0));
            refusedFor(NO_PLACE, "withdraw(0, #)", INDEX, sealed, (y, spot) -> y.withdraw(0, spot));
            refusedFor(NO_PLACE, "withdraw(#, 0) opened", INDEX, OPENED, (y, bidder) -> y.withdraw(bidder, 0));
        });
        test(6, "Throws `IllegalStateException` if it can not be withdrawn", x -> {
            refused("withdraw behind the opening", STATE, OPENED, y -> y.withdraw(0, 0));
            refused("withdraw of no bid", STATE, sealed, y -> y.withdraw(0, 5));
            refused("withdraw of one that is withdrawn", STATE, sealed.andThen(y -> y.withdraw(5, 5)),
                    y -> y.withdraw(5, 5));
            Consumer<SealedSpots> dear = sealed.andThen(y -> {
                y.set(0, 20);
                y.set(1, 9);
                y.pause(9);
            });
            refused("withdraw for 101 of 100", STATE, dear, y -> y.withdraw(0, 0));
            SealedSpots y = make(dear);
            y.pay(0, 1);
            same("withdraw for 101 of 101", y.withdraw(0, 0), 101);
            same("the purse", y.bidder(0, 0), 0);
        });
    }

    private void pause() {
        test(7, "Lets hours pass.", x -> {
            x.pause(5);
            same("the hour", x.count(1), 5);
            x.pause(6);
            same("the hour", x.count(1), 11);
            x.open();
            same("behind the opening too", x.pause(1), 12);
            same("days", x.count(0), 1);
        });
        test(7, "Undoable.", x -> {
            undoable("pause(3)", OPENED, y -> y.pause(3));
            undoable("pause(3) at the last hour", y -> y.pause(23), y -> y.pause(3));
        });
        test(7, "`hours`: 1 to 23", x -> {
            same("pause(1)", x.pause(1), 1);
            same("pause(23)", new SealedSpots().pause(23), 23);
        });
        test(7, "Returns the hour then.", x -> {
            same("pause(21)", x.pause(21), 21);
            same("pause(1)", x.pause(1), 22);
            same("pause(2) to the last hour", x.pause(2), 23);
            same("pause(23) at the last hour", x.pause(23), 23);
        });
        test(7, "Throws `IllegalArgumentException` if hours is out of range", x -> {
            refusedFor(NO_HOURS, "pause(#)", ARGUMENT, NEW, (y, hours) -> y.pause(hours));
            refusedFor(NO_HOURS, "pause(#) at 23", ARGUMENT, y -> y.pause(23), (y, hours) -> y.pause(hours));
        });
    }

    private void open() {
        test(8, "Opens the bids.", x -> {
            run(x, "b0030;b1120");
            same("count(2) before", x.count(2), 0);
            same("an amount before", x.sealed(0, 0, 2), NONE);
            x.open();
            same("count(2)", x.count(2), 1);
            same("an amount", x.sealed(0, 0, 2), 30);
            same("who got it", x.spot(0, 2), 0);
            same("spots given so far", x.count(9), 2);
        });
        test(8, "Undoable.", x -> {
            undoable("open()", y -> run(y, "b0030;b1020;b1120"), y -> y.open());
            undoable("open() of no bid", NEW, y -> y.open());
        });
        test(8, "Returns how many spots are given.", x -> {
            same("open() of no bid", x.open(), 0);
            x.nextDay();
            for (int i = 0; i < 6; i++) {
                x.bid(i, 5 - i, 9);
            }
            same("open() of all spots", x.open(), 6);
            x.nextDay();
            run(x, "b0030;b1020;b2010");
            same("open() of three bids for a spot", x.open(), 1);
        });
        test(8, "Throws `IllegalStateException` if they are opened already", x -> {
            refused("open() again", STATE, OPENED, y -> y.open());
            refused("open() of no bid again", STATE, y -> y.open(), y -> y.open());
            x.open();
            x.undo();
            same("open() behind undo()", x.open(), 0);
            x.nextDay();
            same("open() on the next day", x.open(), 0);
        });
    }

    private void fish() {
        test(9, "Lets who got a spot fish there.", x -> {
            OPENED.accept(x);
            x.fish(1);
            same("the catch of bidder 1", x.bidder(1, 1), 26);
            same("the catch of bidder 0", x.bidder(0, 1), 0);
            same("the fish at spot 1", x.spot(1, 1), 74);
            same("the fish at spot 0", x.spot(0, 1), 100);
            same("caught at spot 1", x.spot(1, 5), 26);
            same("caught in all", x.count(11), 26);
            x.pause(23);
            same("fish(1) again, at the last hour", x.fish(1), 19);
        });
        test(9, "Undoable.", x -> {
            undoable("fish(0)", OPENED, y -> y.fish(0));
            undoable("fish(0) of none", OPENED.andThen(y -> run(y, "f0;".repeat(12) + "f0")), y -> y.fish(0));
        });
        test(9, "`spot`: 0 to 5", x -> {
            run(x, "b109;b259;o");
            same("fish(0)", x.fish(0), 26);
            same("fish(5)", x.fish(5), 26);
        });
        test(9, "Returns what is caught.", x -> {
            OPENED.accept(x);
            int[] caught = {26, 19, 14, 11, 8, 6, 5, 3, 3, 2, 1, 1, 1, 0, 0};
            for (int i = 0; i < caught.length; i++) {
                same("fish(0), time " + i, x.fish(0), caught[i]);
            }
            same("the catch", x.bidder(0, 1), 100);
        });
    }

    private void fishThrows() {
        test(9, "Throws `IndexOutOfBoundsException` if there is no such spot", x -> {
            refusedFor(NO_PLACE, "fish(#)", INDEX, NEW, (y, spot) -> y.fish(spot));
            refusedFor(NO_PLACE, "fish(#) opened", INDEX, OPENED, (y, spot) -> y.fish(spot));
        });
        test(9, "Throws `IllegalStateException` if nobody got it, or the bids are not opened", x -> {
            refused("fish(2) that nobody got", STATE, OPENED, y -> y.fish(2));
            refused("fish(0) not opened", STATE, y -> run(y, "b0030"), y -> y.fish(0));
            refused("fish(0) of no bid", STATE, y -> y.open(), y -> y.fish(0));
            refused("fish(0) of a bid that did not count", STATE, y -> {
                y.bid(0, 0, 30);
                y.price(0, 31);
                y.open();
            }, y -> y.fish(0));
            refused("fish(0) on the next day", STATE, OPENED.andThen(y -> y.nextDay()), y -> y.fish(0));
            refused("fish(0) on the next day, opened", STATE, OPENED.andThen(y -> run(y, "n;o")), y -> y.fish(0));
        });
    }

    private void nextDay() {
        test(10, "Begins the next day, whether bids were opened or not.", x -> {
            x.bid(0, 0, 30);
            same("nextDay(), not opened", x.nextDay(), 60);
            same("days", x.count(0), 2);
            same("bids", x.count(3), 0);
            same("bids sealed so far", x.count(12), 1);
            same("coins", x.count(5), 600);
            OPENED.accept(x);
            same("nextDay(), opened", x.nextDay(), 60);
            same("days", x.count(0), 3);
            same("count(2)", x.count(2), 0);
            same("spots given so far", x.count(9), 2);
            same("prices so far", x.bidder(0, 4), 5);
            same("bid(0, 0, 5)", x.bid(0, 0, 5), 365);
        });
        test(10, "Undoable.", x -> {
            undoable("nextDay()", OPENED.andThen(y -> run(y, "f0;h9")), y -> y.nextDay());
            undoable("nextDay(), not opened", y -> run(y, "b0030;b0130;w01;h9"), y -> y.nextDay());
        });
        test(10, "Returns how many fish come, to all spots together (those above 200 do not).", x -> {
            OPENED.accept(x);
            run(x, "f0;".repeat(13) + "f1");
            x.set(2, 50);
            // Spot 0 has none, spot 1 has 74, the others have 100.
            same("nextDay() of 50 to each", x.nextDay(), 300);
            same("nextDay() to 100, 174 and four of 200", x.nextDay(), 300);
            same("nextDay() to 150 and 200", x.nextDay(), 50 + 26);
            same("nextDay() to 200", x.nextDay(), 50);
            same("nextDay() of all full", x.nextDay(), 0);
            same("all fish", x.count(10), 1200);
        });
    }

    private void append() {
        test(11, "Appends a character to the buffer.", x -> {
            type(x, "b0");
            x.append('6');
            same("behind the others", x.firstError(), 2);
            long hash = x.digest();
            x.append('n');
            x.append('n');
            isTrue("another digest", x.digest() != hash);
            same("no state is saved", x.count(14), 0);
        });
        test(11, "`code`: the character code, 33 to 126", x -> {
            same("append(33)", x.append(33), 1);
            same("append(126)", x.append(126), 2);
            same("digest()", x.digest(), Hash.of(x, false, "!~"));
        });
        test(11, "Returns the new length of the buffer.", x -> {
            for (int length = 1; length <= 60; length++) {
                same("append(98)", x.append(98), length);
            }
            x.clearBuffer();
            same("append(98) behind clearBuffer()", x.append(98), 1);
        });
        test(11, "Throws `IllegalArgumentException` if code is not 33 to 126", x -> {
            refusedFor(NO_CODE, "append(#)", ARGUMENT, NEW, (y, code) -> y.append(code));
            for (int code : NO_CODE) {
                refusedAsMade("append(" + code + ") to 60", ARGUMENT, y -> type(y, FULL), y -> y.append(code));
            }
        });
        test(11, "Throws `IllegalStateException` if the buffer has 60 characters", x -> {
            type(x, FULL.substring(0, 59));
            same("append() to 59", x.append('x'), 60);
            refusedAsMade("append() to 60", STATE, y -> type(y, FULL), y -> y.append('n'));
            refusedAsMade("append() to 60 with a past", STATE, withPast(y -> type(y, FULL)), y -> y.append('n'));
            x.clearBuffer();
            same("append() behind clearBuffer()", x.append('n'), 1);
        });
    }

    private void clearBuffer() {
        test(12, "Clears the buffer.", x -> {
            type(x, "xyz");
            x.clearBuffer();
            same("firstError()", x.firstError(), 0);
            same("digest()", x.digest(), new SealedSpots().digest());
            type(x, "n");
            same("run() of what comes then", x.run(), 1);
        });
        test(12, "Returns the length that it had.", x -> {
            same("clearBuffer() of none", x.clearBuffer(), 0);
            type(x, "n");
            same("clearBuffer() of one", x.clearBuffer(), 1);
            same("clearBuffer() again", x.clearBuffer(), 0);
            type(x, FULL);
            same("clearBuffer() of 60", x.clearBuffer(), 60);
            same("saved states", x.count(14), 0);
        });
    }

    private void firstError() {
        test(13, "Finds the first syntax error of the buffer.", x -> {
            type(x, "o;b00x;!");
            same("firstError()", x.firstError(), 5);
            same("firstError() again", x.firstError(), 5);
            same("the buffer stays", x.clearBuffer(), 8);
            same("saved states", x.count(14), 0);
        });
        test(13, "Returns the index of the first character that is a syntax error", x -> {
            type(x, "!");
            same("the first character", x.firstError(), 0);
            type(x, "nn");
            same("the second character", x.firstError(), 1);
            type(x, FULL.substring(0, 59) + "o");
            same("the last of 60", x.firstError(), 59);
        });
        test(13, "the length of the buffer if there is none", x -> {
            same("of none", x.firstError(), 0);
            type(x, "n");
            same("of one", x.firstError(), 1);
            type(x, "n;b00");
            same("of a part that is not ended", x.firstError(), 5);
            type(x, FULL);
            same("of 60", x.firstError(), 60);
        });
    }

    private void runDoes() {
        test(14, "Does the auction in the buffer as bid(), withdraw(), pause(), open(), fish() and nextDay() do,"
                + " part by part", x -> {
                    String text = "b0030;b1020;h3;b2599;w10;b1120;h21;o;f0;f0;f1;n;b4110;h2";
                    same("run()", run(x, text), 14);
                    SealedSpots y = new SealedSpots();
                    y.bid(0, 0, 30);
                    y.bid(1, 0, 20);
                    y.pause(3);
                    y.bid(2, 5, 99);
                    y.withdraw(1, 0);
                    y.bid(1, 1, 20);
                    y.pause(21);
                    y.open();
                    y.fish(0);
                    y.fish(0);
                    y.fish(1);
                    y.nextDay();
                    y.bid(4, 1, 10);
                    y.pause(2);
                    isTrue("the same state", state(x).equals(state(y)));
                    same("the next seal", x.bid(0, 0, 9), y.bid(0, 0, 9));
                });
        test(14, "and clears the buffer", x -> {
            run(x, "n;n");
            same("of all that are done", x.clearBuffer(), 0);
            run(x, "w00;n");
            same("of none that is done", x.clearBuffer(), 0);
            same("firstError()", x.firstError(), 0);
        });
        test(14, "Undoable, as one call, also if none is done.", x -> {
            same("run() of three", run(x, "b0030;h4;o"), 3);
            same("saved states", x.count(14), 1);
            same("run() of none", run(x, "o"), 0);
            same("saved states", x.count(14), 2);
            same("undo()", x.undo(), 1);
            same("count(2)", x.count(2), 1);
            same("undo()", x.undo(), 0);
            isTrue("undo() restoring all", x.digest() == new SealedSpots().digest());
            same("the rank", x.bid(0, 0, 5), 365);
        });
    }

    private void runStops() {
        test(14, "up to the first one that would throw an exception", x -> {
            String[] texts = {"h1;b0030;b0031;n", "h1;n;b004;n", "h1;b0030;w01;n", "h1;o;o;n", "h1;b0030;f0;n",
                "h1;o;f0;n", "h1;o;b0030;n", "b0030;o;w00;n"};
            for (String text : texts) {
                SealedSpots y = new SealedSpots();
                same("run() of " + text, run(y, text), 2);
                same("days", y.count(0), text.contains("n;b") ? 2 : 1);
                same("saved states", y.count(14), 1);
            }
            SealedSpots dear = make(y -> {
                y.set(0, 20);
                y.set(1, 9);
            });
            same("run() up to a fee of 101", run(dear, "b0030;h9;w00;n"), 2);
            SealedSpots poor = make(y -> payFee(y, 0, 0, 2));
            same("run() up to a bid of 99 with 98", run(poor, "b0198;b0299;n"), 1);
        });
        test(14, "Returns how many parts are done.", x -> {
            same("run() of none", run(x, "w00;n;n"), 0);
            same("run() of one of two", run(x, "n;w00"), 1);
            same("run() of 30", run(x, FULL.substring(0, 59)), 30);
            same("days", x.count(0), 32);
        });
    }

    private void runThrows() {
        test(14, "Throws `IllegalArgumentException` if the buffer is not a complete auction as a text", x -> {
            String[] texts = {"", "b", "b0", "b00", "w", "w0", "h", "f", "n;", "b0010;", "n;b00", "x", "n;x", "h24",
                "b000", ";", FULL};
            for (String text : texts) {
                refusedAsMade("run() of " + text, ARGUMENT, y -> type(y, text), y -> y.run());
                refusedAsMade("run() of " + text + " with a past", ARGUMENT, withPast(y -> type(y, text)),
                        y -> y.run());
            }
            type(x, "n;");
            same("run() of n;", Check.kindOf(() -> x.run()), 2);
            same("the buffer stays", x.append('n'), 3);
            same("run() of n;n", x.run(), 2);
        });
    }

    private void keep() {
        test(15, "Takes a snapshot of the state (of all that undo() would restore)", x -> {
            run(x, "b0030;b0130;h5;w01;b1020");
            x.set(1, 6);
            x.keep();
            long before = x.digest();
            run(x, "o;f0;n;h9");
            x.price(0, 80);
            x.set(1, 7);
            x.pay(3, 9);
            x.goBack();
            for (int i = 0; i < 5; i++) {
                x.undo();
            }
            same("saved states left", x.count(14), 1);
            x.goBack();
            same("saved states as then", x.count(14), 2);
            same("digest()", x.digest(), before);
            same("the rank", x.bid(2, 2, 5), 365 + 123 + 14);
        });
        test(15, "in place of the one that was", x -> {
            x.keep();
            x.price(0, 7);
            x.keep();
            x.price(0, 9);
            x.goBack();
            same("the price of the second one", x.spot(0, 0), 7);
        });
        test(15, "Returns what is in the chest.", x -> {
            same("keep() of an empty chest", x.keep(), 0);
            payFee(x, 0, 0, 2);
            same("keep() of 2", x.keep(), 2);
            run(x, "b1130;b2120;o");
            same("keep() of 22", x.keep(), 22);
            same("keep() saves no state", x.count(14), 5);
        });
    }

    private void goBack() {
        Consumer<SealedSpots> kept = x -> {
            x.set(2, 30);
            run(x, "b0030;h2");
            x.keep();
            run(x, "o;f0;n");
        };
        test(16, "Goes back to the snapshot, which stays.", x -> {
            kept.accept(x);
            for (int i = 0; i < 3; i++) {
                x.goBack();
                same("days", x.count(0), 1);
                same("the hour", x.count(1), 2);
                same("bids", x.count(3), 1);
                same("fish", x.count(10), 600);
                x.nextDay();
            }
            type(x, "n");
            x.goBack();
            same("the buffer stays", x.clearBuffer(), 1);
        });
        test(16, "Undoable.", x -> {
            undoable("goBack()", kept, y -> y.goBack());
            undoable("goBack() to the same", y -> y.keep(), y -> y.goBack());
        });
        test(16, "Returns what is in the chest then.", x -> {
            payFee(x, 0, 0, 2);
            x.keep();
            payFee(x, 0, 0, 2);
            same("the chest", x.count(4), 4);
            same("goBack()", x.goBack(), 2);
            x.undo();
            same("the chest behind undo()", x.count(4), 4);
        });
        test(16, "Throws `IllegalStateException` if there is no snapshot", x -> {
            refusedAsMade("goBack()", STATE, NEW, y -> y.goBack());
            refusedAsMade("goBack() with saved states", STATE, OPENED.andThen(y -> run(y, "f0;n")), y -> y.goBack());
            x.price(0, 9);
            x.keep();
            x.undo();
            same("goBack() when what was before keep() is restored", x.goBack(), 0);
            same("the price", x.spot(0, 0), 9);
        });
    }

    private void undo() {
        test(17, "Restores the latest saved state, and drops it.", x -> {
            x.price(0, 6);
            x.price(0, 7);
            x.undo();
            same("the latest", x.spot(0, 0), 6);
            x.price(0, 8);
            x.undo();
            same("the latest again", x.spot(0, 0), 6);
            x.undo();
            same("the one before", x.spot(0, 0), 5);
        });
        test(17, "Returns how many saved states are left.", x -> {
            for (int i = 0; i < 7; i++) {
                x.nextDay();
            }
            for (int left = 5; left >= 0; left--) {
                same("undo()", x.undo(), left);
                same("count(14)", x.count(14), left);
            }
        });
        test(17, "Throws `IllegalStateException` if there is none", x -> {
            refusedAsMade("undo() of nothing", STATE, NEW, y -> y.undo());
            refusedAsMade("undo() behind the first", STATE, y -> {
                y.nextDay();
                y.keep();
                y.undo();
            }, y -> y.undo());
            for (int i = 0; i < 9; i++) {
                x.nextDay();
            }
            for (int i = 0; i < 6; i++) {
                x.undo();
            }
            same("undo() of the seventh", Check.kindOf(() -> x.undo()), 3);
            same("days", x.count(0), 4);
        });
    }
}

import java.util.function.Consumer;

/** The sentences of the promises 18 to 31, the calls that change nothing. */
final class LookSentences extends Sentences {
    private static final int[] NO_SIXTH = {6, -1, HUGE, TINY};
    /** Bidder 1 gets the spot 3 for 15; bidder 4 bid for it too. */
    private static final Consumer<SealedSpots> OPENED = x -> run(x, "b1320;b4315;b1010;h3;w10;o");

    @Override
    void all() {
        spot();
        spotThrows();
        bidder();
        bidderThrows();
        sealed();
        sealedMore();
        count();
        countOfCoins();
        countOfFish();
        setting();
        why();
        worth();
        ifOpened();
        ifBid();
        ifBidThrows();
        least();
        keenest();
        chestShare();
        meanPrice();
        digest();
        digestOfNumbers();
        digestOfState();
    }

    private void spot() {
        test(18, "0: its least price", x -> {
            x.price(5, 0);
            x.price(4, 99);
            same("the least", x.spot(5, 0), 0);
            same("the most", x.spot(4, 0), 99);
            same("at first", x.spot(0, 0), 5);
        });
        test(18, "1: its fish", x -> {
            x.set(2, 0);
            fishOut(x, 0, 13);
            same("none", x.spot(0, 1), 0);
            x.set(2, 50);
            run(x, "n;n;n;n");
            same("the most", x.spot(0, 1), 200);
        });
        test(18, "2: who got it, NONE if nobody did (yet)", x -> {
            run(x, "b0330;b5020");
            same("not yet", x.spot(3, 2), NONE);
            x.open();
            same("bidder 0", x.spot(3, 2), 0);
            same("bidder 5", x.spot(0, 2), 5);
            same("nobody", x.spot(1, 2), NONE);
            x.nextDay();
            same("on the next day", x.spot(3, 2), NONE);
        });
        test(18, "3: what was paid for it, NONE if nobody got it", x -> {
            x.price(3, 0);
            run(x, "b0330;b5099;b4099");
            same("not yet", x.spot(3, 3), NONE);
            x.open();
            same("nothing was paid", x.spot(3, 3), 0);
            same("the most was paid", x.spot(0, 3), 99);
            same("nobody got it", x.spot(1, 3), NONE);
            x.nextDay();
            same("on the next day", x.spot(0, 3), NONE);
        });
        test(18, "4: bids for it", x -> {
            for (int bidder = 0; bidder < 6; bidder++) {
                same("bids for spot 2", x.spot(2, 4), bidder);
                x.bid(bidder, 2, 10);
            }
            same("bids of all", x.spot(2, 4), 6);
            same("bids for another", x.spot(1, 4), 0);
            x.withdraw(0, 2);
            same("bids but for a withdrawn one", x.spot(2, 4), 5);
            x.price(2, 11);
            same("bids that do not count", x.spot(2, 4), 5);
            x.open();
            same("bids behind the opening", x.spot(2, 4), 5);
            x.nextDay();
            same("bids on the next day", x.spot(2, 4), 0);
        });
        test(18, "5: fish caught there so far", x -> {
            same("at first", x.spot(3, 5), 0);
            OPENED.accept(x);
            run(x, "f3;f3");
            same("of a day", x.spot(3, 5), 45);
            run(x, "n;b5310;o");
            same("on the next day", x.spot(3, 5), 45);
            // 55 and 10 are there: 17 are caught.
            x.fish(3);
            same("of another bidder too", x.spot(3, 5), 62);
            same("at another spot", x.spot(2, 5), 0);
        });
    }

    private void spotThrows() {
        test(18, "Tells something of a spot.", x -> {
            OPENED.accept(x);
            x.fish(3);
            int[] due = {5, 74, 1, 15, 2, 26};
            for (int what = 0; what < 6; what++) {
                same("spot(3, " + what + ")", x.spot(3, what), due[what]);
            }
        });
        test(18, "Tells something of a spot.", x -> {
            eachItsOwn(x);
            int[] fish = {74, 55, 41, 30, 22, 16};
            for (int spot = 0; spot < 6; spot++) {
                int[] due = {20 + spot, fish[spot], (spot + 4) % 6, 3 + spot, spot + 1, 100 - fish[spot]};
                for (int what = 0; what < 6; what++) {
                    same("spot(" + spot + ", " + what + ")", x.spot(spot, what), due[what]);
                }
            }
        });
        test(18, "`spot`: 0 to 5", x -> {
            x.price(0, 7);
            x.price(5, 8);
            same("spot(0, 0)", x.spot(0, 0), 7);
            same("spot(5, 0)", x.spot(5, 0), 8);
        });
        test(18, "Returns the number.", x -> {
            same("spot(0, 0), the first", x.spot(0, 0), 5);
            same("spot(5, 5), the last", x.spot(5, 5), 0);
        });
        test(18, "Throws `IndexOutOfBoundsException` if there is no such spot", x -> {
            refusedFor(NO_PLACE, "spot(#, 0)", INDEX, NEW, (y, spot) -> y.spot(spot, 0));
            refusedFor(NO_PLACE, "spot(#, 6)", INDEX, NEW, (y, spot) -> y.spot(spot, 6));
        });
        test(18, "Throws `IllegalArgumentException` if what is not 0 to 5", x ->
            refusedFor(NO_SIXTH, "spot(5, #)", ARGUMENT, OPENED, (y, what) -> y.spot(5, what)));
    }

    private void bidder() {
        test(19, "0: its purse", x -> {
            x.set(0, 20);
            x.set(1, 8);
            run(x, "b009;h10;w00");
            same("an empty one", x.bidder(0, 0), 0);
            same("another", x.bidder(1, 0), 100);
            TermsSentences.payUpTo(x, 9999);
            same("the fullest", x.bidder(1, 0), 9499);
        });
        test(19, "1: its catch", x -> {
            OPENED.accept(x);
            same("at first", x.bidder(1, 1), 0);
            x.fish(3);
            run(x, "n;b109;o;f0");
            same("at two spots", x.bidder(1, 1), 26 + 28);
            same("of another", x.bidder(4, 1), 0);
        });
        test(19, "2: its bids, how many", x -> {
            for (int spot = 0; spot < 6; spot++) {
                same("bids of bidder 2", x.bidder(2, 2), spot);
                x.bid(2, spot, 10);
            }
            same("bids for all", x.bidder(2, 2), 6);
            same("bids of another", x.bidder(1, 2), 0);
            x.withdraw(2, 5);
            same("bids but for a withdrawn one", x.bidder(2, 2), 5);
            x.open();
            same("bids behind the opening", x.bidder(2, 2), 5);
            x.nextDay();
            same("bids on the next day", x.bidder(2, 2), 0);
        });
        test(19, "3: the spot that it got, NONE if none (yet)", x -> {
            run(x, "b0530;b5020;b1510");
            same("not yet", x.bidder(0, 3), NONE);
            x.open();
            same("the last spot", x.bidder(0, 3), 5);
            same("the first spot", x.bidder(5, 3), 0);
            same("none with a bid", x.bidder(1, 3), NONE);
            same("none without one", x.bidder(2, 3), NONE);
            x.nextDay();
            same("on the next day", x.bidder(0, 3), NONE);
            for (int price = 0; price < 6; price++) {
                SealedSpots y = new SealedSpots();
                y.price(0, price);
                run(y, "b1030;o");
                for (int bidder = 0; bidder < 6; bidder++) {
                    same("the spot of bidder " + bidder, y.bidder(bidder, 3), bidder == 1 ? 0 : NONE);
                }
            }
            SealedSpots few = new SealedSpots();
            run(few, "b359;o");
            for (int left = 100; left > 0; left = few.spot(5, 1)) {
                few.fish(5);
                same("the spot, whatever fish it has", few.bidder(3, 3), 5);
            }
        });
        test(19, "4: prices paid so far", x -> {
            same("at first", x.bidder(1, 4), 0);
            OPENED.accept(x);
            same("of a day", x.bidder(1, 4), 15);
            run(x, "n;b1010;o");
            same("of two days", x.bidder(1, 4), 20);
            same("of another", x.bidder(4, 4), 0);
        });
        test(19, "5: fees paid so far", x -> {
            same("at first", x.bidder(1, 5), 0);
            OPENED.accept(x);
            same("of a day", x.bidder(1, 5), 5);
            run(x, "n;b1010;w10");
            same("of two days", x.bidder(1, 5), 7);
            same("of another", x.bidder(4, 5), 0);
        });
    }

    private void bidderThrows() {
        test(19, "Tells something of a bidder.", x -> {
            OPENED.accept(x);
            x.fish(3);
            int[] due = {80, 26, 1, 3, 15, 5};
            for (int what = 0; what < 6; what++) {
                same("bidder(1, " + what + ")", x.bidder(1, what), due[what]);
            }
        });
        test(19, "Tells something of a bidder.", x -> {
            eachItsOwn(x);
            int[] caught = {59, 70, 78, 84, 26, 45};
            int[] bids = {5, 4, 4, 3, 3, 2};
            for (int bidder = 0; bidder < 6; bidder++) {
                int got = (bidder + 2) % 6;
                int fee = 9 + bidder;
                int[] due = {100 - fee - 3 - got, caught[bidder], bids[bidder], got, 3 + got, fee};
                for (int what = 0; what < 6; what++) {
                    same("bidder(" + bidder + ", " + what + ")", x.bidder(bidder, what), due[what]);
                }
            }
        });
        test(19, "`bidder`: 0 to 5", x -> {
            x.pay(0, 7);
            x.pay(5, 8);
            same("bidder(0, 0)", x.bidder(0, 0), 107);
            same("bidder(5, 0)", x.bidder(5, 0), 108);
        });
        test(19, "Returns the number.", x -> {
            same("bidder(0, 0), the first", x.bidder(0, 0), 100);
            same("bidder(5, 5), the last", x.bidder(5, 5), 0);
        });
        test(19, "Throws `IndexOutOfBoundsException` if there is no such bidder", x -> {
            refusedFor(NO_PLACE, "bidder(#, 0)", INDEX, NEW, (y, bidder) -> y.bidder(bidder, 0));
            refusedFor(NO_PLACE, "bidder(#, 6)", INDEX, NEW, (y, bidder) -> y.bidder(bidder, 6));
        });
        test(19, "Throws `IllegalArgumentException` if what is not 0 to 5", x ->
            refusedFor(NO_SIXTH, "bidder(5, #)", ARGUMENT, OPENED, (y, what) -> y.bidder(5, what)));
    }

    private void sealed() {
        test(20, "0: its seal", x -> {
            x.bid(1, 2, 56);
            same("of 4096", x.sealed(1, 2, 0), 0);
            x.undo();
            x.bid(1, 1, 56);
            same("of 4095", x.sealed(1, 1, 0), 4095);
            x.open();
            same("behind the opening", x.sealed(1, 1, 0), 4095);
        });
        test(20, "1: the hour at which it was sealed", x -> {
            x.bid(0, 0, 9);
            x.pause(23);
            x.bid(0, 1, 9);
            same("the first", x.sealed(0, 0, 1), 0);
            same("the last", x.sealed(0, 1, 1), 23);
            run(x, "n;h4;b009;h5");
            same("of the next day", x.sealed(0, 0, 1), 4);
        });
        test(20, "2: its amount, NONE if the bids are not opened", x -> {
            x.price(0, 0);
            run(x, "b001;b5199");
            same("not opened", x.sealed(0, 0, 2), NONE);
            x.open();
            same("the least", x.sealed(0, 0, 2), 1);
            same("the greatest", x.sealed(5, 1, 2), 99);
            x.undo();
            same("no longer opened", x.sealed(0, 0, 2), NONE);
        });
        test(20, "3: the fee for which it can be withdrawn now (told also if the purse has less, or the bids"
                + " are opened)", x -> {
                    x.bid(0, 0, 9);
                    same("of no hour", x.sealed(0, 0, 3), 2);
                    x.pause(23);
                    same("of 23 hours", x.sealed(0, 0, 3), 25);
                    x.set(0, 20);
                    x.set(1, 9);
                    same("more than the purse", x.sealed(0, 0, 3), 227);
                    x.open();
                    same("behind the opening", x.sealed(0, 0, 3), 227);
                    x.set(0, 0);
                    x.set(1, 0);
                    same("nothing", x.sealed(0, 0, 3), 0);
                });
        test(20, "4: why it can not be withdrawn, 0 if it can be", x -> {
            run(x, "b009;h9");
            same("it can be", x.sealed(0, 0, 4), 0);
            same("there is no such bid", x.sealed(0, 1, 4), 2);
            x.set(0, 20);
            x.set(1, 8);
            same("92 of 100", x.sealed(0, 0, 4), 0);
            x.set(1, 9);
            same("101 of 100", x.sealed(0, 0, 4), 3);
            x.open();
            same("opened", x.sealed(0, 0, 4), 1);
            same("opened, no such bid", x.sealed(0, 1, 4), 1);
        });
    }

    private void sealedMore() {
        test(20, "Tells something of a bid.", x -> {
            OPENED.accept(x);
            int[] due = {73 * 20 + 9, 0, 20, 5, 1};
            for (int what = 0; what < 5; what++) {
                same("sealed(1, 3, " + what + ")", x.sealed(1, 3, what), due[what]);
            }
        });
        test(20, "Tells something of a bid.", x -> {
            for (int i = 35; i >= 0; i--) {
                x.bid(i / 6, i % 6, 9 + i);
                if (i % 2 == 0) {
                    x.pause(1);
                }
            }
            x.open();
            for (int i = 0; i < 36; i++) {
                String bid = "the bid of " + i / 6 + " for " + i % 6;
                same("the seal of " + bid, x.sealed(i / 6, i % 6, 0), (73 * (9 + i) + 41 * (35 - i) + i) % 4096);
                same("the hour of " + bid, x.sealed(i / 6, i % 6, 1), (35 - i) / 2);
                same("the amount of " + bid, x.sealed(i / 6, i % 6, 2), 9 + i);
            }
        });
        test(20, "`bidder`: 0 to 5", x -> {
            run(x, "b019;h1;b519");
            same("sealed(0, 1, 1)", x.sealed(0, 1, 1), 0);
            same("sealed(5, 1, 1)", x.sealed(5, 1, 1), 1);
        });
        test(20, "`spot`: 0 to 5", x -> {
            run(x, "b109;h1;b159");
            same("sealed(1, 0, 1)", x.sealed(1, 0, 1), 0);
            same("sealed(1, 5, 1)", x.sealed(1, 5, 1), 1);
        });
        test(20, "Returns the number; NONE if there is no such bid, but for 4.", x -> {
            int[] closed = {NONE, NONE, NONE, NONE, 2};
            int[] opened = {NONE, NONE, NONE, NONE, 1};
            x.bid(0, 1, 9);
            x.bid(1, 0, 9);
            x.bid(0, 0, 9);
            x.withdraw(0, 0);
            for (int what = 0; what < 5; what++) {
                same("of a withdrawn one", x.sealed(0, 0, what), closed[what]);
                same("of none", x.sealed(5, 5, what), closed[what]);
            }
            x.open();
            for (int what = 0; what < 5; what++) {
                same("of a withdrawn one, opened", x.sealed(0, 0, what), opened[what]);
                same("of none, opened", x.sealed(5, 5, what), opened[what]);
            }
        });
        test(20, "Throws `IndexOutOfBoundsException` if there is no such bidder or spot", x -> {
            refusedFor(NO_PLACE, "sealed(#, 0, 4)", INDEX, NEW, (y, bidder) -> y.sealed(bidder, 0, 4));
            refusedFor(NO_PLACE, "sealed(0, #, 4)", INDEX, NEW, (y, spot) -> y.sealed(0, spot, 4));
            refusedFor(NO_PLACE, "sealed(#, 0, 5)", INDEX, NEW, (y, bidder) -> y.sealed(bidder, 0, 5));
            refusedFor(NO_PLACE, "sealed(0, #, 5)", INDEX, NEW, (y, spot) -> y.sealed(0, spot, 5));
        });
        test(20, "Throws `IllegalArgumentException` if what is not 0 to 4", x -> {
            int[] none = {5, -1, HUGE, TINY};
            refusedFor(none, "sealed(1, 3, #)", ARGUMENT, OPENED, (y, what) -> y.sealed(1, 3, what));
            refusedFor(none, "sealed(0, 0, #) of no bid", ARGUMENT, NEW, (y, what) -> y.sealed(0, 0, what));
        });
    }

    private void count() {
        test(21, "0: days that were begun so far, the first one too", x -> {
            same("the first day", x.count(0), 1);
            x.nextDay();
            same("the second day", x.count(0), 2);
            x.undo();
            same("the first day again", x.count(0), 1);
        });
        test(21, "1: the hour", x -> {
            same("the first", x.count(1), 0);
            x.pause(23);
            same("the last", x.count(1), 23);
        });
        test(21, "2: 1 if the bids are opened, otherwise 0", x -> {
            same("before", x.count(2), 0);
            x.open();
            same("behind the opening", x.count(2), 1);
            x.nextDay();
            same("on the next day", x.count(2), 0);
        });
        test(21, "3: bids", x -> {
            for (int i = 0; i < 36; i++) {
                same("bids", x.count(3), i);
                x.bid(i / 6, i % 6, 9);
            }
            same("all bids", x.count(3), 36);
            x.withdraw(5, 5);
            same("but for a withdrawn one", x.count(3), 35);
        });
        test(21, "9: spots that were given so far", x -> {
            run(x, "b0020;b1110;b2010");
            same("before the opening", x.count(9), 0);
            x.open();
            same("of a day", x.count(9), 2);
            run(x, "n;b0020;o");
            same("of two days", x.count(9), 3);
        });
        test(21, "12: bids that were sealed so far; 13: bids that were withdrawn so far", x -> {
            run(x, "b0020;b1020;w00;b0020");
            same("sealed", x.count(12), 3);
            same("withdrawn", x.count(13), 1);
            run(x, "n;b0020;w00");
            same("sealed in two days", x.count(12), 4);
            same("withdrawn in two days", x.count(13), 2);
        });
        test(21, "14: saved states", x -> {
            for (int i = 0; i < 9; i++) {
                same("saved states", x.count(14), Math.min(i, 6));
                x.pause(1);
            }
            x.undo();
            same("saved states behind undo()", x.count(14), 5);
        });
        test(21, "Returns the number.", x -> {
            same("count(0), the first", x.count(0), 1);
            same("count(14), the last", x.count(14), 0);
        });
        test(21, "Throws `IllegalArgumentException` if what is not 0 to 14", x ->
            refusedFor(new int[] {15, -1, HUGE, TINY}, "count(#)", ARGUMENT, OPENED, (y, what) -> y.count(what)));
    }

    private void countOfCoins() {
        test(21, "4: what is in the chest; 5: all purses together", x -> {
            same("an empty chest", x.count(4), 0);
            same("full purses", x.count(5), 600);
            allInTheChest(x);
            same("a full chest", x.count(4), 600);
            same("empty purses", x.count(5), 0);
        });
        test(21, "6: all coins, told as those of the beginning and those that were paid in", x -> {
            same("at the beginning", x.count(6), 600);
            x.pay(0, 99);
            x.pay(1, 1);
            same("with those paid in", x.count(6), 700);
            OPENED.accept(x);
            same("with some in the chest", x.count(6), 700);
            x.undo();
            x.undo();
            same("behind undo()", x.count(6), 699);
            TermsSentences.payUpTo(x, 9999);
            same("the most", x.count(6), 9999);
        });
        test(21, "7: fees so far; 8: prices so far", x -> {
            same("no fees", x.count(7), 0);
            same("no prices", x.count(8), 0);
            OPENED.accept(x);
            same("fees", x.count(7), 5);
            same("prices", x.count(8), 15);
            run(x, "n;b0010;b1110;b2210;w22;o");
            same("fees of two days", x.count(7), 7);
            same("prices of two days", x.count(8), 25);
            same("both are in the chest", x.count(4), 32);
            SealedSpots y = make(LookSentences::eachItsOwn);
            same("fees of all bidders", y.count(7), 9 + 10 + 11 + 12 + 13 + 14);
            same("prices of all bidders", y.count(8), 3 + 4 + 5 + 6 + 7 + 8);
            same("all in the chest", y.count(4), 69 + 33);
            same("the purses", y.count(5), 600 - 69 - 33);
            same("the catches of all bidders", y.count(11), 26 + 45 + 59 + 70 + 78 + 84);
            same("the fish at all spots", y.count(10), 600 - 362);
            same("sealed, those that were withdrawn too", y.count(12), 6 + 21);
        });
    }

    /**
     * Each spot and each bidder has numbers of its own: bidder b withdraws a bid for 9 and b, and gets the spot s, that
     * of b and 2, for 3 and s; there are s others with a bid for it; it is fished there s and 1 times; then the price
     * there is 20 and s.
     */
    private static void eachItsOwn(SealedSpots x) {
        for (int bidder = 0; bidder < 6; bidder++) {
            payFee(x, bidder, bidder, 9 + bidder);
        }
        for (int spot = 0; spot < 6; spot++) {
            int owner = (spot + 4) % 6;
            x.price(spot, 3 + spot);
            x.bid(owner, spot, 30 + spot);
            int others = 0;
            for (int bidder = 0; others < spot; bidder++) {
                if (bidder != owner) {
                    x.bid(bidder, spot, 3 + spot);
                    others++;
                }
            }
        }
        x.open();
        for (int spot = 0; spot < 6; spot++) {
            for (int i = 0; i <= spot; i++) {
                x.fish(spot);
            }
            x.price(spot, 20 + spot);
        }
    }

    private void countOfFish() {
        test(21, "10: fish at all spots; 11: fish caught so far", x -> {
            same("fish", x.count(10), 600);
            OPENED.accept(x);
            run(x, "f3;f3");
            same("fish left", x.count(10), 555);
            same("fish caught", x.count(11), 45);
            run(x, "n;b009;o;f0");
            same("fish left", x.count(10), 615 - 28);
            same("fish caught", x.count(11), 73);
            SealedSpots none = new SealedSpots();
            none.set(2, 0);
            for (int day = 0; day < 3; day++) {
                run(none, "b009;b119;b229;b339;b449;b559;o");
                for (int spot = 0; spot < 6; spot++) {
                    run(none, "f#;f#;f#;f#;f#;f#".replace("#", "" + spot));
                }
                none.nextDay();
            }
            same("no fish", none.count(10), 0);
            same("all caught", none.count(11), 600);
        });
        test(21, "Returns a number.", x -> {
            x.set(2, 50);
            run(x, "n;n;n");
            same("the most fish", x.count(10), 1200);
        });
    }

    /** The six bidders each withdraw a bid for a fee of all their coins. */
    private static void allInTheChest(SealedSpots x) {
        x.set(0, 20);
        x.set(1, 8);
        run(x, "b009;b119;b229;b339;b449;b559;h10");
        run(x, "w00;w11;w22;w33;w44;w55");
    }

    private void setting() {
        test(22, "Returns a setting.", x -> {
            same("setting(0) at first", x.setting(0), 2);
            same("setting(1) at first", x.setting(1), 1);
            same("setting(2) at first", x.setting(2), 10);
        });
        test(22, "`setting`: 0 to 2", x -> {
            x.set(0, 3);
            x.set(2, 4);
            same("setting(0)", x.setting(0), 3);
            same("setting(1)", x.setting(1), 1);
            same("setting(2)", x.setting(2), 4);
        });
        test(22, "Returns its value.", x -> {
            int[] most = {20, 9, 50};
            for (int setting = 0; setting < 3; setting++) {
                x.set(setting, most[setting]);
                same("the most", x.setting(setting), most[setting]);
                x.set(setting, 0);
                same("the least", x.setting(setting), 0);
            }
        });
        test(22, "Throws `IndexOutOfBoundsException` if there is no such setting", x ->
            refusedFor(new int[] {3, -1, HUGE, TINY}, "setting(#)", INDEX, OPENED,
                    (y, setting) -> y.setting(setting)));
    }

    private void why() {
        test(23, "Tells why a bid can not be sealed.", x -> {
            same("it can be", x.why(0, 0, 9), 0);
            x.bid(0, 0, 9);
            same("there is one", x.why(0, 0, 9), 2);
            same("bids", x.count(3), 1);
        });
        test(23, "`bidder`: 0 to 5", x -> {
            run(x, "b019;b519");
            for (int bidder = 0; bidder < 6; bidder++) {
                same("why(bidder, 1, 9)", x.why(bidder, 1, 9), bidder % 5 == 0 ? 2 : 0);
            }
        });
        test(23, "`spot`: 0 to 5", x -> {
            run(x, "b109;b159");
            for (int spot = 0; spot < 6; spot++) {
                same("why(1, spot, 9)", x.why(1, spot, 9), spot % 5 == 0 ? 2 : 0);
            }
        });
        test(23, "`amount`: 1 to 99", x -> {
            same("why(0, 0, 1)", x.why(0, 0, 1), 3);
            same("why(0, 0, 99)", x.why(0, 0, 99), 0);
            x.price(0, 0);
            same("why(0, 0, 1) at the price 0", x.why(0, 0, 1), 0);
        });
        test(23, "Returns 0 if it can be, otherwise 1 to 4.", x -> {
            payFee(x, 0, 0, 2);
            for (int amount = 1; amount <= 99; amount++) {
                int due = amount < 5 ? 3 : amount > 98 ? 4 : 0;
                same("why(0, 0, " + amount + ")", x.why(0, 0, amount), due);
                int tried = amount;
                same("bid(0, 0, " + amount + ")", Check.kindOf(() -> x.bid(0, 0, tried)), due == 0 ? 0 : 3);
                if (due == 0) {
                    x.undo();
                }
            }
            x.bid(0, 0, 9);
            same("why() of a second", x.why(0, 0, 9), 2);
            x.open();
            same("why() behind the opening", x.why(0, 0, 9), 1);
        });
        test(23, "Throws `IndexOutOfBoundsException` if there is no such bidder or spot", x -> {
            refusedFor(NO_PLACE, "why(#, 0, 9)", INDEX, NEW, (y, bidder) -> y.why(bidder, 0, 9));
            refusedFor(NO_PLACE, "why(0, #, 9)", INDEX, NEW, (y, spot) -> y.why(0, spot, 9));
            refusedFor(NO_PLACE, "why(#, 0, 0)", INDEX, OPENED, (y, bidder) -> y.why(bidder, 0, 0));
            refusedFor(NO_PLACE, "why(0, #, 0)", INDEX, OPENED, (y, spot) -> y.why(0, spot, 0));
        });
        test(23, "Throws `IllegalArgumentException` if amount is out of range", x -> {
            refusedFor(NO_AMOUNT, "why(0, 0, #)", ARGUMENT, NEW, (y, amount) -> y.why(0, 0, amount));
            refusedFor(NO_AMOUNT, "why(0, 0, #) opened", ARGUMENT, OPENED, (y, amount) -> y.why(0, 0, amount));
        });
    }

    private void worth() {
        test(24, "Tells the worth of the best sharing.", x -> {
            bothWays(x, 6, 0);
            run(x, "b0060;b0150;b1055;b2120");
            bothWays(x, 6, 90 + 5);
            x.price(0, 61);
            bothWays(x, 6, 45);
        });
        test(24, "`without`: the bidder without whom it is found, 0 to 5, or 6 for none", x -> {
            run(x, "b0020;b1121;b2222;b3323;b4424;b5525");
            int all = 15 + 16 + 17 + 18 + 19 + 20;
            for (int without = 0; without < 6; without++) {
                bothWays(x, without, all - 15 - without);
            }
            bothWays(x, 6, all);
        });
        test(24, "`way`: 0: told by trying all sharings, spot by spot; 1: told by sets of bidders: for each set the"
                + " most that the first spots can bring to bidders of this set", x -> {
                    for (int step = 1; step <= 36; step++) {
                        SealedSpots y = new SealedSpots();
                        for (int i = 0; i < 36; i++) {
                            y.bid(i / 6, i % 6, 5 + step * (i + step) % 37 * (i + 1) % 41);
                        }
                        for (int without = 0; without <= 6; without++) {
                            same("worth(" + without + ", 1)", y.worth(without, 1), y.worth(without, 0));
                        }
                    }
                });
        test(24, "Returns the worth (the same for both).", x -> {
            for (int spot = 0; spot < 6; spot++) {
                x.price(spot, 0);
                x.bid(spot, 5 - spot, 99);
            }
            bothWays(x, 6, 594);
            bothWays(x, 5, 495);
            SealedSpots y = new SealedSpots();
            y.bid(0, 0, 5);
            bothWays(y, 6, 0);
        });
        test(24, "Throws `IllegalArgumentException` if without or way is out of range", x -> {
            int[] none = {7, -1, HUGE, TINY};
            refusedFor(none, "worth(#, 0)", ARGUMENT, NEW, (y, without) -> y.worth(without, 0));
            refusedFor(none, "worth(#, 1)", ARGUMENT, NEW, (y, without) -> y.worth(without, 1));
            refusedFor(new int[] {2, -1, HUGE, TINY}, "worth(6, #)", ARGUMENT, OPENED, (y, way) -> y.worth(6, way));
        });
    }

    private static void bothWays(SealedSpots x, int without, int due) {
        same("worth(" + without + ", 0)", x.worth(without, 0), due);
        same("worth(" + without + ", 1)", x.worth(without, 1), due);
    }

    private void ifOpened() {
        test(25, "Tells who would get a spot, if the bids were opened now.", x -> {
            run(x, "b0330;b1320");
            same("who would get it", x.ifOpened(3, 0), 0);
            x.withdraw(0, 3);
            same("who would get it then", x.ifOpened(3, 0), 1);
            same("nobody got it", x.spot(3, 2), NONE);
            x.open();
            same("who got it", x.spot(3, 2), 1);
        });
        test(25, "`spot`: 0 to 5", x -> {
            run(x, "b2030;b3530");
            same("ifOpened(0, 0)", x.ifOpened(0, 0), 2);
            same("ifOpened(5, 0)", x.ifOpened(5, 0), 3);
            same("ifOpened(1, 0)", x.ifOpened(1, 0), NONE);
        });
        test(25, "`what`: 0: the bidder; 1: what it would pay", x -> {
            x.price(5, 0);
            run(x, "b0530;b5030;b4020");
            same("bidder 0", x.ifOpened(5, 0), 0);
            same("nothing", x.ifOpened(5, 1), 0);
            same("bidder 5", x.ifOpened(0, 0), 5);
            same("20", x.ifOpened(0, 1), 20);
        });
        test(25, "Returns the number; NONE if nobody would.", x -> {
            same("the bidder of no bid", x.ifOpened(0, 0), NONE);
            same("the price of no bid", x.ifOpened(0, 1), NONE);
            x.bid(0, 0, 9);
            x.price(0, 10);
            same("the bidder of a bid that does not count", x.ifOpened(0, 0), NONE);
            same("the price of a bid that does not count", x.ifOpened(0, 1), NONE);
            x.price(0, 9);
            same("the bidder of a bid of the worth 0", x.ifOpened(0, 0), 0);
            same("the price of a bid of the worth 0", x.ifOpened(0, 1), 9);
        });
        test(25, "Throws `IndexOutOfBoundsException` if there is no such spot", x -> {
            refusedFor(NO_PLACE, "ifOpened(#, 0)", INDEX, NEW, (y, spot) -> y.ifOpened(spot, 0));
            refusedFor(NO_PLACE, "ifOpened(#, 2)", INDEX, OPENED, (y, spot) -> y.ifOpened(spot, 2));
        });
        test(25, "Throws `IllegalArgumentException` if what is not 0 or 1", x -> {
            int[] none = {2, -1, HUGE, TINY};
            refusedFor(none, "ifOpened(3, #)", ARGUMENT, OPENED, (y, what) -> y.ifOpened(3, what));
            refusedFor(none, "ifOpened(0, #)", ARGUMENT, NEW, (y, what) -> y.ifOpened(0, what));
        });
    }

    private void ifBid() {
        test(26, "Tells what a bid would bring, in place of the one of this bidder for this spot, if there is one,"
                + " if the bids were opened then.", x -> {
                    run(x, "b0020;b1030");
                    brings(x, 0, 0, 31, 0, 30);
                    brings(x, 0, 0, 30, 0, 30);
                    brings(x, 0, 0, 29, NONE, NONE);
                    brings(x, 1, 0, 20, NONE, NONE);
                    brings(x, 1, 0, 21, 0, 20);
                    brings(x, 2, 0, 30, NONE, NONE);
                    brings(x, 2, 0, 31, 0, 30);
                    brings(x, 1, 0, 4, NONE, NONE);
                    same("bids", x.count(3), 2);
                    same("who would get it without", x.ifOpened(0, 0), 1);
                    x.open();
                    brings(x, 0, 0, 31, 0, 30);
                });
        test(26, "in place of the one of this bidder for this spot, if there is one", x -> {
            run(x, "b0030;b0110;b0210;b1120");
            brings(x, 0, 0, 30, 0, 5);
            // A bid that does not count stands there too; the other bids of the bidder stay.
            brings(x, 0, 0, 4, 2, 5);
            x.withdraw(0, 2);
            brings(x, 0, 0, 4, NONE, NONE);
            same("who would get it with the bid that is there", x.ifOpened(0, 0), 0);
            brings(x, 0, 0, 98, 0, 5);
            brings(x, 0, 0, 99, NONE, NONE);
            // There is none of this bidder for this spot: that for another one stays.
            brings(x, 0, 3, 4, 0, 5);
            brings(x, 0, 3, 99, 0, 5);
            brings(x, 0, 3, 31, 3, 5);
        });
        test(26, "`bidder`: 0 to 5", x -> {
            brings(x, 0, 1, 9, 1, 5);
            brings(x, 5, 1, 9, 1, 5);
        });
        test(26, "`spot`: 0 to 5", x -> {
            brings(x, 1, 0, 9, 0, 5);
            brings(x, 1, 5, 9, 5, 5);
        });
        test(26, "`amount`: 1 to 99", x -> {
            brings(x, 0, 0, 4, NONE, NONE);
            brings(x, 0, 0, 5, 0, 5);
            brings(x, 0, 0, 99, 0, 5);
            x.price(0, 0);
            brings(x, 0, 0, 1, 0, 0);
            payFee(x, 0, 0, 2);
            brings(x, 0, 0, 99, NONE, NONE);
            brings(x, 0, 0, 98, 0, 0);
        });
        test(26, "`what`: 0: the spot that the bidder would get; 1: what it would pay", x -> {
            run(x, "b0530;b1520");
            brings(x, 0, 0, 14, 5, 20);
            // With 15 both are worth 25, but with spot 0 two spots are given.
            brings(x, 0, 0, 15, 0, 5);
            x.price(0, 0);
            brings(x, 2, 0, 9, 0, 0);
        });
        test(26, "Returns the number; NONE if it would get none.", x -> {
            x.bid(0, 0, 30);
            brings(x, 1, 0, 30, NONE, NONE);
            brings(x, 1, 0, 31, 0, 30);
            brings(x, 0, 0, 4, NONE, NONE);
            brings(x, 0, 1, 4, 0, 5);
        });
    }

    private static void brings(SealedSpots x, int bidder, int spot, int amount, int won, int price) {
        String call = "ifBid(" + bidder + ", " + spot + ", " + amount;
        same(call + ", 0)", x.ifBid(bidder, spot, amount, 0), won);
        same(call + ", 1)", x.ifBid(bidder, spot, amount, 1), price);
    }

    private void ifBidThrows() {
        test(26, "Throws `IndexOutOfBoundsException` if there is no such bidder or spot", x -> {
            refusedFor(NO_PLACE, "ifBid(#, 0, 9, 0)", INDEX, NEW, (y, bidder) -> y.ifBid(bidder, 0, 9, 0));
            refusedFor(NO_PLACE, "ifBid(0, #, 9, 0)", INDEX, NEW, (y, spot) -> y.ifBid(0, spot, 9, 0));
            refusedFor(NO_PLACE, "ifBid(#, 0, 0, 2)", INDEX, NEW, (y, bidder) -> y.ifBid(bidder, 0, 0, 2));
            refusedFor(NO_PLACE, "ifBid(0, #, 0, 2)", INDEX, NEW, (y, spot) -> y.ifBid(0, spot, 0, 2));
        });
        test(26, "Throws `IllegalArgumentException` if amount or what is out of range", x -> {
            int[] none = {2, -1, HUGE, TINY};
            refusedFor(NO_AMOUNT, "ifBid(0, 0, #, 0)", ARGUMENT, NEW, (y, amount) -> y.ifBid(0, 0, amount, 0));
            refusedFor(NO_AMOUNT, "ifBid(1, 3, #, 1)", ARGUMENT, OPENED, (y, amount) -> y.ifBid(1, 3, amount, 1));
            refusedFor(none, "ifBid(0, 0, 9, #)", ARGUMENT, NEW, (y, what) -> y.ifBid(0, 0, 9, what));
            refusedFor(none, "ifBid(0, 0, 4, #)", ARGUMENT, NEW, (y, what) -> y.ifBid(0, 0, 4, what));
        });
    }

    private void least() {
        test(27, "Finds the least bid that wins a spot.", x -> {
            x.bid(2, 0, 30);
            same("of a lower bidder", x.least(1, 0), 30);
            same("of a higher bidder", x.least(3, 0), 31);
            same("in place of its own bid", x.least(2, 0), 5);
            same("bids", x.count(3), 1);
        });
        test(27, "`bidder`: 0 to 5", x -> {
            x.bid(2, 1, 30);
            same("least(0, 1)", x.least(0, 1), 30);
            same("least(5, 1)", x.least(5, 1), 31);
        });
        test(27, "`spot`: 0 to 5", x -> {
            x.price(0, 7);
            x.price(5, 8);
            same("least(2, 0)", x.least(2, 0), 7);
            same("least(2, 5)", x.least(2, 5), 8);
        });
        test(27, "Returns the least amount, 1 to 99, with which the bidder would get just this spot", x -> {
            x.price(0, 0);
            same("the least at the price 0", x.least(5, 0), 1);
            x.price(0, 1);
            same("the least at the price 1", x.least(5, 0), 1);
            x.price(0, 99);
            same("the least at the price 99", x.least(5, 0), 99);
            SealedSpots y = new SealedSpots();
            y.bid(1, 3, 30);
            // With 29 or less it would get the spot 3; with 30 the first of both.
            same("a spot ahead of that of its bid", y.least(1, 2), 30);
            same("a spot behind that of its bid", y.least(1, 4), 31);
        });
        test(27, "as ifBid() tells it", x -> {
            for (int i = 0; i < 36; i++) {
                leastByTrying(y -> run(y, "b0020;b0130;b1025;b2540;b3535;b4015"), i / 6, i % 6);
                leastByTrying(LookSentences::allBids, i / 6, i % 6);
                leastByTrying(y -> {
                    allBids(y);
                    y.open();
                    y.price(5, 0);
                }, i / 6, i % 6);
            }
        });
        test(27, "NONE if there is none", x -> {
            x.bid(2, 0, 99);
            same("against 99, the lower bidder", x.least(1, 0), 99);
            same("against 99, the higher bidder", x.least(3, 0), NONE);
            payFee(x, 4, 1, 2);
            x.price(5, 98);
            same("98 with a purse of 98", x.least(4, 5), 98);
            x.price(5, 99);
            same("99 with a purse of 98", x.least(4, 5), NONE);
            SealedSpots y = make(LookSentences::allInTheChest);
            y.price(0, 0);
            same("with no coins", y.least(0, 0), NONE);
            y.pay(0, 1);
            same("with 1", y.least(0, 0), 1);
        });
        test(27, "Throws `IndexOutOfBoundsException` if there is no such bidder or spot", x -> {
            refusedFor(NO_PLACE, "least(#, 0)", INDEX, NEW, (y, bidder) -> y.least(bidder, 0));
            refusedFor(NO_PLACE, "least(0, #)", INDEX, OPENED, (y, spot) -> y.least(0, spot));
        });
    }

    private static void leastByTrying(Consumer<SealedSpots> made, int bidder, int spot) {
        SealedSpots x = make(made);
        int due = NONE;
        for (int amount = 1; amount <= 99 && due == NONE; amount++) {
            due = x.ifBid(bidder, spot, amount, 0) == spot ? amount : NONE;
        }
        same("least(" + bidder + ", " + spot + ")", x.least(bidder, spot), due);
    }

    /** A bid of each bidder for each spot, of 9 to 45. */
    private static void allBids(SealedSpots x) {
        for (int i = 0; i < 36; i++) {
            x.bid(i / 6, i % 6, 9 + i * 29 % 37);
        }
    }

    private void keenest() {
        test(28, "Finds the bidder who matters most.", x -> {
            run(x, "b3030;b4140");
            same("keenest()", x.keenest(), 4);
            x.bid(2, 1, 39);
            // Without bidder 4 bidder 2 gets the spot 1.
            same("keenest() where another follows", x.keenest(), 3);
        });
        test(28, "Returns the bidder without whom the worth of the best sharing would be the least, of several"
                + " the lowest.", x -> {
                    same("of none that bids", x.keenest(), 0);
                    x.bid(5, 0, 30);
                    same("the last one", x.keenest(), 5);
                    x.bid(4, 1, 30);
                    same("of two the lower one", x.keenest(), 4);
                    x.bid(1, 2, 30);
                    same("of three the lowest one", x.keenest(), 1);
                    x.bid(2, 3, 29);
                    same("with one that matters 1 less", x.keenest(), 1);
                    x.bid(3, 4, 31);
                    same("with one that matters 1 more", x.keenest(), 3);
                    SealedSpots y = new SealedSpots();
                    y.bid(2, 0, 5);
                    same("of a bid of the worth 0", y.keenest(), 0);
                });
    }

    private void chestShare() {
        test(29, "Returns how much of the coins is in the chest.", x -> {
            isTrue("0.0 of an empty chest", Double.doubleToLongBits(x.chestShare()) == 0L);
            allInTheChest(x);
            isTrue("1.0 of a full one", x.chestShare() == 1.0);
        });
        test(29, "Returns count(4) as a double, divided by count(6).", x -> {
            payFee(x, 0, 0, 1);
            isTrue("1 of 600", x.chestShare() == 1.0 / 600.0);
            x.pay(0, 99);
            isTrue("1 of 699", x.chestShare() == 1.0 / 699.0);
            TermsSentences.payUpTo(x, 9999);
            isTrue("1 of 9999", x.chestShare() == 1.0 / 9999.0);
            payFee(x, 1, 0, 6);
            isTrue("7 of 9999", x.chestShare() == 7.0 / 9999.0);
        });
    }

    private void meanPrice() {
        test(30, "Returns the mean price.", x -> {
            OPENED.accept(x);
            isTrue("15.0 of one", x.meanPrice() == 15.0f);
            run(x, "n;b0010;o");
            isTrue("10.0 of two", x.meanPrice() == 10.0f);
            run(x, "n;b2099;b3099;o");
            isTrue("119 of three", x.meanPrice() == 119.0f / 3.0f);
            SealedSpots y = new SealedSpots();
            run(y, "b0099;b1099;o");
            isTrue("99.0", y.meanPrice() == 99.0f);
        });
        test(30, "Returns count(8) as a float, divided by count(9)", x -> {
            x.price(0, 1);
            x.price(1, 0);
            x.price(2, 0);
            run(x, "b009;b119;b229;o");
            isTrue("1 of three", x.meanPrice() == 1.0f / 3.0f);
            isTrue("not rounded as a double is", (double) x.meanPrice() != 1.0 / 3.0);
        });
        test(30, "0.0f if no spot was given", x -> {
            isTrue("of no opening", Float.floatToIntBits(x.meanPrice()) == 0);
            x.open();
            isTrue("of an opening of none", x.meanPrice() == 0.0f);
            SealedSpots y = new SealedSpots();
            y.price(0, 0);
            run(y, "b009;o");
            isTrue("of one for nothing", y.count(9) == 1 && Float.floatToIntBits(y.meanPrice()) == 0);
        });
    }

    /** The digest must be that of the other calls; an object is used for no more than one such look. */
    private static void hashed(String made, Consumer<SealedSpots> how, boolean snapshot, String buffer) {
        SealedSpots x = make(how);
        same("digest() " + made, x.digest(), Hash.of(x, snapshot, buffer));
    }

    private static void hashed(String made, Consumer<SealedSpots> how) {
        hashed(made, how, false, "");
    }

    private void digest() {
        test(31, "The hash starts at 3797.", x -> hashed("of a new object", NEW));
        test(31, "For each value v of the following list, in order, the hash becomes 31 * hash + v, in long"
                + " arithmetic with overflow.", x -> {
                    hashed("of an opening", OPENED);
                    hashed("of fish that are caught", OPENED.andThen(y -> y.fish(3)));
                    hashed("of a bid not opened", y -> y.bid(0, 0, 9));
                });
        test(31, "ifBid of the bidder 1 for the spot 2 of the amount 20 with 0 and 1", x -> {
            hashed("against 20 of a lower bidder", y -> y.bid(0, 2, 20));
            hashed("against 20 of a higher bidder", y -> y.bid(2, 2, 20));
            hashed("at the price 21", y -> y.price(2, 21));
            hashed("at the price 20", y -> y.price(2, 20));
        });
        test(31, "least of the bidder 0 for the spot 0; keenest", x -> {
            hashed("against 99", y -> y.bid(1, 0, 99));
            hashed("with a purse of 98 and the price 99", y -> {
                payFee(y, 0, 0, 2);
                y.price(0, 99);
            });
            hashed("of the bidder 5 alone", y -> y.bid(5, 5, 99));
        });
        test(31, "the bits of chestShare (as Double.doubleToLongBits)", x -> {
            for (int fee = 1; fee <= 43; fee += 7) {
                int coins = fee;
                hashed("of " + fee + " of 600", y -> payFee(y, 0, 0, coins));
            }
            hashed("of 600 of 600", LookSentences::allInTheChest);
        });
        test(31, "the bits of meanPrice (as Float.floatToIntBits)", x -> {
            for (int price : new int[] {0, 1, 2, 3, 31, 32, 33, 63, 64, 65, 99}) {
                Consumer<SealedSpots> one = y -> {
                    y.price(0, price);
                    run(y, "b0099;o");
                };
                hashed("of the price " + price, one);
                hashed("of a third of " + price + " and 5", one.andThen(y -> {
                    y.price(1, 0);
                    run(y, "n;b1199;b2299;o");
                }));
            }
        });
    }

    private void digestOfNumbers() {
        Consumer<SealedSpots> rich = x -> {
            for (int i = 0; i < 6; i++) {
                x.price(i, 3 + i);
                x.pay(i, 10 + 7 * i);
            }
            run(x, "b0050;b1160;b2270;b0120;h3;w00;b3340;b3030;h4;w33;o;f2");
        };
        test(31, "The values are: count(0) to count(14)", x -> {
            hashed("of counts that differ", rich);
            hashed("of counts of the next day", rich.andThen(y -> run(y, "n;h5;b4420;o;h1")));
        });
        test(31, "the settings 0 to 2", x -> {
            hashed("of the least", y -> settings(y, 0, 0, 0));
            hashed("of the most", y -> settings(y, 20, 9, 50));
            hashed("of others", y -> settings(y, 4, 5, 6));
        });
        test(31, "for each spot its numbers 0 to 5, and ifOpened with 0 and 1", x -> {
            hashed("before an opening", rich.andThen(y -> run(y, "n;b0130;b1120;b5590;b4590")));
            hashed("behind an opening", rich.andThen(y -> run(y, "n;b0130;b1120;b5590;b4590;o;f5;f1;f1")));
        });
        test(31, "for each bidder its numbers 0 to 5", x -> {
            hashed("before an opening", rich.andThen(y -> run(y, "n;b0130;b0230;b1120;b5590;h9;w02")));
            hashed("behind an opening", rich.andThen(y -> run(y, "n;b0130;b0230;b1120;b5590;o;f5;f1")));
        });
        test(31, "for each bidder and each spot sealed with 0 to 4", x -> {
            Consumer<SealedSpots> hours = y -> {
                for (int i = 0; i < 36; i++) {
                    y.bid(i % 6, i / 6, 9 + i);
                    if (i % 2 == 0) {
                        y.pause(1);
                    }
                }
                settings(y, 20, 9, 10);
            };
            hashed("of bids not opened", hours);
            hashed("of bids that are opened", hours.andThen(y -> y.open()));
        });
        test(31, "worth without the bidders 0 to 6, each told both ways", x -> {
            hashed("of worths that differ", y -> run(y, "b0020;b1121;b2222;b3323;b4424;b5525"));
            hashed("of bids that no longer count", y -> run(y, "b0080;b1070;b1160;b2150;o"));
        });
    }

    private static void settings(SealedSpots x, int fee, int feeForHour, int fish) {
        x.set(0, fee);
        x.set(1, feeForHour);
        x.set(2, fish);
    }

    private void digestOfState() {
        test(31, "1 if there is a snapshot, otherwise 0", x -> {
            Consumer<SealedSpots> kept = y -> {
                y.keep();
                y.nextDay();
                y.goBack();
            };
            hashed("with one", y -> y.keep(), true, "");
            hashed("gone back to", kept, true, "");
            hashed("behind undo()", kept.andThen(y -> {
                y.undo();
                y.undo();
            }), true, "");
        });
        test(31, "the length of the buffer and each of its character codes", x -> {
            hashed("of 33", y -> type(y, "!"), false, "!");
            hashed("of 126 and others", y -> type(y, "~b0"), false, "~b0");
            hashed("of 60", y -> type(y, "n;".repeat(30)), false, "n;".repeat(30));
            hashed("behind clearBuffer()", y -> {
                type(y, "n;n");
                y.clearBuffer();
            });
            hashed("behind run()", y -> run(y, "o"));
        });
        test(31, "Computes a hash of the whole state.", x -> {
            long before = x.digest();
            same("digest() again", x.digest(), before);
            x.price(0, 5);
            isTrue("another one with a saved state", x.digest() != before);
            x.undo();
            same("digest() behind undo()", x.digest(), before);
        });
        test(31, "Returns the hash.", x -> {
            same("of one new object as of another", x.digest(), new SealedSpots().digest());
            Consumer<SealedSpots> all = LookSentences::allBids;
            hashed("of 36 bids", all);
            hashed("of six spots", all.andThen(y -> y.open()));
        });
    }
}

import java.util.List;
import java.util.function.Consumer;

/** The sentences of the terms, each with a promise that rests on it. */
final class TermsSentences extends Sentences {
    /** Bidder 1 has 57 coins and a bid of 60 for the spot 1; it is the hour 23. */
    private static final Consumer<SealedSpots> POOR = x -> {
        x.bid(1, 0, 50);
        x.bid(1, 1, 60);
        x.set(0, 20);
        x.pause(23);
        x.withdraw(1, 0);
    };
    /** Bidder 0 has no coins; it is the hour 10. */
    private static final Consumer<SealedSpots> EMPTY_PURSE = x -> {
        x.set(0, 20);
        x.set(1, 8);
        x.bid(0, 0, 10);
        x.pause(10);
        x.withdraw(0, 0);
    };

    /** Ahead of each colon what was read, behind it all characters that may come. */
    private static final String[] MAY_COME = {":bwhofn", "b:012345", "b3:012345", "b34:123456789", "b341:0123456789;",
        "b349:0123456789;", "b3410:;", "b3499:;", "w:012345", "w3:012345", "w34:;", "h:123456789", "h1:0123456789;",
        "h2:0123;", "h3:;", "h9:;", "h10:;", "h19:;", "h20:;", "h23:;", "o:;", "f:012345", "f5:;", "n:;", "n;:bwhofn",
        "b0010;:bwhofn"};

    @Override
    void all() {
        numbers();
        spots();
        bidders();
        hours();
        bids();
        seals();
        reasonsNotToSeal();
        fees();
        reasonsNotToWithdraw();
        bidsThatCount();
        sharings();
        bestSharing();
        prices();
        behindTheOpening();
        fishing();
        neighbours();
        neighboursWithFewer();
        night();
        settings();
        buffer();
        parts();
        syntaxErrors();
        whatMayCome();
        undo();
        undoRestores();
        exceptions();
        firstException();
        looks();
        whatWouldBe();
    }

    private void numbers() {
        test(10, "An object is used for at most 512 calls after it has been made", x -> {
            for (int call = 1; call <= 511; call++) {
                x.nextDay();
            }
            same("count(0), the 512th call", x.count(0), 512);
        });
        test(30, "All numbers are integers, but for two shares", x -> {
            run(x, "b0030;b1025;b2210;o");
            isTrue("30 of 600 as a share", x.chestShare() == 0.05);
            isTrue("30 for 2 as a share", x.meanPrice() == 15.0f);
            run(x, "n;b3010;o");
            isTrue("35 of 600 as a share", x.chestShare() == 35.0 / 600.0 && x.chestShare() > 0.05);
            isTrue("35 for 3 as a share", x.meanPrice() > 11.6f && x.meanPrice() < 11.7f);
        });
        test(9, "divisions are rounded down", x -> {
            x.set(2, 3);
            x.nextDay();
            x.bid(0, 0, 9);
            x.open();
            same("a quarter of 103, and 1", x.fish(0), 26);
            same("a quarter of 77, and 1", x.fish(0), 20);
            x.set(2, 0);
            x.nextDay();
            x.bid(0, 1, 9);
            x.open();
            x.fish(1);
            same("57 and a tenth of 77", x.spot(0, 1), 64);
            same("77 less its tenth", x.spot(1, 1), 70);
        });
        test(18, "`NONE = -1`: There is nothing to return", x -> {
            same("NONE", SealedSpots.NONE, -1);
            same("who got a spot", x.spot(0, 2), -1);
        });
    }

    private void spots() {
        test(18, "There are 6 spots along the shore, numbered from 0", x -> {
            same("spot(0, 0)", x.spot(0, 0), 5);
            same("spot(5, 0)", x.spot(5, 0), 5);
            refusedFor(NO_PLACE, "spot(#, 0)", INDEX, NEW, (y, spot) -> y.spot(spot, 0));
        });
        test(9, "two spots are neighbours if their numbers differ by 1", x -> {
            x.set(2, 0);
            fishOut(x, 5, 7);
            fishOut(x, 2, 7);
            run(x, "b009;o;f0");
            same("spot 5, no neighbour of 0", x.spot(5, 1), 11);
            same("spot 2, no neighbour of 0", x.spot(2, 1), 11);
            same("spot 0", x.spot(0, 1), 74);
            run(x, "n;b039;o;f3");
            same("spot 2, a neighbour of 3", x.spot(2, 1), 18);
            same("spot 5, no neighbour of 3", x.spot(5, 1), 11);
            SealedSpots y = new SealedSpots();
            y.set(2, 0);
            fishOut(y, 0, 7);
            run(y, "b059;o;f5");
            same("spot 0, no neighbour of 5", y.spot(0, 1), 11);
            same("spot 5", y.spot(5, 1), 74);
        });
        test(9, "two spots are neighbours if their numbers differ by 1", x -> {
            for (int from = 0; from < 6; from++) {
                for (int to = 0; to < 6; to++) {
                    boolean neighbours = from - to == 1 || to - from == 1;
                    SealedSpots y = new SealedSpots();
                    y.set(2, 0);
                    fishOut(y, to, 7);
                    run(y, "b0" + from + "9;o;f" + from);
                    if (to != from) {
                        same("left at " + from + " near " + to, y.spot(from, 1), neighbours ? 67 : 74);
                        same("fish at " + to + " near " + from, y.spot(to, 1), neighbours ? 18 : 11);
                    }
                }
            }
        });
        test(2, "A spot has a least price, 0 to 99, at first 5", x -> {
            for (int spot = 0; spot < 6; spot++) {
                same("the price at first", x.spot(spot, 0), 5);
            }
            same("price(3, 0)", x.price(3, 0), 5);
            same("price(3, 99)", x.price(3, 99), 0);
            same("the price then", x.spot(3, 0), 99);
            refused("price(3, 100)", ARGUMENT, NEW, y -> y.price(3, 100));
            refused("price(3, -1)", ARGUMENT, NEW, y -> y.price(3, -1));
        });
        test(10, "fish, 0 to 200, at first 100", x -> {
            for (int spot = 0; spot < 6; spot++) {
                same("fish at first", x.spot(spot, 1), 100);
            }
            x.set(2, 0);
            fishOut(x, 0, 14);
            same("fish at the least", x.spot(0, 1), 0);
            x.set(2, 50);
            for (int i = 0; i < 5; i++) {
                x.nextDay();
                same("fish of 50 more each night", x.spot(0, 1), Math.min(200, 50 * i + 50));
                same("fish of 150 and more", x.spot(1, 1), i == 0 ? 150 : 200);
            }
        });
    }

    private void bidders() {
        test(19, "There are 6 bidders, numbered from 0, each with a purse, at first 100", x -> {
            for (int bidder = 0; bidder < 6; bidder++) {
                same("the purse at first", x.bidder(bidder, 0), 100);
            }
            refusedFor(NO_PLACE, "bidder(#, 0)", INDEX, NEW, (y, bidder) -> y.bidder(bidder, 0));
        });
        test(19, "a catch, the fish that it caught so far", x -> {
            same("the catch at first", x.bidder(2, 1), 0);
            run(x, "b219;o;f1;n;b249;o;f4");
            same("the catch of two days, 26 and 28", x.bidder(2, 1), 54);
            same("the catch of another", x.bidder(1, 1), 0);
        });
        test(15, "There is a chest, empty at first.", x -> {
            same("count(4)", x.count(4), 0);
            same("keep()", x.keep(), 0);
        });
        test(21, "All coins are in purses or in the chest.", x -> {
            coinsAreThere(x, 600, 0);
            x.pay(3, 99);
            coinsAreThere(x, 699, 0);
            run(x, "b0050;b1050;b2230;h6;w22");
            coinsAreThere(x, 699, 8);
            x.open();
            coinsAreThere(x, 699, 58);
            x.undo();
            coinsAreThere(x, 699, 8);
            x.undo();
            coinsAreThere(x, 699, 0);
            x.undo();
            coinsAreThere(x, 600, 0);
            EMPTY_PURSE.accept(x);
            coinsAreThere(x, 600, 100);
        });
    }

    private static void coinsAreThere(SealedSpots x, int coins, int chest) {
        same("all coins", x.count(6), coins);
        same("the chest", x.count(4), chest);
        same("the purses", x.count(5), coins - chest);
    }

    private void hours() {
        test(7, "A day has hours, 0 to 23", x -> {
            same("the first hour", x.count(1), 0);
            same("pause(22)", x.pause(22), 22);
            same("pause(1)", x.pause(1), 23);
            same("pause(1) at the last hour", x.pause(1), 23);
        });
        test(10, "it begins with the hour 0, and with bids", x -> {
            same("why() on the first day", x.why(0, 0, 9), 0);
            x.pause(23);
            x.open();
            x.nextDay();
            same("the hour behind an opening", x.count(1), 0);
            same("why() behind an opening", x.why(0, 0, 9), 0);
            x.pause(1);
            x.nextDay();
            same("the hour behind no opening", x.count(1), 0);
            same("why() behind no opening", x.why(0, 0, 9), 0);
        });
        test(5, "As long as they are not opened, bids can be sealed and withdrawn.", x -> {
            x.pause(23);
            same("bid() at the last hour", x.bid(0, 0, 9), 657);
            same("withdraw() at the last hour", x.withdraw(0, 0), 2);
            x.bid(0, 0, 9);
            x.open();
            same("why() behind the opening", x.why(1, 1, 9), 1);
            same("sealed() behind the opening", x.sealed(0, 0, 4), 1);
            x.nextDay();
            same("bid() on the next day", x.bid(0, 0, 9), 657);
            same("withdraw() on the next day", x.withdraw(0, 0), 2);
        });
        test(7, "The hour never goes beyond 23.", x -> {
            x.pause(22);
            same("pause(2) at 22", x.pause(2), 23);
            same("pause(23) at 23", x.pause(23), 23);
            x.bid(0, 0, 9);
            same("run() of h23 at 23", run(x, "h23;h1"), 2);
            same("the hour", x.count(1), 23);
            same("the fee of a bid of 23", x.sealed(0, 0, 3), 2);
        });
    }

    private void bids() {
        test(5, "A bid is of a bidder, for a spot, of an amount, 1 to 99, sealed at an hour", x -> {
            x.price(5, 0);
            x.bid(0, 5, 1);
            x.pause(23);
            x.bid(5, 0, 99);
            same("the first hour", x.sealed(0, 5, 1), 0);
            same("the last hour", x.sealed(5, 0, 1), 23);
            x.open();
            same("the least amount", x.sealed(0, 5, 2), 1);
            same("the greatest amount", x.sealed(5, 0, 2), 99);
            refused("bid(0, 5, 0)", ARGUMENT, y -> y.price(5, 0), y -> y.bid(0, 5, 0));
            refused("bid(5, 0, 100)", ARGUMENT, NEW, y -> y.bid(5, 0, 100));
        });
        test(5, "a bidder has at most one bid for each spot", x -> {
            for (int i = 0; i < 36; i++) {
                x.bid(i / 6, i % 6, 9);
            }
            same("one of each bidder for each spot", x.count(3), 36);
            same("bids of a bidder", x.bidder(5, 2), 6);
            same("bids for a spot", x.spot(5, 4), 6);
            for (int i = 0; i < 36; i++) {
                same("a second one", x.why(i / 6, i % 6, 10), 2);
            }
            x.withdraw(5, 5);
            same("another behind its withdrawal", x.why(5, 5, 10), 0);
            refused("bid(0, 0, 10), a second one", STATE, y -> y.bid(0, 0, 9), y -> y.bid(0, 0, 10));
        });
    }

    private void seals() {
        String words = "Its seal is (73 times the amount, and 41 times the rank, and 6 times the bidder, and the spot,"
                + " together) modulo 4096";
        test(5, words, x -> {
            same("73 times 5", x.bid(0, 0, 5), 365);
            same("73 times 6, 41, 6 times 5, 5", x.bid(5, 5, 6), 438 + 41 + 30 + 5);
            same("of 4095", new SealedSpots().bid(1, 1, 56), 4095);
            same("of 4096", new SealedSpots().bid(1, 2, 56), 0);
            same("of 4097", new SealedSpots().bid(1, 3, 56), 1);
        });
        test(5, words, x -> {
            x.set(0, 0);
            x.set(1, 0);
            for (int rank = 0; rank < 23; rank++) {
                x.bid(0, 0, 9);
                x.withdraw(0, 0);
            }
            same("of 8191: 73 times 99, 41 times 23, 18, 3", x.bid(3, 3, 99), 4095);
            x.undo();
            same("of 8192", x.bid(3, 4, 99), 0);
            same("its seal", x.sealed(3, 4, 0), 0);
        });
        test(5, "the rank tells the how many-th bid of the day it was that was sealed, from 0, withdrawn ones counted",
                x -> {
                    same("rank 0", x.bid(0, 0, 5), 365);
                    x.withdraw(0, 0);
                    same("rank 1, behind a withdrawn one", x.bid(0, 0, 5), 365 + 41);
                    same("a refused one", Check.kindOf(() -> x.bid(0, 0, 5)), 3);
                    same("rank 2, behind a refused one", x.bid(0, 1, 5), 365 + 82 + 1);
                    x.undo();
                    same("rank 2, behind undo()", x.bid(0, 1, 5), 365 + 82 + 1);
                    run(x, "b025;b035");
                    same("rank 5, behind two of a text", x.bid(0, 4, 5), 365 + 205 + 4);
                    x.keep();
                    x.nextDay();
                    same("rank 0 of the next day", x.bid(0, 0, 5), 365);
                    x.goBack();
                    same("rank 6, behind goBack()", x.bid(1, 0, 5), 365 + 246 + 6);
                });
    }

    private void reasonsNotToSeal() {
        test(23, "1: the bids of the day are opened", x -> {
            same("why() before", x.why(0, 0, 9), 0);
            x.open();
            same("why() behind it", x.why(0, 0, 9), 1);
            x.nextDay();
            same("why() on the next day", x.why(0, 0, 9), 0);
        });
        test(23, "2: the bidder has a bid for the spot", x -> {
            x.bid(0, 0, 9);
            same("why() for the spot", x.why(0, 0, 9), 2);
            same("why() for another spot", x.why(0, 1, 9), 0);
            same("why() of another bidder", x.why(1, 0, 9), 0);
            x.withdraw(0, 0);
            same("why() when it is withdrawn", x.why(0, 0, 9), 0);
        });
        test(23, "3: the amount is below the least price of the spot", x -> {
            same("4 of 5", x.why(0, 0, 4), 3);
            same("5 of 5", x.why(0, 0, 5), 0);
            x.price(0, 99);
            same("98 of 99", x.why(0, 0, 98), 3);
            same("99 of 99", x.why(0, 0, 99), 0);
            x.price(0, 0);
            same("1 of 0", x.why(0, 0, 1), 0);
        });
        test(23, "4: the purse has less than the amount", x -> {
            POOR.accept(x);
            same("57 of 57", x.why(1, 2, 57), 0);
            same("58 of 57", x.why(1, 2, 58), 4);
            same("99 of 100", x.why(0, 2, 99), 0);
            SealedSpots y = make(EMPTY_PURSE);
            y.price(0, 0);
            same("1 of 0", y.why(0, 0, 1), 4);
            y.pay(0, 1);
            same("1 of 1", y.why(0, 0, 1), 0);
        });
        test(23, "A bid can not be sealed for the first of these reasons that is so", x -> {
            POOR.accept(x);
            same("2 and 3", x.why(1, 1, 4), 2);
            same("2 and 4", x.why(1, 1, 58), 2);
            x.price(2, 80);
            same("3 and 4", x.why(1, 2, 79), 3);
            same("4 alone", x.why(1, 2, 80), 4);
            x.price(1, 99);
            same("2, 3 and 4", x.why(1, 1, 98), 2);
            x.open();
            same("1 alone", x.why(1, 3, 57), 1);
            same("1 and 2", x.why(1, 1, 99), 1);
            same("1 and 3", x.why(1, 3, 4), 1);
            same("1 and 4", x.why(1, 3, 58), 1);
            same("all four", x.why(1, 1, 98), 1);
        });
    }

    private void fees() {
        test(6, "To withdraw a bid costs a fee: setting 0, and setting 1 for each hour from that at which it was sealed"
                + " to that of now.", x -> {
                    x.bid(0, 0, 9);
                    same("of no hour", x.withdraw(0, 0), 2);
                    x.bid(0, 0, 9);
                    x.pause(3);
                    x.bid(1, 0, 9);
                    x.pause(20);
                    same("of 23 hours", x.withdraw(0, 0), 25);
                    same("of 20 hours", x.withdraw(1, 0), 22);
                    x.bid(0, 0, 9);
                    x.pause(5);
                    same("sealed at the last hour", x.withdraw(0, 0), 2);
                });
        test(6, "setting 0, and setting 1 for each hour", x -> {
            x.bid(0, 0, 9);
            x.pause(23);
            x.pay(0, 99);
            x.pay(0, 28);
            x.set(0, 20);
            x.set(1, 9);
            same("the greatest fee, by the settings of now", x.sealed(0, 0, 3), 227);
            x.set(0, 0);
            same("of the hours alone", x.sealed(0, 0, 3), 207);
            x.set(1, 0);
            same("no fee", x.withdraw(0, 0), 0);
            same("the purse", x.bidder(0, 0), 227);
            same("bids withdrawn", x.count(13), 1);
        });
        test(6, "It goes from the purse to the chest.", x -> {
            x.bid(2, 3, 50);
            x.pause(4);
            x.withdraw(2, 3);
            same("the purse", x.bidder(2, 0), 94);
            same("the chest", x.count(4), 6);
            same("the purse of another", x.bidder(3, 0), 100);
            SealedSpots y = make(EMPTY_PURSE);
            same("an empty purse", y.bidder(0, 0), 0);
            same("the chest", y.count(4), 100);
        });
    }

    private void reasonsNotToWithdraw() {
        test(20, "1: the bids of the day are opened", x -> {
            x.bid(0, 0, 10);
            same("before", x.sealed(0, 0, 4), 0);
            x.open();
            same("behind it", x.sealed(0, 0, 4), 1);
        });
        test(20, "2: there is no such bid", x -> {
            x.bid(0, 0, 10);
            same("of another bidder", x.sealed(1, 0, 4), 2);
            same("for another spot", x.sealed(0, 1, 4), 2);
            x.withdraw(0, 0);
            same("withdrawn already", x.sealed(0, 0, 4), 2);
            x.bid(0, 0, 10);
            x.nextDay();
            same("of the day before", x.sealed(0, 0, 4), 2);
        });
        test(20, "3: the purse has less than the fee", x -> {
            x.set(0, 20);
            x.set(1, 8);
            x.bid(0, 0, 10);
            x.pause(10);
            same("100 of 100", x.sealed(0, 0, 4), 0);
            x.set(1, 9);
            x.undo();
            x.pause(1);
            same("108 of 100", x.sealed(0, 0, 4), 3);
            x.pay(0, 7);
            same("108 of 107", x.sealed(0, 0, 4), 3);
            x.pay(0, 1);
            same("108 of 108", x.sealed(0, 0, 4), 0);
            SealedSpots y = make(EMPTY_PURSE);
            y.pay(0, 5);
            y.bid(0, 1, 5);
            y.set(0, 6);
            same("6 of 5", y.sealed(0, 1, 4), 3);
            y.set(0, 5);
            same("5 of 5", y.withdraw(0, 1), 5);
            same("the purse", y.bidder(0, 0), 0);
        });
        test(20, "A bid can not be withdrawn for the first of these reasons that is so", x -> {
            EMPTY_PURSE.accept(x);
            same("2, with a purse that has less", x.sealed(0, 0, 4), 2);
            x.pay(0, 5);
            x.bid(0, 1, 5);
            same("3 alone", x.sealed(0, 1, 4), 3);
            x.open();
            same("1 and 2", x.sealed(0, 0, 4), 1);
            same("1 and 3", x.sealed(0, 1, 4), 1);
        });
    }

    private void bidsThatCount() {
        test(8, "The worth of a bid is its amount less the least price of its spot, as it is at the opening.", x -> {
            x.bid(0, 0, 30);
            x.price(0, 0);
            same("30 less 0", x.worth(6, 0), 30);
            x.price(1, 99);
            same("the price of another spot", x.worth(6, 0), 30);
            x.price(0, 28);
            same("30 less 28", x.worth(6, 0), 2);
            x.open();
            same("the price of the opening is paid", x.spot(0, 3), 28);
            x.price(0, 20);
            same("a price behind the opening", x.spot(0, 3), 28);
        });
        test(8, "A bid does not count if that is below 0", x -> {
            x.bid(0, 0, 30);
            x.price(0, 31);
            same("30 less 31", x.ifOpened(0, 0), NONE);
            x.price(0, 30);
            same("30 less 30", x.ifOpened(0, 0), 0);
            x.price(0, 31);
            same("open() of no bid that counts", x.open(), 0);
            x.undo();
            x.price(0, 30);
            same("open() of the worth 0", x.open(), 1);
        });
        test(8, "or if its purse has less than its amount then", x -> {
            x.bid(1, 0, 99);
            payFee(x, 1, 1, 1);
            same("99 of 99", x.ifOpened(0, 0), 1);
            payFee(x, 1, 1, 1);
            same("99 of 98", x.ifOpened(0, 0), NONE);
            same("open() of no bid that counts", x.open(), 0);
            x.undo();
            x.pay(1, 1);
            same("99 of 99 again", x.open(), 1);
        });
    }

    private void sharings() {
        test(8, "no spot to two", x -> {
            run(x, "b0310;b1320;b2320");
            same("open() of three bids for a spot", x.open(), 1);
            same("who got it", x.spot(3, 2), 1);
            same("the others", x.bidder(0, 3) + x.bidder(2, 3), 2 * NONE);
        });
        test(8, "no two to one", x -> {
            run(x, "b4010;b4120;b4230;b4330;b4420;b4510");
            same("open() of six bids of a bidder", x.open(), 1);
            same("the one that it got", x.bidder(4, 3), 2);
        });
        test(8, "each only to one with a bid for it that counts", x -> {
            run(x, "b0010;b1130;b2230");
            x.price(1, 31);
            same("open()", x.open(), 2);
            same("a bid that does not count", x.spot(1, 2), NONE);
            same("no bid", x.spot(3, 2), NONE);
            same("a bid that counts", x.spot(2, 2), 2);
            SealedSpots y = new SealedSpots();
            for (int spot = 0; spot < 6; spot++) {
                y.price(spot, 0);
            }
            y.bid(3, 3, 9);
            y.bid(0, 0, 9);
            y.withdraw(0, 0);
            same("open() of one bid at the price 0", y.open(), 1);
            same("no bid at the price 0", y.spot(1, 2), NONE);
            same("a withdrawn bid at the price 0", y.spot(0, 2), NONE);
        });
        test(8, "A sharing gives spots to bidders", x -> {
            for (int bidder = 0; bidder < 6; bidder++) {
                for (int spot = 0; spot < 6; spot++) {
                    oneBid(bidder, spot, 30 + 6 * bidder + spot);
                }
            }
        });
        test(24, "Its worth is that of these bids together.", x -> {
            same("of none", x.worth(6, 0), 0);
            run(x, "b0099;b1199;b2299;b3399;b4499;b5599");
            same("of six, each 99 less 5", x.worth(6, 0), 6 * 94);
            for (int spot = 0; spot < 6; spot++) {
                x.price(spot, 0);
            }
            same("of six, each 99, the greatest", x.worth(6, 1), 594);
        });
    }

    /** All that is told of a day with this bid alone. */
    private static void oneBid(int bidder, int spot, int amount) {
        SealedSpots x = new SealedSpots();
        String bid = "the bid of " + bidder + " for " + spot + ": ";
        x.bid(bidder, spot, amount);
        for (int other = 0; other < 6; other++) {
            same(bid + "ifOpened(" + other + ", 0)", x.ifOpened(other, 0), other == spot ? bidder : NONE);
            same(bid + "ifOpened(" + other + ", 1)", x.ifOpened(other, 1), other == spot ? 5 : NONE);
            same(bid + "worth(" + other + ", 0)", x.worth(other, 0), other == bidder ? 0 : amount - 5);
            same(bid + "worth(" + other + ", 1)", x.worth(other, 1), other == bidder ? 0 : amount - 5);
            same(bid + "why() of " + other, x.why(other, spot, 9), other == bidder ? 2 : 0);
            same(bid + "why() for " + other, x.why(bidder, other, 9), other == spot ? 2 : 0);
            int least = other < bidder ? amount : other == bidder ? 5 : amount + 1;
            same(bid + "least() of " + other, x.least(other, spot), least);
        }
        same(bid + "keenest()", x.keenest(), bidder);
        same(bid + "withdraw()", x.withdraw(bidder, spot), 2);
        same(bid + "the worth when it is withdrawn", x.worth(6, 0), 0);
        x.undo();
        same(bid + "open()", x.open(), 1);
        same(bid + "its amount", x.sealed(bidder, spot, 2), amount);
        for (int other = 0; other < 6; other++) {
            same(bid + "who got " + other, x.spot(other, 2), other == spot ? bidder : NONE);
            same(bid + "what " + other + " got", x.bidder(other, 3), other == bidder ? spot : NONE);
            same(bid + "the purse of " + other, x.bidder(other, 0), other == bidder ? 95 : 100);
        }
        same(bid + "fish()", x.fish(spot), 26);
        same(bid + "the catch", x.bidder(bidder, 1), 26);
    }

    private void bestSharing() {
        test(8, "The best sharing is the one with the greatest worth", x -> {
            run(x, "b0030;b015;b1029;o");
            same("25 with one spot, not 24 with two", x.count(9), 1);
            same("who got spot 0", x.spot(0, 2), 0);
            SealedSpots y = new SealedSpots();
            run(y, "b0030;b1031;o");
            same("not the lower bidder", y.spot(0, 2), 1);
        });
        test(8, "of several the one in which the most spots are given", x -> {
            run(x, "b0030;b015;b1030;o");
            same("25 with two spots, not with one", x.count(9), 2);
            same("so not the lower bidder at spot 0", x.spot(0, 2), 1);
            same("but at spot 1", x.spot(1, 2), 0);
            SealedSpots y = new SealedSpots();
            run(y, "b005;b115;b225;o");
            same("bids of the worth 0", y.count(9), 3);
        });
        test(8, "of several of these the first one, if they are compared spot by spot", x -> {
            run(x, "b0020;b0120;b1020;b1120;o");
            same("the lower bidder at spot 0", x.spot(0, 2), 0);
            same("not at spot 1", x.spot(1, 2), 1);
            // Not the first one by what the lowest bidder gets: that would be the spot 1, not 2.
            firstThree("b0120;b0221;b1020;b1221;o", 1, NONE, 0);
            // Not the first one by which spots are given: those would be 0 and 1.
            firstThree("b0020;b0120;b1020;b1220;o", 0, NONE, 1);
            // Not the first one by which bidders get a spot: those would be 0 and 1.
            firstThree("b0020;b0120;b1020;b2120;o", 0, 2, NONE);
            firstThree("b3020;b3120;b3220;b2120;b2220;b1220;o", 3, 2, 1);
        });
        test(8, "the spot is given to the lower bidder", x -> {
            run(x, "b5520;b4520;o");
            same("of two for the last spot", x.spot(5, 2), 4);
            SealedSpots y = new SealedSpots();
            run(y, "b5020;b1020;b0020;o");
            same("of three for the first spot", y.spot(0, 2), 0);
        });
        test(8, "and to some bidder rather than to none", x -> {
            run(x, "b4520;b4320;b4220;o");
            same("the first spot of a bidder", x.bidder(4, 3), 2);
            SealedSpots y = new SealedSpots();
            run(y, "b205;b215;b225;b315;b325;o");
            same("spot 0", y.spot(0, 2), 2);
            same("spot 1, to the higher one rather than to none", y.spot(1, 2), 3);
            same("spot 2", y.spot(2, 2), NONE);
        });
    }

    private static void firstThree(String text, int... due) {
        SealedSpots x = new SealedSpots();
        run(x, text);
        for (int spot = 0; spot < 3; spot++) {
            same("spot " + spot + " behind " + text, x.spot(spot, 2), due[spot]);
        }
    }

    private void prices() {
        test(8, "Who gets a spot in the best sharing pays: the least price of the spot, and the worth of the best"
                + " sharing without this bidder, less the worth of the best sharing but for that of its own bid.",
                x -> {
                    x.price(0, 10);
                    run(x, "b0060;b0150;b1055;b2120;o");
                    // 45 of bidder 0 for spot 1 and 45 of bidder 1 for spot 0 are the best, 90.
                    same("bidder 0: 5, and 45 + 15, less 45", x.spot(1, 3), 20);
                    same("bidder 1: 10, and 50 + 15, less 45", x.spot(0, 3), 30);
                    SealedSpots y = new SealedSpots();
                    y.price(0, 0);
                    run(y, "b0099;o");
                    same("alone at the price 0", y.spot(0, 3), 0);
                    same("a spot that was given for nothing", y.count(9), 1);
                });
        test(8, "That is at most its amount.", x -> {
            run(x, "b0030;b1030;o");
            same("just the amount", x.spot(0, 3), 30);
            SealedSpots y = new SealedSpots();
            run(y, "b0030;b1029;o");
            same("1 less", y.spot(0, 3), 29);
            SealedSpots z = new SealedSpots();
            for (int i = 0; i < 36; i++) {
                z.bid(i / 6, i % 6, 9 + i * 29 % 37);
            }
            z.open();
            for (int spot = 0; spot < 6; spot++) {
                isTrue("a price of at most the amount", z.spot(spot, 3) <= z.sealed(z.spot(spot, 2), spot, 2));
            }
        });
        test(8, "It goes from the purse to the chest.", x -> {
            x.bid(0, 0, 99);
            x.bid(1, 0, 99);
            payFee(x, 0, 1, 1);
            x.open();
            same("the price", x.spot(0, 3), 99);
            same("an empty purse", x.bidder(0, 0), 0);
            same("the chest", x.count(4), 100);
            same("the purse of the other", x.bidder(1, 0), 100);
        });
    }

    private void behindTheOpening() {
        test(8, "The bids stay until the next day, and can be looked at.", x -> {
            run(x, "b0020;b1010;o;f0;h23");
            x.price(0, 99);
            same("bids", x.count(3), 2);
            same("the amount of who got it", x.sealed(0, 0, 2), 20);
            same("the amount of the other", x.sealed(1, 0, 2), 10);
            x.nextDay();
            same("bids on the next day", x.count(3), 0);
            same("an amount on the next day", x.sealed(0, 0, 2), NONE);
        });
        test(9, "Behind the opening who got a spot can fish there", x -> {
            run(x, "b0020;b1010");
            same("fish(0) before it", Check.kindOf(() -> x.fish(0)), 3);
            x.open();
            same("fish(0) behind it", x.fish(0), 26);
            same("the catch of who got it", x.bidder(0, 1), 26);
            same("the catch of the other", x.bidder(1, 1), 0);
            x.nextDay();
            same("fish(0) on the next day", Check.kindOf(() -> x.fish(0)), 3);
        });
    }

    private void fishing() {
        test(9, "each time it catches a quarter of the fish at the spot, and 1 more; but not more than there are",
                x -> {
                    int[] there = {0, 1, 2, 3, 4, 5, 7, 8, 11, 12};
                    int[] caught = {0, 1, 1, 1, 2, 2, 2, 3, 3, 4};
                    for (int i = 0; i < there.length; i++) {
                        SealedSpots y = new SealedSpots();
                        y.set(2, there[i]);
                        fishOut(y, 0, 13);
                        same("fish there", y.spot(0, 1), there[i]);
                        run(y, "b009;o");
                        same("fish(0) of " + there[i], y.fish(0), caught[i]);
                        same("left of " + there[i], y.spot(0, 1), there[i] - caught[i]);
                    }
                });
        test(9, "not more than there are", x -> {
            run(x, "b009;o");
            for (int i = 0; i < 13; i++) {
                x.fish(0);
            }
            same("fish(0) of none", x.fish(0), 0);
            same("the catch", x.bidder(0, 1), 100);
            same("caught there", x.spot(0, 5), 100);
        });
        test(9, "a quarter of the fish at the spot, and 1 more", x -> {
            x.set(2, 50);
            run(x, "n;n;b029;o");
            same("fish(2) of 200", x.fish(2), 51);
            same("left", x.spot(2, 1), 149);
            SealedSpots y = new SealedSpots();
            y.set(2, 49);
            run(y, "n;n;b029;o");
            same("fish(2) of 198", y.fish(2), 50);
        });
    }

    /** Of the spots 0 and 1 so many fish are left as 11 and 0, and as come by night; bidder 0 gets the spot 0. */
    private static SealedSpots nearNone(int more) {
        SealedSpots x = new SealedSpots();
        x.set(2, more);
        run(x, "b509;b419;o;f0;f0;f0;f0;f0;f0;f0");
        run(x, "f1;f1;f1;f1;f1;f1;f1;f1;f1;f1;f1;f1;f1;n;b009;o");
        return x;
    }

    private void neighbours() {
        test(9, "a tenth of the fish that are left goes from there to each neighbour with fewer fish", x -> {
            x.set(2, 0);
            fishOut(x, 1, 7);
            run(x, "b009;o;f0");
            same("of 100, 74 are left; 7 go", x.spot(0, 1), 67);
            same("to 11", x.spot(1, 1), 18);
            SealedSpots y = nearNone(2);
            same("fish(0) of 13", y.fish(0), 4);
            same("no tenth of 9 goes", y.spot(1, 1), 2);
            SealedSpots z = nearNone(3);
            same("fish(0) of 14", z.fish(0), 4);
            same("a tenth of 10 goes", z.spot(1, 1), 4);
            same("from there", z.spot(0, 1), 9);
            same("none is lost", z.count(10) + z.count(11), 618);
        });
        test(9, "first to the lower one", x -> {
            lowOnBothSides(x);
            x.fish(2);
            same("7 of 74 go to the lower one", x.spot(1, 1), 18);
            same("6 of 67 to the upper one", x.spot(3, 1), 17);
        });
        test(9, "each tenth is found by the fish as they are then", x -> {
            lowOnBothSides(x);
            same("fish(2)", x.fish(2), 26);
            same("left of 74: less 7, then less 6", x.spot(2, 1), 61);
            same("fish(2)", x.fish(2), 16);
            // 45 are left; 4 go to spot 1, then 4 of 41 to spot 3.
            same("left of 45", x.spot(2, 1), 37);
            same("spot 1", x.spot(1, 1), 22);
            same("spot 3", x.spot(3, 1), 21);
        });
        test(9, "no spot gets above 200: then only as much goes", x -> {
            x.set(2, 50);
            run(x, "n;n;b029;o;f2");
            same("a spot of 200 below", x.spot(1, 1), 200);
            same("a spot of 200 above", x.spot(3, 1), 200);
            same("none goes", x.spot(2, 1), 149);
        });
    }

    /** Spots 1 and 3 have 11 fish, spot 2 has 100 and is bidder 0's. */
    private static void lowOnBothSides(SealedSpots x) {
        x.set(2, 0);
        run(x, "b519;b439;o;f1;f1;f1;f1;f1;f1;f1;f3;f3;f3;f3;f3;f3;f3");
        run(x, "n;b029;o");
    }

    /** Spot 1 has 55 fish and what comes in two nights, the others 100 and that; bidder 0 gets the spot 0. */
    private static SealedSpots nearEqual(int more, String rest) {
        SealedSpots x = new SealedSpots();
        x.set(2, more);
        fishOut(x, 1, 2);
        x.nextDay();
        run(x, "b009;" + rest + "o");
        return x;
    }

    private void neighboursWithFewer() {
        test(9, "to each neighbour with fewer fish", x -> {
            SealedSpots equal = nearEqual(38, "");
            same("fish(0) of 176", equal.fish(0), 45);
            same("131 are left", equal.spot(0, 1), 131);
            same("as many as there", equal.spot(1, 1), 131);
            SealedSpots fewer = nearEqual(36, "");
            same("fish(0) of 172", fewer.fish(0), 44);
            same("128 are left; 12 go", fewer.spot(0, 1), 116);
            same("to 127", fewer.spot(1, 1), 139);
        });
        test(9, "that nobody got", x -> {
            SealedSpots got = nearEqual(36, "b119;");
            got.fish(0);
            same("128 are left; none goes", got.spot(0, 1), 128);
            same("to a spot that somebody got", got.spot(1, 1), 127);
            SealedSpots not = nearEqual(36, "b019;");
            same("who got spot 1, with a bid for it", not.spot(1, 2), NONE);
            not.fish(0);
            same("12 go to a spot that nobody got", not.spot(1, 1), 139);
        });
        test(9, "to each neighbour with fewer fish that nobody got, first to the lower one; each tenth is found by"
                + " the fish as they are then", x -> {
                    x.set(2, 0);
                    fishOut(x, 1, 7);
                    fishOut(x, 4, 7);
                    fishOut(x, 3, 1);
                    run(x, "b029;o");
                    same("spot 3, below 74", x.spot(3, 1), 67);
                    same("fish(2) of 100", x.fish(2), 26);
                    same("7 of 74 go to the lower one", x.spot(1, 1), 18);
                    same("67 are left then", x.spot(2, 1), 67);
                    same("the upper one has no fewer then", x.spot(3, 1), 67);
                    SealedSpots y = new SealedSpots();
                    y.set(2, 12);
                    fishOut(y, 1, 3);
                    fishOut(y, 3, 2);
                    run(y, "n;n;b029;o");
                    same("spot 3, 1 below 99", y.spot(3, 1), 98);
                    same("fish(2) of 148", y.fish(2), 38);
                    same("11 of 110 go to the lower one", y.spot(1, 1), 100);
                    same("then 9 of 99 to the upper one", y.spot(3, 1), 107);
                    same("90 are left", y.spot(2, 1), 90);
                    SealedSpots z = new SealedSpots();
                    z.set(2, 0);
                    fishOut(z, 3, 7);
                    run(z, "b029;o;f2");
                    same("none to a lower one with more", z.spot(1, 1), 100);
                    same("7 of 74 to the upper one", z.spot(3, 1), 18);
                });
    }

    private void night() {
        test(10, "With the next day the hour is 0, all bids are gone, spots are nobody's", x -> {
            run(x, "b0020;b1120;b2030;h9;o;n");
            same("the hour", x.count(1), 0);
            same("bids", x.count(3), 0);
            for (int spot = 0; spot < 6; spot++) {
                same("who has a spot", x.spot(spot, 2), NONE);
                same("what was paid for it", x.spot(spot, 3), NONE);
                same("the spot of a bidder", x.bidder(spot, 3), NONE);
            }
        });
        test(10, "all bids are gone, spots are nobody's, and to the fish of each spot come as many", x -> {
            fullDay(x, 0);
            same("nextDay() of 5 to each", x.nextDay(), 30);
            same("bids of 36", x.count(3), 0);
            for (int spot = 0; spot < 6; spot++) {
                same("fish behind a catch of 26", x.spot(spot, 1), 79);
                same("who has a spot", x.spot(spot, 2), NONE);
                same("what was paid for it", x.spot(spot, 3), NONE);
                same("the spot of a bidder", x.bidder(spot, 3), NONE);
            }
        });
        test(10, "to the fish of each spot come as many as setting 2 tells, to at most 200", x -> {
            x.set(2, 49);
            same("nextDay() to 149", x.nextDay(), 6 * 49);
            x.set(2, 50);
            same("nextDay() to 199", x.nextDay(), 6 * 50);
            same("nextDay() to 200", x.nextDay(), 6);
            same("fish at the last spot", x.spot(5, 1), 200);
            same("nextDay() at 200", x.nextDay(), 0);
            SealedSpots y = new SealedSpots();
            y.set(2, 0);
            same("nextDay() of none", y.nextDay(), 0);
            y.set(2, 1);
            same("nextDay() of 1", y.nextDay(), 6);
            y.set(2, 50);
            same("nextDay() to 151", y.nextDay(), 300);
            same("nextDay() of 50 to 200", y.nextDay(), 6 * 49);
        });
    }

    private void settings() {
        test(4, "0: the fee, 0 to 20, at first 2", x -> setting(x, 0, 2, 20));
        test(4, "1: the fee for each hour, 0 to 9, at first 1", x -> setting(x, 1, 1, 9));
        test(4, "2: fish by night, 0 to 50, at first 10", x -> setting(x, 2, 10, 50));
    }

    private static void setting(SealedSpots x, int setting, int first, int most) {
        same("at first", x.setting(setting), first);
        same("set() to the most", x.set(setting, most), first);
        same("set() to the least", x.set(setting, 0), most);
        same("the least", x.setting(setting), 0);
        refusedFor(new int[] {most + 1, -1, HUGE, TINY}, "set(" + setting + ", #)", ARGUMENT, NEW,
                (y, value) -> y.set(setting, value));
    }

    private void buffer() {
        test(11, "The buffer has at most 60 characters.", x -> {
            type(x, "n;".repeat(29) + "n");
            same("append() of the last", x.append('n'), 60);
            refusedAsMade("append() of one more", STATE, y -> type(y, "n;".repeat(30)), y -> y.append('n'));
            same("run() of 60", run(x, "n;".repeat(29) + "h5"), 30);
        });
        test(14, "An auction as a text is one or more parts with \";\" between them", x -> {
            same("one part", run(x, "n"), 1);
            same("two parts", run(x, "n;n"), 2);
            same("30 parts", run(x, "n;".repeat(29) + "n"), 30);
            for (String text : new String[] {"", ";", "n;", ";n", "n;;n", "nn", "n;n;"}) {
                refusedAsMade("run() of " + text, ARGUMENT, y -> type(y, text), y -> y.run());
            }
        });
    }

    /** Each is read without an error; those with a letter behind the point are complete. */
    private static void good(String... texts) {
        for (String text : texts) {
            SealedSpots x = new SealedSpots();
            type(x, text);
            same("firstError() of " + text, x.firstError(), text.length());
            same("run() of " + text + " (0: no exception)", Check.kindOf(() -> x.run()), 0);
        }
    }

    private static void unended(String... texts) {
        for (String text : texts) {
            SealedSpots x = new SealedSpots();
            type(x, text);
            same("firstError() of " + text, x.firstError(), text.length());
            same("run() of " + text, Check.kindOf(() -> x.run()), 2);
        }
    }

    /** The last character of each is the first that is an error, whatever follows. */
    private static void wrongAtTheEnd(String... texts) {
        for (String text : texts) {
            SealedSpots x = new SealedSpots();
            type(x, text);
            same("firstError() of " + text, x.firstError(), text.length() - 1);
            same("run() of " + text, Check.kindOf(() -> x.run()), 2);
            type(x, text + ";n");
            same("firstError() of more than " + text, x.firstError(), text.length() - 1);
        }
    }

    private void parts() {
        test(13, "\"b\", a bidder, a spot, both 0 to 5, and an amount, 1 to 99, without leading zeros"
                + " (a bid is sealed)", x -> {
                    good("b001", "b009", "b0010", "b0099", "b551", "b5599", "b0590;b5099");
                    unended("b", "b0", "b5", "b00", "b55");
                    wrongAtTheEnd("b6", "b/", "b06", "b0/", "b000", "b00/", "b00:", "b0010:", "b0010/", "b00100",
                            "b00990", "bb", "b;", "b0;", "b00;", "B", "b001b", "b001:", "b001/");
                    run(x, "b5042");
                    same("the bidder, the spot and the amount", x.sealed(5, 0, 0), 73 * 42 + 30);
                    run(x, "b439");
                    same("an amount of one digit", x.sealed(4, 3, 0), 73 * 9 + 41 + 24 + 3);
                });
        test(13, "\"w\", a bidder and a spot (it is withdrawn)", x -> {
            good("w00", "w05", "w50", "w55", "w00;w11");
            unended("w", "w0", "w5");
            wrongAtTheEnd("w6", "w06", "w/", "w0/", "w000", "w;", "w0;", "W");
            same("run() of a bid and its withdrawal", run(x, "b5010;w50"), 2);
            same("bids", x.count(3), 0);
        });
        test(13, "\"h\" and 1 to 23, without leading zeros (so many hours pass)", x -> {
            good("h1", "h2", "h3", "h9", "h10", "h19", "h20", "h23", "h1;h2;h3;h23");
            unended("h");
            wrongAtTheEnd("h0", "h24", "h29", "h30", "h90", "h:", "h/", "h1:", "h1/", "h2/", "h100", "h190", "h200",
                    "h230", "h;", "hh", "H");
            run(x, "h1");
            same("the hour", x.count(1), 1);
            run(x, "n;h23");
            same("the hour", x.count(1), 23);
            run(x, "n;h10;h9");
            same("the hour", x.count(1), 19);
        });
        test(13, "\"o\" (the bids are opened)", x -> {
            good("o", "o;n;o");
            wrongAtTheEnd("oo", "o0", "on", "O", "o:");
            run(x, "o");
            same("count(2)", x.count(2), 1);
        });
        test(13, "\"f\" and a spot (who got it fishes)", x -> {
            good("f0", "f5", "o;f5");
            unended("f", "o;f");
            wrongAtTheEnd("f6", "f/", "f;", "f00", "ff", "F");
            same("run() of a bid, an opening and two catches", run(x, "b059;o;f5;f5"), 4);
            same("caught", x.spot(5, 5), 45);
        });
        test(13, "\"n\" (the next day)", x -> {
            good("n", "n;n");
            wrongAtTheEnd("nn", "n1", "N", "n:");
            run(x, "n");
            same("days", x.count(0), 2);
        });
    }

    private void syntaxErrors() {
        test(13, "The buffer is read from left to right", x -> {
            type(x, "b0x;y;h0");
            same("the first of three errors", x.firstError(), 2);
            type(x, "xn;o");
            same("an error that right characters follow", x.firstError(), 0);
            type(x, "n;n;!");
            same("an error behind right ones", x.firstError(), 4);
        });
        test(13, "a character is a syntax error if no auction as a text, of any length, begins with the characters"
                + " before it and this character", x -> {
                    type(x, "");
                    same("no character", x.firstError(), 0);
                    type(x, "n;".repeat(30));
                    same("60 of which only longer texts begin", x.firstError(), 60);
                    type(x, "n;".repeat(28) + "n;b0");
                    same("60 and a part that is not ended", x.firstError(), 60);
                    type(x, "n;".repeat(29) + "nn");
                    same("the 60th", x.firstError(), 59);
                    type(x, "n;".repeat(29) + "h2");
                    same("none in 60", x.firstError(), 60);
                });
    }

    private void whatMayCome() {
        test(13, "a character is a syntax error if no auction as a text, of any length, begins with the characters"
                + " before it and this character", x -> {
                    for (String row : MAY_COME) {
                        String before = row.substring(0, row.indexOf(':'));
                        String may = row.substring(row.indexOf(':') + 1);
                        for (char code = 33; code <= 126; code++) {
                            SealedSpots y = new SealedSpots();
                            type(y, before + code + "!");
                            int due = before.length() + (may.indexOf(code) < 0 ? 0 : 1);
                            same("firstError() of " + before + code + "!", y.firstError(), due);
                        }
                    }
                });
    }

    private void undo() {
        test(17, "Each method that is marked \"undoable\" and does not throw an exception saves the state"
                + " from before it", x -> {
                    Consumer<SealedSpots> opened = y -> run(y, "b0030;b1120;h2;o");
                    undoable("price", NEW, y -> y.price(1, 7));
                    undoable("pay", NEW, y -> y.pay(1, 7));
                    undoable("set", NEW, y -> y.set(1, 7));
                    undoable("bid", NEW, y -> y.bid(1, 1, 70));
                    undoable("withdraw", y -> y.bid(1, 1, 70), y -> y.withdraw(1, 1));
                    undoable("pause", NEW, y -> y.pause(7));
                    undoable("open", y -> run(y, "b0030;b1020"), y -> y.open());
                    undoable("fish", opened, y -> y.fish(0));
                    undoable("nextDay", opened, y -> y.nextDay());
                    undoable("goBack", opened.andThen(y -> y.keep()).andThen(y -> y.nextDay()), y -> y.goBack());
                });
        test(17, "(also if it changes nothing)", x -> {
            undoable("price", NEW, y -> y.price(1, 5));
            undoable("set", NEW, y -> y.set(2, 10));
            undoable("pause", y -> y.pause(23), y -> y.pause(1));
            undoable("fish", y -> run(y, "b009;o;" + "f0;".repeat(12) + "f0"), y -> y.fish(0));
            undoable("goBack", y -> y.keep(), y -> y.goBack());
            same("run() of none that is done", run(x, "w00"), 0);
            same("saved states", x.count(14), 1);
        });
        test(17, "saves the state from before it", x -> {
            same("append()", x.append('n'), 1);
            same("firstError()", x.firstError(), 1);
            same("clearBuffer()", x.clearBuffer(), 1);
            same("keep()", x.keep(), 0);
            same("saved states behind calls that are not marked", x.count(14), 0);
            x.price(0, 7);
            x.undo();
            same("saved states behind undo()", x.count(14), 0);
        });
        test(17, "At most 6 states are saved; the oldest one is dropped first.", x -> {
            for (int price = 10; price <= 16; price++) {
                same("saved states", x.count(14), Math.min(price - 10, 6));
                x.price(0, price);
            }
            same("saved states behind seven calls", x.count(14), 6);
            for (int price = 15; price >= 10; price--) {
                same("undo()", x.undo(), price - 10);
                same("the price", x.spot(0, 0), price);
            }
            same("undo() of the oldest one", Check.kindOf(() -> x.undo()), 3);
        });
    }

    private void undoRestores() {
        test(17, "all, also what is counted so far", x -> {
            run(x, "b0030;b1020;b2240;b2340;h4;w23;o;f0;f2");
            x.nextDay();
            x.keep();
            long[] before = new long[14];
            for (int what = 0; what < 14; what++) {
                before[what] = x.count(what);
            }
            x.pay(4, 50);
            run(x, "b3010;b3110;h5;w31;o;f0;n;b5520;h3");
            x.undo();
            x.undo();
            for (int what = 0; what < 14; what++) {
                same("count(" + what + ")", x.count(what), before[what]);
            }
            same("the rank", x.bid(0, 0, 9), 657);
        });
        test(17, "all, also what is counted so far", x -> {
            List<Integer> first = state(make(y -> fullDay(y, 0)));
            List<Integer> second = state(make(TermsSentences::twoDays));
            // The same are only that the bids are opened, so none can be withdrawn, and how many there are.
            same("numbers that differ", differingNumbers(first, second), first.size() - 36 - 14);
            twoDays(x);
            x.goBack();
            isTrue("goBack() restoring all", state(x).equals(first));
            SealedSpots undone = make(TermsSentences::twoDays);
            undone.goBack();
            undone.undo();
            isTrue("undo() restoring all", state(undone).equals(second));
        });
        test(17, "all, also what is counted so far", x -> {
            x.bid(0, 0, 5);
            x.keep();
            x.open();
            x.goBack();
            same("goBack() to bids that are not opened", x.count(2), 0);
            same("the rank", x.bid(1, 0, 5), 365 + 41 + 6);
            x.undo();
            x.undo();
            same("undo() to bids that are opened", x.count(2), 1);
            x.keep();
            x.nextDay();
            x.goBack();
            same("goBack() to bids that are opened", x.count(2), 1);
            same("who got a spot", x.spot(0, 2), 0);
            x.undo();
            same("undo() to bids that are not opened", x.count(2), 0);
            same("the rank", x.bid(1, 0, 5), 365 + 6);
        });
        test(17, "but the buffer, the snapshot and the saved states", x -> {
            x.price(0, 6);
            x.price(0, 7);
            x.price(0, 8);
            x.keep();
            type(x, "n;n");
            same("undo()", x.undo(), 2);
            same("the buffer stays", x.firstError(), 3);
            same("undo()", x.undo(), 1);
            x.goBack();
            same("the snapshot stays", x.spot(0, 0), 8);
            same("the saved states", x.count(14), 2);
            x.undo();
            same("the price before goBack()", x.spot(0, 0), 6);
        });
    }

    /** A day of 36 bids behind six withdrawn ones, opened and fished; no number of it is as on another such day. */
    private static void fullDay(SealedSpots x, int day) {
        for (int bidder = 0; bidder < 6; bidder++) {
            x.pay(bidder, 60 + bidder);
            payFee(x, bidder, bidder, 9 + bidder);
            x.price(bidder, 4 + bidder + 9 * day);
        }
        x.pause(1 + 19 * day);
        for (int i = 0; i < 36; i++) {
            x.bid(i / 6, i % 6, 20 + (i + day) % 31);
            if (i % 2 == 0) {
                x.pause(1);
            }
        }
        x.open();
        for (int spot = 0; spot < 6; spot++) {
            x.fish(spot);
        }
        x.set(0, 3 + day);
        x.set(1, 4 + day);
        x.set(2, 5 + day);
    }

    private static void twoDays(SealedSpots x) {
        fullDay(x, 0);
        x.keep();
        x.nextDay();
        fullDay(x, 1);
    }

    private static int differingNumbers(List<Integer> first, List<Integer> second) {
        int differing = 0;
        for (int i = 0; i < first.size(); i++) {
            differing += first.get(i).equals(second.get(i)) ? 0 : 1;
        }
        return differing;
    }

    private void exceptions() {
        test(17, "A call that throws an exception changes nothing.", x -> {
            Consumer<SealedSpots> day = y -> run(y, "n;b0030;b1020;b2110;h4");
            refused("price", INDEX, day, y -> y.price(6, 9));
            refused("pay", ARGUMENT, day, y -> y.pay(0, 100));
            refused("set", ARGUMENT, day, y -> y.set(0, 21));
            refused("bid", STATE, day, y -> y.bid(0, 0, 31));
            refused("withdraw", STATE, day, y -> y.withdraw(0, 1));
            refused("pause", ARGUMENT, day, y -> y.pause(24));
            refused("open", STATE, day.andThen(y -> y.open()), y -> y.open());
            refused("fish", STATE, day.andThen(y -> y.open()), y -> y.fish(5));
            refused("append", ARGUMENT, day, y -> y.append(32));
            refusedAsMade("append", STATE, day.andThen(y -> type(y, "n;".repeat(30))), y -> y.append('n'));
            refusedAsMade("run", ARGUMENT, day.andThen(y -> type(y, "n;o;")), y -> y.run());
            refusedAsMade("goBack", STATE, day, y -> y.goBack());
            refusedAsMade("undo", STATE, NEW, y -> y.undo());
            refused("spot", ARGUMENT, day, y -> y.spot(0, 6));
            refused("bidder", ARGUMENT, day, y -> y.bidder(0, 6));
            refused("sealed", ARGUMENT, day, y -> y.sealed(0, 0, 5));
            refused("count", ARGUMENT, day, y -> y.count(15));
            refused("setting", INDEX, day, y -> y.setting(3));
            refused("why", ARGUMENT, day, y -> y.why(0, 0, 100));
            refused("worth", ARGUMENT, day, y -> y.worth(7, 0));
            refused("ifOpened", ARGUMENT, day, y -> y.ifOpened(0, 2));
            refused("ifBid", ARGUMENT, day, y -> y.ifBid(0, 0, 100, 0));
            refused("least", INDEX, day, y -> y.least(0, 6));
        });
    }

    private void firstException() {
        test(17, "If several exceptions apply, the one that is named first in the throws clause is thrown.", x -> {
            Consumer<SealedSpots> opened = y -> y.open();
            Consumer<SealedSpots> rich = y -> payUpTo(y, 9999);
            refused("price", INDEX, NEW, y -> y.price(6, 100));
            refused("pay, all three", INDEX, rich, y -> y.pay(6, 100));
            refused("pay, 1 and 3", INDEX, rich, y -> y.pay(-1, 1));
            refused("pay, 2 and 3", ARGUMENT, rich, y -> y.pay(0, 100));
            refused("set", INDEX, NEW, y -> y.set(3, 51));
            refused("bid, all three", INDEX, opened, y -> y.bid(6, 0, 100));
            refused("bid, 1 and 2", INDEX, NEW, y -> y.bid(0, 6, 0));
            refused("bid, 1 and 3", INDEX, opened, y -> y.bid(0, -1, 9));
            refused("bid, 2 and 3", ARGUMENT, opened, y -> y.bid(0, 0, 0));
            refused("withdraw, the bidder", INDEX, opened, y -> y.withdraw(6, 0));
            refused("withdraw, the spot", INDEX, opened, y -> y.withdraw(0, 6));
            refused("fish", INDEX, NEW, y -> y.fish(6));
            refusedAsMade("append", ARGUMENT, y -> type(y, "n;".repeat(30)), y -> y.append(127));
            refused("spot", INDEX, NEW, y -> y.spot(6, 6));
            refused("bidder", INDEX, NEW, y -> y.bidder(6, 6));
            refused("sealed, the bidder", INDEX, NEW, y -> y.sealed(6, 0, 5));
            refused("sealed, the spot", INDEX, NEW, y -> y.sealed(0, 6, 5));
            refused("why, the bidder", INDEX, NEW, y -> y.why(6, 0, 100));
            refused("why, the spot", INDEX, NEW, y -> y.why(0, 6, 100));
            refused("ifOpened", INDEX, NEW, y -> y.ifOpened(6, 2));
            refused("ifBid, the bidder", INDEX, NEW, y -> y.ifBid(6, 0, 100, 2));
            refused("ifBid, the spot", INDEX, NEW, y -> y.ifBid(0, 6, 100, 2));
        });
    }

    /** Fills the purse of bidder 1 until there are so many coins in all. */
    static void payUpTo(SealedSpots x, int coins) {
        int left = coins - x.count(6);
        for (; left > 99; left -= 99) {
            x.pay(1, 99);
        }
        x.pay(1, left);
    }

    private void looks() {
        test(21, "looks; nothing is changed", x -> {
            Consumer<SealedSpots> day = y -> run(y, "n;b0030;b1020;b2110;h4;w21");
            for (int what = 0; what <= 14; what++) {
                int number = what;
                looking("count", day, y -> y.count(number));
                looking("setting", day, y -> y.setting(number % 3));
                looking("spot", day, y -> y.spot(0, number % 6));
                looking("bidder", day, y -> y.bidder(0, number % 6));
                looking("sealed", day, y -> y.sealed(0, 0, number % 5));
                looking("why", day, y -> y.why(number % 6, 0, 20));
            }
        });
        test(25, "what would be; nothing is changed", x -> {
            Consumer<SealedSpots> day = y -> run(y, "n;b0030;b1020;b2110;h4;w21");
            for (Consumer<SealedSpots> made : List.of(day, day.andThen(y -> y.open()))) {
                looking("worth", made, y -> y.worth(0, 0));
                looking("worth", made, y -> y.worth(0, 1));
                looking("ifOpened", made, y -> y.ifOpened(0, 0));
                looking("ifOpened", made, y -> y.ifOpened(0, 1));
                looking("ifBid", made, y -> y.ifBid(0, 0, 9, 0));
                looking("ifBid", made, y -> y.ifBid(3, 3, 9, 1));
                looking("least", made, y -> y.least(1, 0));
                looking("keenest", made, y -> y.keenest());
                looking("chestShare", made, y -> Double.doubleToLongBits(y.chestShare()));
                looking("meanPrice", made, y -> Float.floatToIntBits(y.meanPrice()));
                looking("digest", made, y -> y.digest());
            }
        });
    }

    private void whatWouldBe() {
        test(25, "the purses, prices and bids of now count, whether the bids are opened or not", x -> {
            run(x, "b0060;b1055;b2020;o");
            // Bidder 0 paid 55: it has 45 now, less than its bid.
            same("who would get it now", x.ifOpened(0, 0), 1);
            same("what it would pay", x.ifOpened(0, 1), 20);
            same("the worth", x.worth(6, 0), 50);
            same("the worth without bidder 0", x.worth(0, 1), 50);
            same("keenest()", x.keenest(), 1);
            same("least() of bidder 0", x.least(0, 1), 5);
            same("ifBid() of 45 for spot 1", x.ifBid(0, 1, 45, 0), 1);
            same("ifBid() of 46 for spot 1", x.ifBid(0, 1, 46, 0), NONE);
            x.price(0, 56);
            same("who would get it at the price 56", x.ifOpened(0, 0), NONE);
            x.pay(0, 15);
            same("who would get it with a purse of 60", x.ifOpened(0, 0), 0);
            same("who got it stays", x.spot(0, 2), 0);
            same("what was paid stays", x.spot(0, 3), 55);
            x.nextDay();
            same("who would get it without bids", x.ifOpened(0, 0), NONE);
        });
    }
}

import java.nio.file.Path;
import java.util.ArrayList;
import java.util.List;
import java.util.function.Consumer;
import java.util.function.ToLongFunction;

/** Tests that each stand for a sentence of the document, with its words beside them. */
abstract class Sentences {
    static final Class<?> INDEX = IndexOutOfBoundsException.class;
    static final Class<?> ARGUMENT = IllegalArgumentException.class;
    static final Class<?> STATE = IllegalStateException.class;
    static final int NONE = SealedSpots.NONE;
    static final int HUGE = Integer.MAX_VALUE;
    static final int TINY = Integer.MIN_VALUE;
    /** Behind the last spot or bidder, ahead of the first one, and far away. */
    static final int[] NO_PLACE = {6, -1, HUGE, TINY};
    static final int[] NO_AMOUNT = {0, 100, -1, HUGE, TINY};
    static final Consumer<SealedSpots> NEW = x -> { };

    private static final Check CHECK = new Check();
    private static final List<Document.Quote> QUOTES = new ArrayList<>();

    /** A call with one argument that changes from look to look. */
    interface Call {
        long answer(SealedSpots x, int number);
    }

    abstract void all();

    /** Each test has a new object of its own. */
    static void test(int promise, String words, Consumer<SealedSpots> body) {
        QUOTES.add(new Document.Quote(promise, words));
        CHECK.begin("promise " + promise + ", \"" + words + "\"");
        int before = CHECK.judged();
        try {
            body.accept(new SealedSpots());
        } catch (RuntimeException e) {
            CHECK.isTrue("a test without " + e, false);
        }
        CHECK.isTrue("that the test looks at something", CHECK.judged() > before);
    }

    /** The words of each test must stand in the document, and no sentence of the document may be left out. */
    static void end(Path path) {
        CHECK.begin(path.toString());
        Document document = Document.at(path);
        if (document == null) {
            System.out.println("no document at " + path + ": the words of the tests are not looked up");
        } else {
            for (Document.Quote quote : QUOTES) {
                CHECK.isTrue(quote + " in the document", document.has(quote));
            }
            for (Document.Quote sentence : document.unquoted(QUOTES)) {
                CHECK.isTrue(sentence + " in a test", false);
            }
        }
        CHECK.end();
    }

    // ---- what is judged

    static void same(String call, long got, long due) {
        CHECK.same(call, got, due);
    }

    static void isTrue(String what, boolean holds) {
        CHECK.isTrue(what, holds);
    }

    /** The call must throw just this exception and change nothing, be the saved states few or as many as can be. */
    static void refused(String call, Class<?> due, Consumer<SealedSpots> made, ToLongFunction<SealedSpots> act) {
        refusedAsMade(call, due, made, act);
        refusedAsMade(call + " with a past", due, withPast(made), act);
    }

    static void refusedAsMade(String call, Class<?> due, Consumer<SealedSpots> made,
            ToLongFunction<SealedSpots> act) {
        SealedSpots x = make(made);
        same(call + " (1 to 3: the exceptions)", Check.kindOf(() -> act.applyAsLong(x)), Check.kindOf(due));
        Consumer<SealedSpots> tried = made.andThen(y -> Check.kindOf(() -> act.applyAsLong(y)));
        isTrue(call + " changing nothing", everything(tried).equals(everything(made)));
    }

    static void refusedFor(int[] numbers, String call, Class<?> due, Consumer<SealedSpots> made, Call act) {
        for (int number : numbers) {
            refused(call.replace("#", "" + number), due, made, x -> act.answer(x, number));
        }
    }

    /** The call saves one state, and undo() brings all of it back; of six saved states it drops the oldest. */
    static void undoable(String call, Consumer<SealedSpots> made, ToLongFunction<SealedSpots> act) {
        SealedSpots x = make(made);
        int saved = x.count(14);
        act.applyAsLong(x);
        same("saved states behind " + call, x.count(14), saved + 1);
        same("undo() of " + call, x.undo(), saved);
        Consumer<SealedSpots> undone = made.andThen(y -> {
            act.applyAsLong(y);
            y.undo();
        });
        isTrue("undo() of " + call + " restoring all", everything(undone).equals(everything(made)));
        SealedSpots full = make(withPast(made));
        act.applyAsLong(full);
        same("saved states behind " + call + " with a past", full.count(14), 6);
    }

    /** The look answers the same twice and changes nothing. */
    static void looking(String call, Consumer<SealedSpots> made, ToLongFunction<SealedSpots> look) {
        SealedSpots x = make(made);
        long first = look.applyAsLong(x);
        same(call + " again", look.applyAsLong(x), first);
        isTrue(call + " changing nothing",
                everything(made.andThen(look::applyAsLong)).equals(everything(made)));
    }

    // ---- objects

    static SealedSpots make(Consumer<SealedSpots> made) {
        SealedSpots x = new SealedSpots();
        made.accept(x);
        return x;
    }

    /** Six saved states that differ, a snapshot and a buffer; the state itself is that of a new object. */
    static Consumer<SealedSpots> withPast(Consumer<SealedSpots> made) {
        Consumer<SealedSpots> past = x -> {
            for (int fish = 1; fish <= 6; fish++) {
                x.set(2, fish);
                if (fish == 3) {
                    x.keep();
                }
            }
            x.set(2, 10);
            type(x, "o;n");
        };
        return past.andThen(made);
    }

    /**
     * All that an object tells of its state, of its snapshot and of its saved states. As some of it is told by calls
     * that change the object, it is made anew for each.
     */
    static List<Long> everything(Consumer<SealedSpots> made) {
        List<Long> told = new ArrayList<>();
        told.add(make(made).digest());
        told.add(nextSeal(make(made)));
        SealedSpots kept = make(made);
        if (Check.kindOf(() -> kept.goBack()) == 0) {
            told.add(kept.digest());
            told.add(nextSeal(kept));
        }
        SealedSpots past = make(made);
        for (int left = past.count(14); left > 0; left--) {
            past.undo();
            told.add(past.digest());
            long seal = nextSeal(past);
            told.add(seal);
            if (seal != NONE) {
                past.undo();
            }
        }
        return told;
    }

    /** All that the looks tell of the state, but for how many states are saved. */
    static List<Integer> state(SealedSpots x) {
        List<Integer> told = new ArrayList<>();
        for (int what = 0; what < 14; what++) {
            told.add(x.count(what));
            told.add(x.setting(what % 3));
        }
        for (int i = 0; i < 36; i++) {
            told.add(x.spot(i / 6, i % 6));
            told.add(x.bidder(i / 6, i % 6));
            for (int what = 0; what < 5; what++) {
                told.add(x.sealed(i / 6, i % 6, what));
            }
        }
        return told;
    }

    /** Tells the rank of the next bid, which no look does. */
    private static long nextSeal(SealedSpots x) {
        for (int i = 0; i < 36 && x.count(2) == 0; i++) {
            int amount = Math.max(1, x.spot(i % 6, 0));
            if (x.why(i / 6, i % 6, amount) == 0) {
                return x.bid(i / 6, i % 6, amount);
            }
        }
        return NONE;
    }

    static void type(SealedSpots x, String text) {
        x.clearBuffer();
        for (int i = 0; i < text.length(); i++) {
            x.append(text.charAt(i));
        }
    }

    static int run(SealedSpots x, String text) {
        type(x, text);
        return x.run();
    }

    /** Bidder 5 gets the spot alone and fishes there so often, and the next day comes. */
    static void fishOut(SealedSpots x, int spot, int times) {
        x.bid(5, spot, Math.max(1, x.spot(spot, 0)));
        x.open();
        for (int i = 0; i < times; i++) {
            x.fish(spot);
        }
        x.nextDay();
    }

    /** The bidder seals a bid of 10 for a spot and withdraws it for this fee, up to 23 more than 20. */
    static void payFee(SealedSpots x, int bidder, int spot, int fee) {
        x.set(0, Math.min(fee, 20));
        x.set(1, fee > 20 ? 1 : 0);
        x.bid(bidder, spot, 10);
        if (fee > 20) {
            x.pause(fee - 20);
        }
        x.withdraw(bidder, spot);
    }
}

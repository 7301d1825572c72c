/** Long runs of calls, each answered by the class and by the model of the document. */
public final class ModelTest {
    private static final int RUNS = 400;
    /** The document promises nothing of later calls. */
    private static final int CALLS = 512;
    /** The most of a step: a clearing and a text of 60 characters, a call and a digest. */
    private static final int CALLS_OF_A_STEP = 63;

    private final SealedSpots x = new SealedSpots();
    private final Model model = new Model();
    private final StringBuilder told = new StringBuilder();
    private long seed;
    private int calls;
    private int kind;
    private final int[] a = new int[4];

    private ModelTest(int run) {
        seed = 77777L * run + 5;
    }

    public static void main(String[] args) {
        int wrong = 0;
        long calls = 0;
        for (int run = 1; run <= RUNS && wrong < 3; run++) {
            ModelTest test = new ModelTest(run);
            String fault = test.run(run % 4);
            calls += test.calls;
            if (fault != null) {
                wrong++;
                System.out.println("run " + run + ": " + fault);
            }
        }
        System.out.println(calls + " calls, " + wrong + " wrong runs");
        if (wrong > 0) {
            System.exit(1);
        }
    }

    /** A number from 0 to below the bound, the same in each run of this test. */
    private int below(int bound) {
        seed = seed * 6364136223846793005L + 1442695040888963407L;
        return (int) ((seed >>> 33) % bound);
    }

    private int among(int low, int high) {
        int draw = below(40);
        if (draw == 0) {
            return low - 1 - below(2) * below(1000);
        }
        if (draw == 1) {
            return high + 1 + below(2) * below(1000);
        }
        return low + below(high - low + 1);
    }

    private String run(int style) {
        for (int i = 0; calls + CALLS_OF_A_STEP <= CALLS; i++) {
            if (style == 3 && below(12) == 0) {
                type();
            }
            choose(style);
            long due = outcome(false);
            long got = outcome(true);
            calls++;
            told.append(kind).append('(').append(a[0]).append(", ").append(a[1]).append(", ").append(a[2])
                    .append(", ").append(a[3]).append(") ");
            if (due != got) {
                return told + " answered " + got + ", due is " + due;
            }
            if (style != 0 || i % 5 == 0) {
                calls++;
                if (x.digest() != model.digest()) {
                    return told + " digests differ";
                }
            }
        }
        return null;
    }

    /** Style 0 seals many bids, 1 fishes much, 2 draws evenly, 3 types texts. */
    private void choose(int style) {
        kind = below(30);
        if (style == 0 && below(3) > 0) {
            kind = 3;
        } else if (style == 0 && kind != 6 && kind != 8 && below(2) == 0) {
            kind = 22 + below(5);
        } else if (style == 1 && below(2) == 0) {
            kind = new int[] {3, 3, 3, 3, 6, 7, 7, 7, 7, 8}[below(10)];
        } else if (style == 3 && below(2) == 0) {
            kind = new int[] {9, 9, 11, 11, 12, 15}[below(6)];
        }
        boolean first = kind == 2 || kind == 20;
        a[0] = kind == 9 ? among(33, 126) : kind == 5 ? among(1, 23) : kind == 19 ? among(0, 14)
                : kind == 22 ? among(0, 6) : first ? among(0, 2) : among(0, 5);
        a[1] = kind == 0 ? among(0, below(3) == 0 ? 99 : 12) : kind == 1 ? among(1, 99)
                : kind == 2 ? among(0, a[0] == 0 ? 20 : a[0] == 1 ? 9 : 50)
                : kind == 22 || kind == 23 ? among(0, 1) : among(0, 5);
        a[2] = kind == 18 ? among(0, 4) : below(3) == 0 ? among(1, 99) : among(1, 20);
        a[3] = among(0, 1);
    }

    private void type() {
        calls++;
        x.clearBuffer();
        model.clearBuffer();
        int parts = 1 + below(9);
        StringBuilder text = new StringBuilder();
        for (int i = 0; i < parts; i++) {
            text.append(i == 0 ? "" : ";");
            int part = below(9);
            switch (part) {
                case 0: text.append('w').append(below(6)).append(below(6)); break;
                case 1: text.append('h').append(1 + below(23)); break;
                case 2: case 3: text.append('f').append(below(6)); break;
                case 4: text.append('n'); break;
                case 5: text.append('o'); break;
                default: text.append('b').append(below(6)).append(below(6)).append(1 + below(99));
            }
        }
        if (below(4) == 0) {
            text.setCharAt(below(text.length()), "0123456789bwhofn; ~!".charAt(below(20)));
        }
        for (int i = 0; i < text.length() && i < 60; i++) {
            if (text.charAt(i) > 32) {
                calls++;
                x.append(text.charAt(i));
                model.append(text.charAt(i));
            }
        }
    }

    /** The answer, or what is thrown as a number that no call answers. */
    private long outcome(boolean ofClass) {
        try {
            return ofClass ? ask() : askModel();
        } catch (RuntimeException e) {
            return e.getClass() == IndexOutOfBoundsException.class ? Long.MIN_VALUE
                    : e.getClass() == IllegalArgumentException.class ? Long.MIN_VALUE + 1
                    : e.getClass() == IllegalStateException.class ? Long.MIN_VALUE + 2
                    : ofClass ? Long.MIN_VALUE + 3 : Long.MIN_VALUE + 4;
        }
    }

    private long ask() {
        switch (kind) {
            case 0: return x.price(a[0], a[1]);
            case 1: return x.pay(a[0], a[1]);
            case 2: return x.set(a[0], a[1]);
            case 3: return x.bid(a[0], a[1], a[2]);
            case 4: return x.withdraw(a[0], a[1]);
            case 5: return x.pause(a[0]);
            case 6: return x.open();
            case 7: return x.fish(a[0]);
            case 8: return x.nextDay();
            case 9: return x.append(a[0]);
            case 10: return x.clearBuffer();
            case 11: return x.firstError();
            case 12: return x.run();
            case 13: return x.keep();
            case 14: return x.goBack();
            case 15: return x.undo();
            case 16: return x.spot(a[0], a[1]);
            case 17: return x.bidder(a[0], a[1]);
            case 18: return x.sealed(a[0], a[1], a[2]);
            case 19: return x.count(a[0]);
            case 20: return x.setting(a[0]);
            case 21: return x.why(a[0], a[1], a[2]);
            case 22: return x.worth(a[0], a[1]);
            case 23: return x.ifOpened(a[0], a[1]);
            case 24: return x.ifBid(a[0], a[1], a[2], a[3]);
            case 25: return x.least(a[0], a[1]);
            case 26: return x.keenest();
            case 27: return Double.doubleToLongBits(x.chestShare());
            case 28: return Float.floatToIntBits(x.meanPrice());
            default: return x.digest();
        }
    }

    private long askModel() {
        switch (kind) {
            case 0: return model.price(a[0], a[1]);
            case 1: return model.pay(a[0], a[1]);
            case 2: return model.set(a[0], a[1]);
            case 3: return model.bid(a[0], a[1], a[2]);
            case 4: return model.withdraw(a[0], a[1]);
            case 5: return model.pause(a[0]);
            case 6: return model.open();
            case 7: return model.fish(a[0]);
            case 8: return model.nextDay();
            case 9: return model.append(a[0]);
            case 10: return model.clearBuffer();
            case 11: return model.firstError();
            case 12: return model.run();
            case 13: return model.keep();
            case 14: return model.goBack();
            case 15: return model.undo();
            case 16: return model.spot(a[0], a[1]);
            case 17: return model.bidder(a[0], a[1]);
            case 18: return model.sealed(a[0], a[1], a[2]);
            case 19: return model.count(a[0]);
            case 20: return model.setting(a[0]);
            case 21: return model.why(a[0], a[1], a[2]);
            case 22: return model.worth(a[0], a[1]);
            case 23: return model.ifOpened(a[0], a[1]);
            case 24: return model.ifBid(a[0], a[1], a[2], a[3]);
            case 25: return model.least(a[0], a[1]);
            case 26: return model.keenest();
            case 27: return Double.doubleToLongBits(model.chestShare());
            case 28: return Float.floatToIntBits(model.meanPrice());
            default: return model.digest();
        }
    }
}

/** Counts the answers that are due and those that are not. */
final class Check {
    interface Call {
        long answer();
    }

    private String test = "";
    private int right;
    private int wrong;

    /** What is judged from here on is told as of this test. */
    void begin(String name) {
        test = name + ": ";
    }

    int judged() {
        return right + wrong;
    }

    void same(String call, long got, long due) {
        judge(got == due, call + " answered " + got + ", due is " + due);
    }

    void isTrue(String what, boolean holds) {
        judge(holds, what + " does not hold");
    }

    /** The call must throw just this exception and change nothing that the object tells. */
    void throwing(SealedSpots x, String call, Class<?> due, Call made) {
        long before = x.digest();
        same(call, kindOf(made), kindOf(due));
        same("digest() behind " + call, x.digest(), before);
    }

    /** 0 for an answer, 1 to 3 for the exceptions of the document in the order of their clauses, 4 for any other. */
    static int kindOf(Call made) {
        try {
            made.answer();
            return 0;
        } catch (RuntimeException e) {
            return kindOf(e.getClass());
        }
    }

    static int kindOf(Class<?> exception) {
        if (exception == IndexOutOfBoundsException.class) {
            return 1;
        }
        if (exception == IllegalArgumentException.class) {
            return 2;
        }
        return exception == IllegalStateException.class ? 3 : 4;
    }

    private void judge(boolean holds, String told) {
        if (holds) {
            right++;
        } else {
            wrong++;
            if (wrong <= 40) {
                System.out.println(test + told);
            }
        }
    }

    void end() {
        System.out.println(right + " answers as due, " + wrong + " not");
        if (wrong > 0 || right == 0) {
            System.exit(1);
        }
    }
}

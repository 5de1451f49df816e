/** Counts and prints the calls whose answer is not the one that is due. */
final class Due {
    interface Call {
        long answer();
    }

    private int wrong;

    void is(String call, long want, Call made) {
        try {
            long got = made.answer();
            if (got != want) {
                tell(call + " answered " + got + ", due is " + want);
            }
        } catch (RuntimeException e) {
            tell(call + " threw " + e + ", due is " + want);
        }
    }

    void throwing(String call, Class<? extends RuntimeException> want, Call made) {
        try {
            tell(call + " answered " + made.answer() + ", due is " + want.getName());
        } catch (RuntimeException e) {
            if (e.getClass() != want) {
                tell(call + " threw " + e + ", due is " + want.getName());
            }
        }
    }

    /** The memory tells just what it told before: refused calls have changed nothing. */
    void unchanged(BankTimes x, String before) {
        String now = Seen.of(x);
        holds("nothing is changed, " + before + "and " + now, now.equals(before));
    }

    void holds(String what, boolean held) {
        if (!held) {
            tell(what + " does not hold");
        }
    }

    void tell(String fault) {
        wrong++;
        if (wrong <= 50) {
            System.out.println(fault);
        }
    }

    void end() {
        if (wrong > 0) {
            System.out.println(wrong + " answers are not as due");
            System.exit(1);
        }
    }
}

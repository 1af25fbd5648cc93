/** Counts and tells what is not as due. */
final class Check {
    interface Call {
        Object run();
    }

    private final String name;
    private int wrong = 0;
    private int done = 0;

    Check(String name) {
        this.name = name;
    }

    void same(String what, Object got, Object due) {
        done++;
        if (!due.equals(got)) {
            wrong++;
            System.out.println(name + ": " + what + " answered " + got + ", due is " + due);
        }
    }

    void isTrue(String what, boolean got) {
        same(what, got, true);
    }

    /** The very class is due: a class below it is thrown by the machine, not by the program. */
    void fails(String what, Class<? extends RuntimeException> due, Call call) {
        Object got;
        try {
            got = call.run();
        } catch (RuntimeException e) {
            got = e.getClass();
        }
        same(what, got, due);
    }

    void noPlace(String what, Call call) {
        fails(what, IndexOutOfBoundsException.class, call);
    }

    void noArgument(String what, Call call) {
        fails(what, IllegalArgumentException.class, call);
    }

    void noState(String what, Call call) {
        fails(what, IllegalStateException.class, call);
    }

    void end() {
        if (wrong > 0) {
            System.out.println(name + ": " + wrong + " of " + done + " checks are wrong");
            System.exit(1);
        }
        System.out.println(name + ": " + done + " checks are right");
    }
}

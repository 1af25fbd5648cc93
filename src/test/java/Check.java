/** Counts and tells what is not as due. */
final class Check {
    interface Call {
        Object run();
    }

    private final String name;
    private String about = "";
    private int wrong = 0;
    private int done = 0;

    Check(String name) {
        this.name = name;
    }

    /** Names the sentence of a promise that the next checks are for; it must stand there word for word. */
    void promise(int number, String sentence) {
        about = "promise " + number + ", '" + sentence + "': ";
        isTrue("the document says that", Document.ofPromise(number).contains(sentence));
    }

    /** The same for a part of the description; part 0 is what stands ahead of part 1. */
    void part(int number, String sentence) {
        about = "part " + number + ", '" + sentence + "': ";
        isTrue("the document says that", Document.ofPart(number).contains(sentence));
    }

    void same(String what, Object got, Object due) {
        done++;
        if (!due.equals(got)) {
            wrong++;
            System.out.println(name + ": " + about + what + " answered " + got + ", due is " + due);
        }
    }

    void isTrue(String what, boolean got) {
        same(what, got, true);
    }

    /** The very class is due: a class below it is thrown by the machine, not by the program. */
    void fails(String what, Class<? extends RuntimeException> due, Call call) {
        Object got;
        try {
            got = call.run();
        } catch (RuntimeException e) {
            got = e.getClass();
        }
        same(what, got, due);
    }

    void noPlace(String what, Call call) {
        fails(what, IndexOutOfBoundsException.class, call);
    }

    void noArgument(String what, Call call) {
        fails(what, IllegalArgumentException.class, call);
    }

    void noState(String what, Call call) {
        fails(what, IllegalStateException.class, call);
    }

    /** The same, and the call leaves all as it was. */
    void noPlace(String what, Wavesale w, Call call) {
        long before = w.digest();
        noPlace(what, call);
        same("the digest behind " + what, w.digest(), before);
    }

    void noArgument(String what, Wavesale w, Call call) {
        long before = w.digest();
        noArgument(what, call);
        same("the digest behind " + what, w.digest(), before);
    }

    void noState(String what, Wavesale w, Call call) {
        long before = w.digest();
        noState(what, call);
        same("the digest behind " + what, w.digest(), before);
    }

    void end() {
        if (wrong > 0) {
            System.out.println(name + ": " + wrong + " of " + done + " checks are wrong");
            System.exit(1);
        }
        System.out.println(name + ": " + done + " checks are right");
    }
}

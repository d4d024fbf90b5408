/** What the tests share: they print each answer that is not due, and end with exit code 1 if there was one. */
final class Check {
    private int wrong = 0;
    private final String name;
    private String sentence = "";

    Check(String name) {
        this.name = name;
    }

    interface Call {
        void make();
    }

    /** The document's sentence that the checks from here on hold the class to. */
    void sentence(String text) {
        sentence = " [" + text + "]";
    }

    void due(String what, long want, long got) {
        if (want != got) {
            fail(what + " answered " + got + ", due is " + want);
        }
    }

    void due(String what, double want, double got) {
        if (!(want == got)) {
            fail(what + " answered " + got + ", due is " + want);
        }
    }

    void isTrue(String what, boolean holds) {
        if (!holds) {
            fail(what + " does not hold");
        }
    }

    /** The class must be the very one, so that a machine's own exception of a class below it is found. */
    void isThrown(String what, Class<? extends RuntimeException> want, Call call) {
        try {
            call.make();
        } catch (RuntimeException thrown) {
            if (thrown.getClass() != want) {
                fail(what + " throws " + thrown.getClass().getName() + ", due is " + want.getName());
            }
            return;
        }
        fail(what + " throws nothing, due is " + want.getName());
    }

    /** The call throws the exception, and whatever the calls tell and do then is as it would be without it. */
    void refused(String what, Setup state, Class<? extends RuntimeException> want, Setup.Step call) {
        isThrown(what, want, () -> call.on(state.make()));
        unchanged(what, state, field -> swallow(() -> call.on(field)));
    }

    void unchanged(String what, Setup state, Setup.Step call) {
        String difference = Everything.difference(state.told(), state.then(call).told());
        if (difference != null) {
            fail(state.text() + ", after " + what + ": " + difference);
        }
    }

    private static void swallow(Call call) {
        try {
            call.make();
        } catch (RuntimeException thrown) {
            return;
        }
    }

    void fail(String text) {
        wrong++;
        if (wrong <= 50) {
            System.out.println(name + sentence + ": " + text);
        }
    }

    void end() {
        if (wrong > 0) {
            System.out.println(name + ": " + wrong + " wrong");
            System.exit(1);
        }
    }
}

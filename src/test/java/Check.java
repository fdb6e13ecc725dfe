/** Compares answers with those that are due, and ends a test with exit code 1 if one was wrong. */
final class Check {
    interface Call {
        void run();
    }

    private static int wrong;
    private static int checked;
    /** What the running test stands for, if it says so. */
    private static String about = "";

    private Check() {
    }

    static void equal(String what, long due, long answered) {
        checked++;
        if (due != answered) {
            report(what, Long.toString(due), Long.toString(answered));
        }
    }

    static void equal(String what, boolean due, boolean answered) {
        equal(what, due ? 1 : 0, answered ? 1 : 0);
    }

    static void equal(String what, double due, double answered) {
        checked++;
        if (Double.compare(due, answered) != 0) {
            report(what, Double.toString(due), Double.toString(answered));
        }
    }

    static void equal(String what, String due, String answered) {
        checked++;
        if (!due.equals(answered)) {
            report(what, due, answered);
        }
    }

    /** The call throws an exception of just this class, and nothing that can be asked is different then. */
    static void refuses(TrainDecoder x, String what, Class<? extends RuntimeException> due, Call call) {
        String before = Ask.all(x);
        String thrown = "nothing";
        try {
            call.run();
        } catch (RuntimeException e) {
            thrown = e.getClass().getName();
        }
        equal(what + " throws", due.getName(), thrown);
        equal(what + " changes nothing", before, Ask.all(x));
    }

    /** The call throws nothing. */
    static void takes(String what, Call call) {
        String thrown = "nothing";
        try {
            call.run();
        } catch (RuntimeException e) {
            thrown = e.getClass().getName();
        }
        equal(what + " throws", "nothing", thrown);
    }

    /** A test that stands for something by itself: it must compare an answer, and throw nothing. */
    static void run(String meaning, Call test) {
        int before = checked;
        about = meaning + " | ";
        takes("the test", test);
        equal("it compares answers", true, checked > before + 1);
        about = "";
    }

    static void outside(TrainDecoder x, String what, Call call) {
        refuses(x, what, IndexOutOfBoundsException.class, call);
    }

    static void unfit(TrainDecoder x, String what, Call call) {
        refuses(x, what, IllegalArgumentException.class, call);
    }

    static void untimely(TrainDecoder x, String what, Call call) {
        refuses(x, what, IllegalStateException.class, call);
    }

    static void end() {
        System.out.println(checked + " answers, " + wrong + " of them wrong");
        if (wrong != 0 || checked == 0) {
            System.exit(1);
        }
    }

    private static void report(String what, String due, String answered) {
        wrong++;
        if (wrong <= 20) {
            System.out.println(about + what + ": due is " + due + ", answered was " + answered);
        }
    }
}

/** What the tests share: it prints each answer that is not the one that is due. */
final class Check {
    interface Call {
        long answer();
    }

    private static int wrong = 0;
    private static String sentence = "";

    private Check() {
    }

    /** What is wrong from now on is told with this sentence of the document. */
    static void isOf(String words) {
        sentence = words;
    }

    /** Numbers that are not least to most: next to both ends, far away, and such as a narrower type would cut. */
    static int[] outside(int least, int most) {
        return new int[] {least - 1, most + 1, least - 256, least + 256, least + 65536,
            Integer.MIN_VALUE, Integer.MIN_VALUE + least, Integer.MAX_VALUE};
    }

    static void same(String what, long got, long due) {
        if (got != due) {
            tellWrong(what + " answered " + got + ", due is " + due);
        }
    }

    static void sameDouble(String what, double got, double due) {
        if (got != due) {
            tellWrong(what + " answered " + got + ", due is " + due);
        }
    }

    static void isTrue(String what, boolean holds) {
        if (!holds) {
            tellWrong(what + " does not hold");
        }
    }

    /** The call throws exactly this exception, and the object's checksum is the same behind it. */
    static void refused(MuffledTolls x, String what, Class<?> due, Call call) {
        long before = x.digest();
        String got = outcome(call);
        if (!got.equals(due.getName())) {
            tellWrong(what + " gave " + got + ", due is " + due.getName());
        }
        same("digest() behind " + what, x.digest(), before);
    }

    static void noIndex(MuffledTolls x, String what, Call call) {
        refused(x, what, IndexOutOfBoundsException.class, call);
    }

    static void noArgument(MuffledTolls x, String what, Call call) {
        refused(x, what, IllegalArgumentException.class, call);
    }

    static void noState(MuffledTolls x, String what, Call call) {
        refused(x, what, IllegalStateException.class, call);
    }

    /** The answer as a text, or the name of the exception. */
    static String outcome(Call call) {
        try {
            return Long.toString(call.answer());
        } catch (RuntimeException e) {
            return e.getClass().getName();
        }
    }

    static void tellWrong(String text) {
        wrong++;
        if (wrong <= 40) {
            System.out.println(sentence.isEmpty() ? text : text + " [" + sentence + "]");
        }
    }

    static void finish() {
        System.out.println(wrong == 0 ? "all answers are as due" : wrong + " answers are not as due");
        if (wrong != 0) {
            System.exit(1);
        }
    }
}

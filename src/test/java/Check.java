import java.util.NoSuchElementException;

/** What the tests share: answers compared, and exceptions told by name. */
final class Check {
    static final String NO_SUCH = "NoSuchElementException";
    static final String ILLEGAL = "IllegalArgumentException";

    private static int wrong = 0;

    interface Call {
        Object answer();
    }

    private Check() {
    }

    /** An exception counts as the answer of its simple name. */
    static String told(Call call) {
        try {
            return String.valueOf(call.answer());
        } catch (NoSuchElementException e) {
            return e.getClass() == NoSuchElementException.class ? NO_SUCH : "unwanted " + e;
        } catch (IllegalArgumentException e) {
            return e.getClass() == IllegalArgumentException.class ? ILLEGAL : "unwanted " + e;
        } catch (RuntimeException e) {
            return "unwanted " + e;
        }
    }

    static void due(String what, Object want, Call call) {
        String got = told(call);
        if (!got.equals(String.valueOf(want))) {
            wrong++;
            System.out.println(what + ": answered " + got + ", due is " + want);
        }
    }

    /** All answers of a row of calls at once, in one line. */
    static void row(String what, String want, Call... calls) {
        StringBuilder got = new StringBuilder();
        for (Call call : calls) {
            got.append(got.length() == 0 ? "" : " ").append(told(call));
        }
        due(what, want, got::toString);
    }

    static void noSuch(String what, Call call) {
        due(what, NO_SUCH, call);
    }

    static void illegal(String what, Call call) {
        due(what, ILLEGAL, call);
    }

    static boolean isClean() {
        return wrong == 0;
    }

    static void end() {
        System.out.println(wrong == 0 ? "all as due" : wrong + " not as due");
        if (wrong != 0) {
            System.exit(1);
        }
    }
}

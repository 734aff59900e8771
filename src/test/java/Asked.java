import java.lang.reflect.Method;
import java.util.HashMap;
import java.util.Map;

/** A LikeTales that is told its calls as texts, "tie 0 1 0 1 -1 -1", and that counts them. */
final class Asked {
    static final int NONE = LikeTales.NONE, UNKNOWN = LikeTales.UNKNOWN, OUTSIDE = LikeTales.OUTSIDE;
    static final int STATE = LikeTales.STATE, FULL = LikeTales.FULL, NO = LikeTales.NO;
    // The document promises nothing of what later calls answer.
    static final int MOST_CALLS = 512;
    private static final Map<String, Method> CALLS = calls();
    static int wrong = 0;
    private final LikeTales tales = new LikeTales();
    private int count = 0;

    private static Map<String, Method> calls() {
        Map<String, Method> found = new HashMap<>();
        for (Method m : LikeTales.class.getDeclaredMethods()) {
            found.put(m.getName(), m);
        }
        return found;
    }

    /** Makes one call, told as a text; a boolean is told as 1 or 0. */
    int ask(String text) {
        count++;
        if (count > MOST_CALLS) {
            throw new IllegalStateException("a test asks an object too often");
        }
        String[] words = text.trim().split("\\s+");
        Method method = CALLS.get(words[0]);
        Object[] told = new Object[words.length - 1];
        for (int i = 0; i < told.length; i++) {
            int v = Integer.parseInt(words[i + 1]);
            boolean isFlag = method.getParameterTypes()[i] == boolean.class;
            told[i] = isFlag ? (Object) (v == 1) : (Object) v;
        }
        try {
            return (Integer) method.invoke(tales, told);
        } catch (ReflectiveOperationException e) {
            throw new IllegalStateException(text, e);
        }
    }

    /** Makes calls, with commas between them, none of which may be refused. */
    Asked tell(String text) {
        for (String one : text.split(",")) {
            int got = ask(one);
            check(got >= 0 || got == NONE, one.trim() + " is told in vain: " + got);
        }
        return this;
    }

    /** Makes one call, whose answer is due. */
    void due(String text, int want) {
        int got = ask(text);
        check(got == want, text + " answered " + got + ", due is " + want);
    }

    /** Makes the same call with numbers from 0 on at its end, whose answers are due. */
    void dues(String text, int... wants) {
        for (int i = 0; i < wants.length; i++) {
            due(text + " " + i, wants[i]);
        }
    }

    int callsMade() {
        return count;
    }

    static void check(boolean holds, String what) {
        if (!holds) {
            wrong++;
            StackTraceElement[] trace = new Throwable().getStackTrace();
            int at = 0;
            while (at < trace.length - 1 && trace[at].getClassName().equals("Asked")) {
                at++;
            }
            System.out.println(trace[at].getMethodName() + ", line " + trace[at].getLineNumber() + ": " + what);
        }
    }

    static void end(String name) {
        System.out.println(wrong == 0 ? name + ": all answers are as due" : wrong + " answers are not as due");
        if (wrong != 0) {
            System.exit(1);
        }
    }
}

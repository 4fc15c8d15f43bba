import java.lang.reflect.InvocationTargetException;
import java.lang.reflect.Method;
import java.lang.reflect.Modifier;
import java.util.ArrayList;
import java.util.List;
import java.util.Random;

/**
 * No call throws, for any numbers in any state: every call of the face with edges of int and long in every place,
 * on an empty object, on a busy one and on a full one. What is refused gives NONE or false.
 */
public final class ExtremeTest {
    private static final Check CHECK = new Check();
    private static final int[] INTS = {Integer.MIN_VALUE, Integer.MIN_VALUE + 1, -65536, -1000, -61, -9, -8, -2, -1, 0, 1, 2, 3, 4, 5, 6, 7,
        8, 9, 15, 16, 17, 31, 32, 59, 60, 61, 63, 64, 99, 100, 255, 256, 300, 301, 899, 900, 901, 998, 999, 1000, 9979, 9980, 9981, 9999,
        10000, 65535, 65536, 999999, 1000000, Integer.MAX_VALUE - 1, Integer.MAX_VALUE};
    private static final long[] LONGS = {Long.MIN_VALUE, Integer.MIN_VALUE, -129, -128, -1, 0, 1, 127, 128, 32768, 999999, 1000000,
        Integer.MAX_VALUE, 1L << 31, Long.MAX_VALUE};
    /** Each is followed by two that ask, so that an object has fewer than 512. */
    private static final int CALLS = 140;
    private static final int RUNS = 1200;

    private final Random dice;
    private final OathTill x = new OathTill();

    private ExtremeTest(int run) {
        dice = new Random(run);
    }

    public static void main(String[] args) throws Exception {
        List<Method> face = new ArrayList<>();
        for (Method m : OathTill.class.getDeclaredMethods()) {
            if (Modifier.isPublic(m.getModifiers())) {
                face.add(m);
            }
        }
        face.sort((a, b) -> a.getName().compareTo(b.getName()));
        CHECK.is("calls of the face", face.size(), 57);
        for (int run = 0; run < RUNS; run++) {
            new ExtremeTest(run).go(face, run % 4);
        }
        CHECK.end();
    }

    private void go(List<Method> face, int state) throws Exception {
        if (state > 0) {
            Check.court(x, "place la at 0;place lb at 60;place lc at 60;place ld at 1;place le at 30;person a purse 999;person b purse 0;"
                + "person c purse 999 child;person d purse 0 bishop;person e purse 9;person f purse 500;twins a b;twins e f;knows a c;"
                + "was a in la hour 0;was f in le hour 7;");
        }
        if (state > 1) {
            Check.trials(x, "loop 99;loop 99;loop 99;any d says a;any f says a;recant d;find a in lb hour 3;end;end;end;");
            x.tray(0, 0, 60);
            x.tray(1, 3, 60);
            x.live(1);
        }
        if (state > 2) {
            for (int i = 0; i < 16; i++) {
                x.swear(3, i / 8, i % 5, i % 8);
            }
            x.mark();
            x.mark();
            x.mark();
        }
        for (int i = 0; i < CALLS; i++) {
            one(face.get(dice.nextInt(face.size())));
        }
    }

    private Object number(Class<?> type) {
        if (type == boolean.class) {
            return dice.nextBoolean();
        }
        if (type == long.class) {
            return LONGS[dice.nextInt(LONGS.length)];
        }
        // small ones more often, so that calls are taken, too
        return dice.nextInt(3) == 0 ? INTS[dice.nextInt(INTS.length)] : dice.nextInt(7) - 1;
    }

    private void one(Method m) throws Exception {
        Object[] numbers = new Object[m.getParameterCount()];
        StringBuilder call = new StringBuilder(m.getName());
        for (int i = 0; i < numbers.length; i++) {
            numbers[i] = number(m.getParameterTypes()[i]);
            call.append(' ').append(numbers[i]);
        }
        Object answer = null;
        try {
            answer = m.invoke(x, numbers);
        } catch (InvocationTargetException thrown) {
            CHECK.is(call + " throws " + thrown.getCause(), 1, 0);
            return;
        }
        int status = x.status();
        CHECK.is(call + " has a status", status >= 0 && status <= 9, true);
        CHECK.is("the bottom is above 0", x.bottom() > 0, true);
        boolean asked = !"status top bottom feed fault".contains(m.getName());
        if (asked && answer instanceof Boolean) {
            CHECK.is(call.toString(), (Boolean) answer, status == 0);
        } else if (asked && status != 0) {
            CHECK.is(call.toString(), ((Number) answer).longValue(), -1);
        } else if (asked && !m.getName().equals("read")) {
            CHECK.is(call + " is not below 0", ((Number) answer).longValue() >= 0, true);
        }
    }
}

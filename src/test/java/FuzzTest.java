import java.lang.reflect.InvocationTargetException;
import java.lang.reflect.Method;
import java.lang.reflect.Modifier;
import java.util.Arrays;
import java.util.Comparator;
import java.util.Random;

/** Any numbers in any state: a call answers, or throws exactly what the face says that it may. */
public final class FuzzTest {
    private static final int[] NUMBERS = {Integer.MIN_VALUE, Integer.MIN_VALUE + 1, -1000, -61, -21, -3, -2,
        -1, 0, 0, 0, 1, 1, 1, 2, 2, 3, 4, 5, 6, 7, 8, 9, 10, 11, 14, 15, 19, 20, 21, 59, 60, 61, 699, 700, 701,
        999, 1000, Integer.MAX_VALUE - 1, Integer.MAX_VALUE};
    private static final String[] PARTS = {"lean", "seen", "faces", "here", "step", "0", "1", "2", "7", "9999",
        "(lean-5)", "(not here)", "(1<step)", "(0-9999*9999*9999)"};
    private static final String[] SIGNS = {"+", "-", "*", "/", " and ", " or "};
    private static final Random CHANCE = new Random(20261118);
    private static int wrong;

    private static int any(int n) {
        return CHANCE.nextInt(n);
    }

    private static String rule(String name, String own) {
        StringBuilder s = new StringBuilder(name).append(' ').append(own);
        for (int i = any(9); i > 0; i--) {
            s.append(SIGNS[any(SIGNS.length)]).append(PARTS[any(PARTS.length)]);
        }
        return s.append(';').toString();
    }

    private static String text() {
        int sides = 2 + any(7);
        StringBuilder s = new StringBuilder("sides " + sides + ";");
        if (any(3) == 0) {
            s.append(rule("turns", "spin"));
        }
        if (any(3) == 0) {
            s.append(rule("goes", "flow"));
        }
        int reaches = any(4) == 0 ? 9 : any(10);
        for (int i = 0; i < reaches; i++) {
            s.append("reach ").append(any(4)).append(' ').append(any(8)).append(';');
        }
        int judges = any(4) == 0 ? 8 : any(9);
        for (int i = 0; i < judges; i++) {
            s.append(any(3) == 0 ? "bigot " : "judge ").append(any(sides)).append(' ').append(any(10));
            s.append(' ').append(any(2) == 0 ? 0 : any(21)).append(';');
        }
        for (int i = any(4) == 0 ? 1 + any(3) : 0; i > 0; i--) {
            s.setCharAt(any(s.length()), (char) (any(2) == 0 ? any(256) : "not((((( )9;".charAt(any(12))));
        }
        return s.toString();
    }

    private static void tell(RoundCoracles x, String text) {
        x.gorge(0);
        int length = Math.min(700, text.length());
        for (int i = 0; i < length; i += 20) {
            int[] five = new int[5];
            for (int k = i; k < i + 20; k++) {
                five[(k - i) / 4] = five[(k - i) / 4] << 8 | (k < length ? text.charAt(k) : ' ');
            }
            x.feed(five[0], five[1], five[2], five[3], five[4]);
        }
        x.gorge(length);
    }

    private static void call(RoundCoracles x, Method method, String text) {
        Object[] arguments = new Object[method.getParameterCount()];
        for (int i = 0; i < arguments.length; i++) {
            arguments[i] = NUMBERS[any(any(3) == 0 ? NUMBERS.length : NUMBERS.length - 10)];
        }
        try {
            method.invoke(x, arguments);
        } catch (InvocationTargetException e) {
            Class<?> thrown = e.getCause().getClass();
            if (!Arrays.asList(method.getExceptionTypes()).contains(thrown)) {
                wrong++;
                System.out.println(method.getName() + Arrays.toString(arguments) + " threw " + e.getCause()
                        + " of '" + text + "'");
            }
        } catch (IllegalAccessException e) {
            throw new IllegalStateException(e);
        }
    }

    private static Method[] face() {
        return Arrays.stream(RoundCoracles.class.getDeclaredMethods())
                .filter(m -> Modifier.isPublic(m.getModifiers()))
                .sorted(Comparator.comparing(Method::getName)).toArray(Method[]::new);
    }

    public static void main(String[] args) {
        Method[] face = face();
        for (int run = 0; run < 1500 && wrong < 20; run++) {
            RoundCoracles x = new RoundCoracles();
            String text = "";
            for (int i = 0; i < 480; i++) {
                if (i == 0 && any(20) > 0 || any(300) == 0) {
                    text = text();
                    tell(x, text);
                }
                if (any(12) == 0) {
                    x.steps(1 + any(4));
                }
                Method method = face[any(face.length)];
                if (!method.getName().equals("gorge") || any(20) == 0) {
                    call(x, method, text);
                }
            }
        }
        System.out.println(wrong == 0 ? "no call throws what it may not" : wrong + " calls threw");
        System.exit(wrong == 0 ? 0 : 1);
    }
}

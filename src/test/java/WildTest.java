import java.lang.reflect.InvocationTargetException;
import java.lang.reflect.Method;
import java.lang.reflect.Modifier;
import java.util.ArrayList;
import java.util.Arrays;
import java.util.List;
import java.util.Random;

/** Wild arguments and wild bytes in every state: a call throws by the document's word, or not at all. */
public final class WildTest {
    private static final int[] EDGES = {-1, 0, 1, 2, 3, 9, 10, 11, 12, 16, 20, 29, 30, 96, 100, 150, 500, 600, 9999, 10000,
        Integer.MAX_VALUE, Integer.MIN_VALUE, Integer.MIN_VALUE + 1, Integer.MAX_VALUE - 1};
    private static final String[] WORDS = {"house ", "felt ", "nap ", "wink ", "cup ", "flick ", "back ", "damp ", "shake", "day",
        "again ", "least", "most", "press", "size", "under", "shots", "cell", "coins", "[", "]", "(", ")", ",", ";", ";", ";", ";",
        "+", "-", "*", "/", " ", "0 ", "1 ", "2 ", "9", "30", "999", "12345678901234567890", "\u00ff", "\u0080", "\u0000", "A"};
    private static final String[] GOOD = {"house 5;house 99;felt 7;wink 0 1 0;wink 1 2 0;wink 1 3 6;cup 5 9;",
        "house 1;wink 0 1 3;wink 0 1 3;wink 0 1 3;wink 0 1 2;wink 0 1 1;wink 0 1 0;wink 0 1 0;wink 0 1 11;wink 0 1 10;wink 0 1 9;cup 0 1;cup 4 2;cup 7 3;cup 9 99;",
        "flick 0 3;again 30[shake;day;back 1 2;];", "press*press-size", "1 2;3 4;9 0;"};

    private final Random random;
    private final WinkBank bank = new WinkBank();

    private WildTest(long seed) {
        random = new Random(seed);
    }

    public static void main(String[] args) throws Exception {
        List<Method> face = new ArrayList<>();
        for (Method m : WinkBank.class.getDeclaredMethods()) {
            if (Modifier.isPublic(m.getModifiers())) {
                face.add(m);
            }
        }
        face.sort((a, b) -> a.getName().compareTo(b.getName()));
        for (int seed = 0; seed < 400; seed++) {
            new WildTest(seed).run(face);
        }
        Check.done();
    }

    private void run(List<Method> face) throws Exception {
        for (int i = 0; i < 500; i++) {
            if (random.nextInt(8) == 0) {
                wildText();
            }
            Method m = face.get(random.nextInt(face.size()));
            Object[] args = new Object[m.getParameterCount()];
            for (int k = 0; k < args.length; k++) {
                int kind = random.nextInt(10);
                args[k] = kind < 6 ? random.nextInt(4) : kind < 9 ? EDGES[random.nextInt(EDGES.length)] : random.nextInt();
            }
            call(m, args);
        }
    }

    private void wildText() {
        String text = random.nextInt(2) == 0 ? GOOD[random.nextInt(GOOD.length)] : "";
        for (int k = random.nextInt(3) * random.nextInt(20); k > 0; k--) {
            String word = WORDS[random.nextInt(WORDS.length)];
            text = random.nextInt(9) == 0 ? word + text : text + word;
        }
        Check.feed(bank, text);
        int n = Math.min(Check.bytes(text).length, bank.count(1));
        int which = random.nextInt(5);
        try {
            int answer = which == 0 ? bank.law(n) : which == 1 ? bank.play(n) : which == 2 ? bank.book(n) : bank.room(n);
            Check.due("fault told", bank.fault() >= 0 && bank.fault() <= n ? 1 : 0, answer < 0 && answer != -20 ? 1 : 0);
        } catch (IllegalArgumentException e) {
            Check.due("too long a text", n > 100 ? 1 : 0, 1);
        }
    }

    private void call(Method m, Object[] args) throws Exception {
        Check.checked++;
        try {
            m.invoke(bank, args);
        } catch (InvocationTargetException e) {
            boolean named = Arrays.asList(m.getExceptionTypes()).contains(e.getCause().getClass());
            if (!named) {
                Check.wrong++;
                System.out.println(m.getName() + Arrays.toString(args) + " threw " + e.getCause());
            }
        }
    }
}

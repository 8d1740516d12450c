import java.lang.reflect.InvocationTargetException;
import java.lang.reflect.Method;
import java.lang.reflect.Modifier;
import java.util.ArrayList;
import java.util.Arrays;
import java.util.List;
import java.util.Random;

/** Random runs of calls, each answered by WinkBank and by NaiveBank: both must say the same. */
public final class ModelTest {
    private static final String[] TEXTS = {"room", "law", "play", "book"};
    private final Random random;
    private final WinkBank bank = new WinkBank();
    private final NaiveBank naive = new NaiveBank();
    private final List<String> history = new ArrayList<>();
    private static final List<Method> FACE = new ArrayList<>();
    private static final List<Method> MODEL = new ArrayList<>();

    private ModelTest(long seed) {
        random = new Random(seed);
    }

    public static void main(String[] args) throws Exception {
        long from = args.length > 0 ? Long.parseLong(args[0]) : 0;
        long many = args.length > 1 ? Long.parseLong(args[1]) : 250;
        for (Method m : WinkBank.class.getDeclaredMethods()) {
            if (Modifier.isPublic(m.getModifiers())) {
                FACE.add(m);
                Method other = NaiveBank.class.getDeclaredMethod(m.getName(), m.getParameterTypes());
                other.setAccessible(true);
                MODEL.add(other);
            }
        }
        for (long seed = from; seed < from + many; seed++) {
            new ModelTest(seed).run();
        }
        Check.done();
    }

    private void run() throws Exception {
        int wrong = Check.wrong;
        for (int i = 0; i < 500 && Check.wrong == wrong; ) {
            if (i == 0 || random.nextInt(12) == 0) {
                i += text(i == 0 ? 0 : random.nextInt(12));
            } else {
                i += question();
            }
        }
    }

    private int any(int bound) {
        return random.nextInt(bound);
    }

    /** Mostly within 0 to most, now and then beyond. */
    private int arg(int most) {
        int kind = any(60);
        if (kind == 0) {
            return -1 - any(3);
        }
        if (kind == 1) {
            return most + 1 + any(3);
        }
        if (kind == 2) {
            return random.nextInt();
        }
        return any(most + 1);
    }

    private int text(int kind) throws Exception {
        int which = kind == 0 ? 0 : kind < 4 ? 1 : kind < 9 ? 2 : 3;
        String s = which == 0 ? roomText() : which == 1 ? lawText() : which == 2 ? playText() : bookText();
        if (any(6) == 0) {
            s = spoiled(s);
        }
        int most = which == 0 ? 600 : which == 3 ? 100 : 150;
        if (s.length() > most && any(4) > 0) {
            s = s.substring(0, most);
        }
        byte[] all = Check.bytes(s);
        int calls = 0;
        for (int at = 0; at < all.length; at += 20) {
            Integer[] five = {0, 0, 0, 0, 0};
            for (int i = 0; i < 20; i++) {
                int one = at + i < all.length ? all[at + i] & 255 : any(3) * 32;
                five[i / 4] = five[i / 4] << 8 | one;
            }
            both("feed", (Object[]) five);
            calls++;
        }
        both(TEXTS[which], any(40) == 0 ? all.length + arg(40) - 20 : all.length);
        both("fault");
        return calls + 2;
    }

    private String spoiled(String s) {
        StringBuilder b = new StringBuilder(s);
        for (int i = any(3); i >= 0; i--) {
            int at = any(b.length() + 1);
            int kind = any(5);
            String[] bits = {";", " ", "[", "]", "(", ")", ",", "house", "wink", "cup", "felt", "nap", "again", "day",
                "0", "1", "31", "99999999999999999999", "+", "*", "A", "\u00ff", "\u0000", "most", "least", "x"};
            if (kind < 2) {
                b.insert(at, bits[any(bits.length)]);
            } else if (kind == 2 && at < b.length()) {
                b.deleteCharAt(at);
            } else if (kind == 3) {
                b.setLength(at);
            } else if (at < b.length()) {
                b.setCharAt(at, (char) any(256));
            }
        }
        return b.toString();
    }

    private String gap() {
        return any(8) == 0 ? " ".repeat(1 + any(2)) : "";
    }

    private String roomText() {
        StringBuilder b = new StringBuilder();
        int houses = any(8) == 0 ? any(7) : 1 + any(4);
        int winks = any(8) == 0 ? any(12) : 1 + any(8);
        int cups = any(8) == 0 ? any(6) : any(5);
        int felt = any(4) == 0 ? 12 : 4 + any(27);
        for (int h = 0; h < houses; h++) {
            b.append(gap()).append("house ").append(any(3) == 0 ? any(4) : any(1000)).append(gap()).append(';');
        }
        if (felt != 12 || any(2) == 0) {
            b.append("felt").append(felt).append(';');
        }
        if (any(3) > 0) {
            b.append("nap ").append(any(10)).append(';');
        }
        int crowd = 1 + any(felt);
        for (int w = 0; w < winks; w++) {
            b.append("wink ").append(any(Math.max(1, houses))).append(' ').append(1 + any(9)).append(' ')
                .append(any(crowd)).append(gap()).append(';');
        }
        for (int c = 0; c < cups; c++) {
            b.append("cup ").append(any(felt)).append(' ').append(1 + any(99)).append(gap()).append(';');
        }
        if (any(30) == 0) {
            b.append("nap 5;".repeat(40 + any(20)));
        }
        return b.append(gap()).toString();
    }

    private String lawText() {
        String s = any(4) == 0 ? "press*2+under-nap-damp" : expression(any(3));
        return s + gap();
    }

    private String expression(int depth) {
        StringBuilder b = new StringBuilder();
        for (int i = any(3); i >= 0; i--) {
            b.append(gap()).append(unit(depth));
            if (i > 0) {
                b.append(gap()).append("+-*/".charAt(any(4)));
            }
        }
        return b.toString();
    }

    private String unit(int depth) {
        int kind = any(depth > 0 ? 8 : 5);
        if (kind == 0) {
            return String.valueOf(any(3) == 0 ? any(1000) : any(12));
        }
        if (kind < 3) {
            return NaiveBank.NAMES.get(any(9));
        }
        if (kind < 5) {
            return any(2) == 0 ? "press" : any(2) == 0 ? "nap" : "damp";
        }
        int deeper = any(9) == 0 ? depth + 1 : depth - 1;
        if (kind == 5) {
            return "(" + expression(deeper) + gap() + ")";
        }
        return (kind == 6 ? "least" : "most") + gap() + "[" + expression(deeper) + gap() + "," + expression(deeper)
            + gap() + "]";
    }

    private String playText() {
        return steps(any(7), any(4) == 0 ? any(8) : any(2)) + gap();
    }

    private String steps(int many, int depth) {
        StringBuilder b = new StringBuilder();
        for (int i = 0; i < many; i++) {
            int kind = any(depth > 0 ? 10 : 8);
            b.append(gap());
            if (kind < 4) {
                b.append(kind < 3 ? "flick " : "back ").append(arg(Math.max(0, naive.winks.size() - 1))).append(' ')
                    .append(1 + any(9));
            } else if (kind < 5) {
                b.append("damp ").append(any(10));
            } else if (kind < 6) {
                b.append("shake");
            } else if (kind < 8) {
                b.append("day");
            } else {
                b.append("again ").append(any(31)).append(gap()).append('[').append(steps(any(4), depth - 1))
                    .append(gap()).append(']');
            }
            b.append(gap()).append(';');
        }
        return b.toString();
    }

    /** Often what is truly seen to fly, so that some pairs fit. */
    private String bookText() {
        StringBuilder b = new StringBuilder();
        int winks = naive.winks.size();
        int w = winks == 0 ? 0 : any(winks);
        int nap = any(10);
        int damp = any(10);
        for (int p = 1; p <= 9; p++) {
            if (any(3) == 0) {
                int far = winks > 0 && any(8) > 0 ? naive.farAsIf(w, p, nap, damp) : any(61);
                b.append(p).append(' ').append(far).append(';').append(gap());
            }
        }
        return b.toString();
    }

    private int question() throws Exception {
        int i = any(FACE.size());
        Method m = FACE.get(i);
        if (m.getName().equals("room") || m.getName().equals("feed") && any(9) > 0) {
            return 1;
        }
        if (Arrays.asList(TEXTS).contains(m.getName()) && any(30) > 0) {
            return 1;
        }
        if ((m.getName().equals("undo") || m.getName().equals("restore")) && any(3) > 0) {
            return 1;
        }
        both(m.getName(), (Object[]) arguments(m));
        return 1;
    }

    private Integer[] arguments(Method m) {
        int w = Math.max(0, naive.winks.size() - 1);
        int h = Math.max(0, naive.houses.size() - 1);
        int c = Math.max(0, naive.cups.size() - 1);
        int press = any(40) == 0 ? arg(9) : 1 + any(9);
        switch (m.getName()) {
            case "told": return new Integer[] {arg(11)};
            case "house": return new Integer[] {arg(h), arg(2)};
            case "wink": return new Integer[] {arg(w), arg(5)};
            case "cup": return new Integer[] {arg(c), arg(2)};
            case "cell": return new Integer[] {arg(naive.felt - 1), arg(3)};
            case "flies": return new Integer[] {arg(w), press};
            case "would": return new Integer[] {press, 1 + arg(8), any(10), any(10), any(10), arg(99), arg(29),
                arg(500), arg(9999)};
            case "down": return new Integer[] {arg(w), press, arg(1)};
            case "presses": case "way": case "fits": case "look": return new Integer[] {arg(w), arg(1)};
            case "gain": return new Integer[] {arg(h), arg(1)};
            case "odds": case "mean": return new Integer[] {arg(w), press, arg(16), arg(1)};
            case "matched": return new Integer[] {arg(c)};
            case "duel": return new Integer[] {arg(w), arg(w), arg(2)};
            case "panic": return new Integer[] {press, arg(2)};
            case "level": return new Integer[] {arg(h), any(2) == 0 ? arg(60) : arg(9999)};
            case "trust": case "richest": case "status": return new Integer[] {arg(1)};
            case "count": return new Integer[] {arg(2)};
            case "ahead": return new Integer[] {arg(h), arg(100)};
            case "season": return new Integer[] {random.nextInt(), arg(16), 1 + arg(95), arg(3)};
            case "span": return new Integer[] {random.nextInt(), 1 + arg(19), arg(16), 1 + arg(95), arg(2)};
            default:
                Integer[] all = new Integer[m.getParameterCount()];
                for (int i = 0; i < all.length; i++) {
                    all[i] = random.nextInt(5);
                }
                return all;
        }
    }

    private void both(String name, Object... args) throws Exception {
        int i = 0;
        while (!FACE.get(i).getName().equals(name)) {
            i++;
        }
        String got = answer(FACE.get(i), bank, args);
        String want = answer(MODEL.get(i), naive, args);
        history.add(name + Arrays.toString(args) + " = " + want);
        Check.checked++;
        if (!got.equals(want)) {
            Check.wrong++;
            System.out.println(String.join("\n", history));
            System.out.println("^ but answered " + got);
        }
    }

    private static String answer(Method m, Object on, Object[] args) throws Exception {
        try {
            return String.valueOf(m.invoke(on, args));
        } catch (InvocationTargetException e) {
            return e.getCause().getClass().getName();
        }
    }
}

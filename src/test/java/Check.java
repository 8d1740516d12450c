import java.nio.charset.StandardCharsets;

/** What all tests of the project use: texts on the TAPE, and answers compared. */
final class Check {
    static int wrong;
    static int checked;
    /** What the checks that follow are about, told ahead of each that is wrong. */
    static String about = "";

    private Check() { }

    interface Call {
        int go();
    }

    static void due(String what, int got, int want) {
        checked++;
        if (got != want) {
            wrong++;
            System.out.println(about + what + " answered " + got + ", due is " + want);
        }
    }

    static void illegal(String what, WinkBank b, Call call) {
        refusal(what, b, call, "IllegalArgumentException", 1);
    }

    static void noSuch(String what, WinkBank b, Call call) {
        refusal(what, b, call, "NoSuchElementException", 0);
    }

    /** The call throws just that, and is counted there alone. */
    private static void refusal(String what, WinkBank b, Call call, String name, int status) {
        int mine = b.status(status);
        int others = b.status(1 - status);
        String got = "nothing";
        try {
            call.go();
        } catch (RuntimeException e) {
            got = e.getClass().getSimpleName();
        }
        checked++;
        if (!got.equals(name)) {
            wrong++;
            System.out.println(about + what + " threw " + got + ", due is " + name);
        }
        due(what + " counted", b.status(status), mine + 1);
        due(what + " not counted elsewhere", b.status(1 - status), others);
    }

    static byte[] bytes(String text) {
        return text.getBytes(StandardCharsets.ISO_8859_1);
    }

    /** The text comes on the TAPE, filled up with zeros to whole feeds. */
    static void feed(WinkBank b, String text) {
        byte[] all = bytes(text);
        for (int from = 0; from < all.length; from += 20) {
            int[] five = new int[5];
            for (int i = 0; i < 20; i++) {
                int one = from + i < all.length ? all[from + i] & 255 : 0;
                five[i / 4] = five[i / 4] << 8 | one;
            }
            b.feed(five[0], five[1], five[2], five[3], five[4]);
        }
    }

    static int room(WinkBank b, String text) {
        feed(b, text);
        return b.room(bytes(text).length);
    }

    static int law(WinkBank b, String text) {
        feed(b, text);
        return b.law(bytes(text).length);
    }

    static int play(WinkBank b, String text) {
        feed(b, text);
        return b.play(bytes(text).length);
    }

    static int book(WinkBank b, String text) {
        feed(b, text);
        return b.book(bytes(text).length);
    }

    static WinkBank in(String text) {
        WinkBank b = new WinkBank();
        if (room(b, text) < 0) {
            throw new AssertionError("no ROOM: " + text);
        }
        return b;
    }

    static void done() {
        System.out.println(checked + " checked, " + wrong + " wrong");
        if (wrong > 0) {
            System.exit(1);
        }
    }
}

/** What the tests of single sentences use: a room in use, all that can be seen of it, and bounds tried from both sides. */
final class Edge {
    private Edge() { }

    interface Asked {
        int go(int[] args);
    }

    /** Two PLAYS, an IMAGE, a LAW and a BOOK: WINK 0 lies FROZEN at 4, WINK 1 on it, WINK 2 at 8 behind two flicks. */
    static WinkBank busy() {
        WinkBank b = Check.in("house 7;house 9;felt 20;nap 2;wink 0 3 4;wink 1 5 4;wink 0 1 9;cup 13 30;cup 15 8;");
        Check.law(b, "press+under+cell/5");
        Check.book(b, "1 2;3 3;");
        Check.play(b, "damp 4;damp 4;day;");
        b.image();
        Check.play(b, "damp 4;flick 2 1;back 2 1;");
        return b;
    }

    /** All that a ROOM, LAW, BOOK, PLAY, undo() or restore() may change, but for the TAPE and the FAULT. */
    static String seen(WinkBank b) {
        StringBuilder s = new StringBuilder(standing(b));
        for (int what : new int[] {0, 1, 2, 8, 9, 10, 11}) {
            s.append(b.told(what)).append(' ');
        }
        for (int w = 0; w < b.told(1); w++) {
            s.append("wink ").append(b.wink(w, 0)).append(' ').append(b.wink(w, 1)).append(' ');
            s.append(b.fits(w, 0)).append(' ').append(b.flies(w, 3)).append(' ');
        }
        for (int c = 0; c < b.told(2); c++) {
            s.append("cup ").append(b.cup(c, 0)).append(' ').append(b.cup(c, 1)).append(' ').append(b.cup(c, 2)).append(' ');
        }
        s.append("law ").append(b.would(2, 3, 1, 4, 5, 9, 26, 5, 35)).append(' ').append(b.would(9, 7, 8, 2, 1, 1, 3, 50, 7));
        return s.append(" kept ").append(b.count(0)).append(' ').append(b.count(2)).toString();
    }

    /** What STEPS may change, and nothing else. */
    static String standing(WinkBank b) {
        StringBuilder s = new StringBuilder();
        for (int what = 3; what <= 7; what++) {
            s.append(b.told(what)).append(' ');
        }
        for (int h = 0; h < b.told(0); h++) {
            s.append("house ").append(b.house(h, 0)).append(' ');
        }
        for (int w = 0; w < b.told(1); w++) {
            s.append("wink ");
            for (int what = 2; what <= 5; what++) {
                s.append(b.wink(w, what)).append(' ');
            }
        }
        return s.toString();
    }

    /** The STEP is REFUSED, and changes nothing. */
    static void refused(WinkBank b, String step) {
        String before = standing(b);
        Check.due(step + " is not done", Check.play(b, step), 0);
        Check.due(step + " is REFUSED", b.told(9), 1);
        same(step + " changes nothing", standing(b), before);
    }

    static void same(String what, String got, String want) {
        Check.checked++;
        if (!got.equals(want)) {
            Check.wrong++;
            System.out.println(Check.about + what + ": " + got + ", due is " + want);
        }
    }

    private static int read(WinkBank b, String kind, String text) {
        switch (kind) {
            case "room": return Check.room(b, text);
            case "law": return Check.law(b, text);
            case "play": return Check.play(b, text);
            default: return Check.book(b, text);
        }
    }

    /** The text has that FAULT at that place, and all stays but for the TAPE. */
    static void faulty(String kind, String text, int fault, int place) {
        WinkBank b = busy();
        String before = seen(b);
        Check.due(kind + " '" + text + "'", read(b, kind, text), fault - 10);
        Check.due(kind + " '" + text + "' fault()", b.fault(), place);
        Check.due(kind + " '" + text + "' TAPE", b.count(1), 0);
        same(kind + " '" + text + "' all stays", seen(b), before);
    }

    /** The text has no FAULT. */
    static WinkBank fine(String kind, String text, int answer) {
        WinkBank b = busy();
        Check.due(kind + " '" + text + "'", read(b, kind, text), answer);
        Check.due(kind + " '" + text + "' fault()", b.fault(), -1);
        return b;
    }

    /** How far it flies by a LAW: press 2, size 3, nap 4, damp 5, under 6, shots 7, cell 8, day 9, coins 10. */
    static void flies(String law, int far) {
        WinkBank b = fine("law", law, 1);
        Check.due("flies by '" + law + "'", b.would(2, 3, 4, 5, 6, 7, 8, 9, 10), far);
    }

    /**
     * Each argument at both its bounds is taken, and one beyond is refused; the first ones are numbers of HOUSES, WINKS,
     * CUPS or CELLS, so many as are told. Nothing is changed by a refused call.
     */
    static void bounds(String name, WinkBank b, Asked call, int numbers, int[] least, int[] most) {
        String before = seen(b);
        for (int i = 0; i < least.length; i++) {
            with(least, i, least[i], call);
            with(least, i, most[i], call);
            int[] beyond = {least[i] - 1, most[i] + 1, Integer.MIN_VALUE, Integer.MAX_VALUE};
            for (int value : beyond) {
                if (value < least[i] || value > most[i]) {
                    int at = i;
                    refused(name + ", argument " + i + " is " + value, b, i < numbers, () -> with(least, at, value, call));
                }
            }
        }
        int[] wrong = new int[least.length];
        for (int i = 0; i < wrong.length; i++) {
            wrong[i] = most[i] == Integer.MAX_VALUE ? 0 : most[i] + 1;
        }
        refused(name + ", all are too large", b, numbers > 0, () -> call.go(wrong));
        same(name + " refused, all stays", seen(b), before);
    }

    private static void refused(String what, WinkBank b, boolean asNumber, Check.Call call) {
        if (asNumber) {
            Check.noSuch(what, b, call);
        } else {
            Check.illegal(what, b, call);
        }
    }

    private static int with(int[] args, int at, int value, Asked call) {
        int[] changed = args.clone();
        changed[at] = value;
        return call.go(changed);
    }

    static int[] row(int... values) {
        return values;
    }
}

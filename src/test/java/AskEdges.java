/** The document's part 3 and promises 14 to 30, sentence by sentence; coins and SEASONS are in LongEdges. */
final class AskEdges {
    private AskEdges() { }

    static void all() {
        asked();
        down();
        cantBeFlicked();
        gain();
        firstGain();
        way();
        wayAlone();
        wayFirst();
        thumb();
        odds();
        mean();
        match();
        matchFirst();
        fits();
        look();
        duel();
        clash();
        rests();
        panic();
        panicCoins();
        flies();
        would();
        presses();
        trust();
        richest();
    }

    static WinkBank in(String room, String law) {
        WinkBank b = Check.in(room);
        Check.due("LAW '" + law + "'", Check.law(b, law), 1);
        return b;
    }

    /** WINK 0 at 4; WINK 1 FROZEN at 7, WINK 2 on it; WINK 3 on the FLOOR, WINK 4 IN the CUP at 6; no coins. */
    static WinkBank spread() {
        WinkBank b = in("house 0;felt 10;wink 0 1 3;wink 0 1 7;wink 0 1 6;wink 0 1 9;wink 0 1 5;cup 6 5;", "press");
        Check.play(b, "shake;");
        Edge.same("spread", Edge.standing(b), "0 0 0 16 8 house 0 wink 4 0 0 0 wink 8 0 0 0 wink 7 0 0 0 wink -2 0 0 0 wink -3 0 0 0 ");
        return b;
    }

    static void asked() {
        Doc.says("3", "Asked, nothing stays changed.");
        WinkBank b = Edge.busy();
        Check.law(b, "press+under+cell/5+");
        Check.feed(b, "day;");
        String before = Edge.seen(b);
        for (int w = 0; w < 3; w++) {
            for (int i = 0; i <= 1; i++) {
                b.down(w, 3, i);
                b.presses(w, i);
                b.way(w, i);
                b.odds(w, 3, 3, i);
                b.mean(w, 3, 3, i);
                b.fits(w, i);
                b.look(w, i);
            }
        }
        for (int what = 0; what <= 2; what++) {
            b.duel(1, 2, what);
            b.panic(9, what);
            b.season(7, 9, 96, what);
            b.span(7, 20, 9, 96, what);
        }
        b.gain(0, 1);
        b.match();
        b.matched(0);
        b.level(0, 3);
        b.trust(0);
        b.richest(0);
        b.ahead(1, 100);
        b.would(1, 1, 9, 9, 9, 9, 9, 9, 9);
        Edge.same("all stays", Edge.seen(b), before);
        Check.due("the TAPE", b.count(1), 20);
        Check.due("the FAULT", b.fault(), 19);
        Check.due("none is refused", b.status(0) + b.status(1), 0);
    }

    static void down() {
        Doc.says("3", "DOWN of a WINK by a press, how 0 to the right, 1 to the left: the CELL it comes to by FLIES;");
        WinkBank b = in("house 0;felt 10;wink 0 1 4;wink 0 1 7;wink 0 1 7;cup 6 5;", "press");
        Check.due("right", b.down(0, 1, 0), 5);
        Check.due("left", b.down(0, 1, 1), 3);
        Check.due("to the last CELL", b.down(0, 5, 0), 9);
        Check.due("to the first CELL", b.down(0, 4, 1), 0);
        Check.due("the top of a pile", b.down(2, 2, 0), 9);

        Doc.says("3", "-2: the FLOOR;");
        Check.due("one beyond the last", b.down(0, 6, 0), -2);
        Check.due("one beyond the first", b.down(0, 5, 1), -2);
        Check.due("far beyond", b.down(0, 9, 1), -2);

        Doc.says("3", "a CUP's is told as a CELL;");
        Check.due("right", b.down(0, 2, 0), 6);
        Check.due("left", b.down(2, 1, 1), 6);

        Doc.says("p16", "DOWN.");
        Check.law(b, "0");
        Check.due("by 0", b.down(0, 9, 0), 4);
        Check.due("by 0 to the left", b.down(0, 9, 1), 4);
        Check.law(b, "60");
        Check.due("by 60", b.down(0, 9, 0), -2);
        Check.due("by 60 to the left", b.down(0, 9, 1), -2);
        WinkBank c = Edge.busy();
        Edge.bounds("down", c, a -> c.down(a[0], a[1], a[2]), 1, Edge.row(0, 1, 0), Edge.row(2, 9, 1));
    }

    static void cantBeFlicked() {
        Doc.says("3", "-3: it can't be flicked (FROZEN, not on the felt; coins are not asked).");
        WinkBank b = spread();
        Check.due("no coin is asked", b.down(0, 1, 0), 5);
        Check.due("on the FLOOR", b.down(3, 1, 0), -3);
        Check.due("on the FLOOR, left", b.down(3, 1, 1), -3);
        Check.due("IN a CUP", b.down(4, 1, 0), -3);
        WinkBank c = in("house 9;felt 10;wink 0 1 4;wink 0 1 4;", "press");
        Check.due("FROZEN", c.down(0, 1, 0), -3);
        Check.due("FROZEN, beyond the felt", c.down(0, 9, 0), -3);
        Check.due("on top", c.down(1, 1, 0), 5);
        Check.law(c, "0");
        Check.due("FROZEN, by 0", c.down(0, 1, 0), -3);
    }

    static void gain() {
        Doc.says("3", "GAIN of a HOUSE: of all its WINKS that can be flicked, presses, hows, the most that is paid (V; 0 without a CUP);");
        WinkBank b = in("house 0;house 0;felt 20;wink 0 1 5;wink 1 1 10;wink 0 1 2;cup 6 10;cup 11 30;cup 19 99;", "press");
        Check.due("30 is the most", b.gain(0, 0), 30);
        Check.due("by WINK 0, press 6, right", b.gain(0, 1), 60);
        Check.due("99 is the most", b.gain(1, 0), 99);
        Check.due("by WINK 1, press 9, right", b.gain(1, 1), 190);
        WinkBank left = in("house 0;felt 20;wink 0 1 9;cup 0 7;", "press");
        Check.due("to the left", left.gain(0, 0), 7);
        Check.due("by press 9, left", left.gain(0, 1), 91);
        WinkBank frozen = in("house 0;house 0;felt 20;wink 0 1 5;wink 1 1 5;wink 0 1 12;cup 6 50;cup 14 3;", "least[press,2]");
        Check.due("not by the FROZEN one", frozen.gain(0, 0), 3);
        Check.due("by WINK 2, press 2, right", frozen.gain(0, 1), 220);
        WinkBank bare = in("house 0;felt 20;wink 0 1 12;", "press");
        Check.due("without a CUP", bare.gain(0, 0), 0);
        Check.due("the first of all", bare.gain(0, 1), 10);
        WinkBank far = in("house 0;felt 30;wink 0 1 12;cup 22 9;cup 2 9;", "press");
        Check.due("not by a press of 10", far.gain(0, 0), 0);
        Check.law(far, "10-press");
        Check.due("not by a press of 0", far.gain(0, 0), 0);
        WinkBank still = in("house 0;felt 20;wink 0 1 12;cup 12 9;", "0");
        Check.due("not by 0", still.gain(0, 0), 0);

        Doc.says("p18", "GAIN: 0 how much, 1 the first (100 times the WINK, 10 times the press, and how; NONE: none can be flicked).");
        WinkBank last = in("house 0;felt 30;" + "wink 0 1 0;".repeat(9) + "wink 0 1 29;cup 20 5;", "press");
        Check.due("how much", last.gain(0, 0), 5);
        Check.due("WINK 9, press 9, left", last.gain(0, 1), 991);
        WinkBank none = in("house 9;house 9;house 9;felt 9;wink 0 1 4;wink 1 1 4;wink 2 1 8;cup 5 5;", "press");
        Check.due("FROZEN", none.gain(0, 0), 0);
        Check.due("FROZEN, first", none.gain(0, 1), -1);
        Check.play(none, "flick 2 1;flick 1 1;");
        Check.due("IN", none.gain(1, 0), 0);
        Check.due("IN, first", none.gain(1, 1), -1);
        Check.due("on the FLOOR", none.gain(2, 0), 0);
        Check.due("on the FLOOR, first", none.gain(2, 1), -1);
        WinkBank some = in("house 9;house 9;house 9;felt 9;wink 0 1 4;wink 1 1 4;cup 5 5;", "press");
        Check.due("one can", some.gain(1, 0), 5);
        Check.due("none can, asked behind it", some.gain(0, 0), 0);
        Check.due("its WAY", some.way(1, 0), 1);
        Check.due("no WINKS, asked behind it", some.gain(2, 0), 0);
        WinkBank houses = in("house 9;", "press");
        Check.due("no WINKS", houses.gain(0, 0), 0);
        Check.due("no WINKS, first", houses.gain(0, 1), -1);
        WinkBank c = Edge.busy();
        Edge.bounds("gain", c, a -> c.gain(a[0], a[1]), 1, Edge.row(0, 0), Edge.row(1, 1));
    }

    static void firstGain() {
        Doc.says("3", "the first such (WINK by WINK, press by press, right first).");
        WinkBank b = in("house 0;felt 9;wink 0 1 4;wink 0 1 0;cup 6 5;cup 2 5;", "2");
        Check.due("WINK 0, press 1, right", b.gain(0, 1), 10);
        WinkBank left = in("house 0;felt 9;wink 0 1 4;wink 0 1 0;cup 2 5;", "2");
        Check.due("left, but WINK 0", left.gain(0, 1), 11);
        WinkBank press = in("house 0;felt 9;wink 0 1 4;cup 5 5;cup 3 5;cup 6 5;", "press/3");
        Check.due("press 3, not 6", press.gain(0, 1), 30);
        WinkBank hows = in("house 0;felt 9;wink 0 1 4;cup 3 5;cup 6 5;", "press");
        Check.due("press 1 to the left ahead of 2 to the right", hows.gain(0, 1), 11);
        WinkBank zero = in("house 0;felt 9;wink 0 1 4;wink 0 1 4;", "press");
        Check.due("of none paid the first that can be flicked", zero.gain(0, 1), 110);
    }

    static void way() {
        Doc.says("3", "WAY of a WINK that can be flicked: the fewest flicks one behind the other by which it comes IN a CUP");
        WinkBank b = in("house 0;felt 30;wink 0 1 0;wink 0 1 28;cup 29 5;", "1");
        Check.due("29 of them", b.way(0, 0), 29);
        Check.due("one", b.way(1, 0), 1);
        WinkBank over = in("house 0;felt 30;wink 0 1 0;cup 1 5;", "2");
        Check.due("over it is not IN it", over.way(0, 0), -1);
        WinkBank next = in("house 0;felt 30;wink 0 1 0;cup 1 5;cup 6 1;", "2");
        Check.due("the one that it can come IN", next.way(0, 0), 3);
        WinkBank two = in("house 0;felt 30;wink 0 1 1;wink 0 1 0;cup 7 5;", "2");
        Check.due("three", two.way(0, 0), 3);
        Check.due("none, asked behind it", two.way(1, 0), -1);
        Check.due("none, asked behind it, first", two.way(1, 1), -1);
        WinkBank few = in("house 0;felt 5;wink 0 1 1;cup 2 5;", "2");
        Check.due("not from a CELL that it can't come to", few.way(0, 0), -1);
        WinkBank rims = in("house 0;felt 10;wink 0 1 2;cup 9 5;", "5");
        Check.due("not beyond the rims", rims.way(0, 0), -1);
        WinkBank fro = in("house 0;felt 8;wink 0 1 0;cup 1 5;", "least[press,2]*2+1");
        // flies 3 or 5: 0, 3, 6, 1
        Check.due("to and fro", fro.way(0, 0), 3);
        Check.due("to and fro, first", fro.way(0, 1), 10);
        // from 29 by 9, else by 2
        WinkBank last = in("house 0;felt 30;wink 0 1 27;cup 20 5;", "2+cell/29*7");
        Check.due("over the last CELL", last.way(0, 0), 2);
        Check.due("once more", last.way(0, 1), 10);
        // from 0 by 9, else by 2
        WinkBank first = in("house 0;felt 30;wink 0 1 2;cup 9 5;", "2+7/(7*cell+1)");
        Check.due("over the first CELL", first.way(0, 0), 2);
        Check.due("over the first CELL, first", first.way(0, 1), 11);
        WinkBank far = in("house 0;felt 30;wink 0 1 12;cup 22 9;", "press/10*10");
        Check.due("not by a press of 10", far.way(0, 0), -1);
        WinkBank own = in("house 0;felt 9;wink 0 1 4;cup 4 5;", "press");
        Check.due("out of its CUP's CELL and back", own.way(0, 0), 2);
        Check.law(own, "0");
        Check.due("not by 0", own.way(0, 0), -1);

        Doc.says("p19", "WAY: 0 how many flicks, 1 the first (10 times the press, and how); NONE both: not so, or it can't be flicked.");
        WinkBank nine = in("house 0;felt 20;wink 0 1 9;cup 0 5;", "press/9*9");
        Check.due("one", nine.way(0, 0), 1);
        Check.due("press 9, left", nine.way(0, 1), 91);
        Check.due("not so", over.way(0, 1), -1);
        WinkBank bare = in("house 0;felt 20;wink 0 1 9;", "press");
        Check.due("no CUP", bare.way(0, 0), -1);
        Check.due("no CUP, first", bare.way(0, 1), -1);
        WinkBank gone = spread();
        for (int what = 0; what <= 1; what++) {
            Check.due("on the FLOOR " + what, gone.way(3, what), -1);
            Check.due("IN " + what, gone.way(4, what), -1);
        }
        WinkBank frozen = in("house 9;felt 9;wink 0 1 4;wink 0 1 4;cup 5 5;", "press");
        Check.due("FROZEN", frozen.way(0, 0), -1);
        Check.due("FROZEN, first", frozen.way(0, 1), -1);
        WinkBank c = Edge.busy();
        Edge.bounds("way", c, a -> c.way(a[0], a[1]), 1, Edge.row(0, 0), Edge.row(2, 1));
    }

    static void wayAlone() {
        Doc.says("3", "(as if it alone moved, shots, coins, day as now;");
        WinkBank coins = in("house 2;felt 9;wink 0 1 0;cup 4 5;", "coins");
        Check.due("two coins at each flick", coins.way(0, 0), 2);
        WinkBank shots = in("house 9;felt 30;wink 0 1 0;cup 7 5;", "shots+1");
        Check.due("seven by ones", shots.way(0, 0), 7);
        Check.play(shots, "flick 0 1;");
        Check.due("three by twos", shots.way(0, 0), 3);
        WinkBank day = in("house 0;felt 30;wink 0 1 0;cup 8 5;", "day");
        Check.due("by 0 it does not move", day.way(0, 0), -1);
        Check.play(day, "day;day;");
        Check.due("by twos", day.way(0, 0), 4);
        Check.play(day, "damp 7;");
        Check.law(day, "damp+1");
        Check.due("damp as now", day.way(0, 0), 1);
        Check.due("no coin is asked", day.house(0, 0), 0);

        Doc.says("3", "at each CELL under is what lies there else);");
        WinkBank under = in("house 0;felt 9;wink 0 1 1;wink 0 1 3;wink 0 1 3;wink 0 1 0;cup 6 5;", "under+1");
        Check.due("0, 1, 3, 6", under.way(3, 0), 3);
        Check.due("1, 2, 3, 6", under.way(0, 0), 3);
        Check.due("3, 5, 6", under.way(2, 0), 2);
        WinkBank cell = in("house 0;felt 30;wink 0 1 1;cup 15 5;", "cell");
        // 1, 2, 4, 8, 16 and back by 16 to 0, or by 8 ..: 15 is never met
        Check.due("by the CELL at which it is", cell.way(0, 0), -1);
        Check.law(cell, "cell+1");
        Check.due("1, 3, 7, 15", cell.way(0, 0), 3);
    }

    static void wayFirst() {
        Doc.says("3", "of rows as few the first press and how (press by press, right first); NONE.");
        WinkBank both = in("house 0;felt 11;wink 0 1 5;cup 3 5;cup 7 5;", "1");
        Check.due("two", both.way(0, 0), 2);
        Check.due("right first", both.way(0, 1), 10);
        WinkBank left = in("house 0;felt 11;wink 0 1 5;cup 3 5;", "1");
        Check.due("left", left.way(0, 1), 11);
        WinkBank rows = in("house 0;felt 30;wink 0 1 10;cup 16 5;", "least[press,4]");
        Check.due("two", rows.way(0, 0), 2);
        Check.due("2 and 4, ahead of 3 and 3", rows.way(0, 1), 20);
        WinkBank late = in("house 0;felt 30;wink 0 1 10;cup 16 5;cup 1 99;", "least[press,4]");
        Check.due("the fewest, not the dearest", late.way(0, 0), 2);
        WinkBank leftFirst = in("house 0;felt 30;wink 0 1 10;cup 11 5;cup 8 5;", "press/2*2");
        // 11 is never met; 8 by 2 to the left at once: presses 2 and 3
        Check.due("press 2, left", leftFirst.way(0, 1), 21);
        WinkBank first = in("house 0;felt 30;wink 0 1 10;cup 9 5;cup 12 5;", "press");
        Check.due("press 1 to the left ahead of 2 to the right", first.way(0, 1), 11);
        WinkBank long9 = in("house 0;felt 30;wink 0 1 0;cup 29 5;", "press");
        // four at least, as 27 is too few: 2 and 27
        Check.due("four", long9.way(0, 0), 4);
        Check.due("2 first", long9.way(0, 1), 20);
        WinkBank turn = in("house 0;felt 30;wink 0 1 15;cup 0 5;cup 29 5;", "7");
        // 15, 22, 29; 15, 8, 1
        Check.due("to the right", turn.way(0, 1), 10);
    }

    static void fraction(String what, WinkBank b, int[] args, int above, int below) {
        Check.due(what + " above", b.odds(args[0], args[1], args[2], 0), above);
        Check.due(what + " below", b.odds(args[0], args[1], args[2], 1), below);
    }

    static void meanIs(String what, WinkBank b, int[] args, int above, int below) {
        Check.due(what + " above", b.mean(args[0], args[1], args[2], 0), above);
        Check.due(what + " below", b.mean(args[0], args[1], args[2], 1), below);
    }

    static void thumb() {
        Doc.says("3", "THUMB by P, q: the press is P by q of 16, else one less or one more, either by half");
        WinkBank b = in("house 0;felt 30;wink 0 1 0;cup 5 40;", "press");
        fraction("q 0", b, Edge.row(0, 5, 0), 0, 1);
        fraction("q 1", b, Edge.row(0, 5, 1), 1, 16);
        fraction("q 8", b, Edge.row(0, 5, 8), 1, 2);
        fraction("q 12", b, Edge.row(0, 5, 12), 3, 4);
        fraction("q 16", b, Edge.row(0, 5, 16), 1, 1);
        for (int press = 4; press <= 6; press += 2) {
            fraction("beside, q 0", b, Edge.row(0, press, 0), 1, 2);
            fraction("beside, q 1", b, Edge.row(0, press, 1), 15, 32);
            fraction("beside, q 15", b, Edge.row(0, press, 15), 1, 32);
            fraction("beside, q 16", b, Edge.row(0, press, 16), 0, 1);
        }
        fraction("two off", b, Edge.row(0, 3, 0), 0, 1);
        fraction("two off", b, Edge.row(0, 7, 0), 0, 1);

        Doc.says("3", "(1 and 9 at the rims: 1 less than 1 is 1, 1 more than 9 is 9).");
        WinkBank one = in("house 0;felt 30;wink 0 1 0;cup 1 40;cup 9 20;", "press");
        for (int press = 1; press <= 9; press += 8) {
            fraction("rim, q 0", one, Edge.row(0, press, 0), 1, 2);
            fraction("rim, q 4", one, Edge.row(0, press, 4), 5, 8);
            fraction("rim, q 15", one, Edge.row(0, press, 15), 31, 32);
            fraction("rim, q 16", one, Edge.row(0, press, 16), 1, 1);
        }
        fraction("by the rim, q 0", one, Edge.row(0, 2, 0), 1, 2);
        fraction("by the rim, q 0", one, Edge.row(0, 8, 0), 1, 2);
        meanIs("rim 1", one, Edge.row(0, 1, 4), 25, 1);
        meanIs("rim 9", one, Edge.row(0, 9, 4), 25, 2);
    }

    static void odds() {
        Doc.says("3", "ODDS: how likely a flick to the right by it comes IN a CUP;");
        WinkBank all = in("house 0;felt 30;wink 0 1 0;cup 4 10;cup 5 40;cup 6 7;", "press");
        for (int q = 0; q <= 16; q++) {
            fraction("some CUP", all, Edge.row(0, 5, q), 1, 1);
        }
        WinkBank left = in("house 0;felt 30;wink 0 1 10;cup 5 40;cup 10 7;", "press/9*5");
        fraction("not to the left, not by 0", left, Edge.row(0, 9, 16), 0, 1);
        fraction("not by 0", left, Edge.row(0, 5, 16), 0, 1);

        Doc.says("p20", "ODDS by P, q (0 to 16): above (part 0), below (part 1), in least terms; 0 by 1: it can't be flicked.");
        fraction("in least terms", all, Edge.row(0, 7, 4), 3, 8);
        WinkBank gone = spread();
        fraction("FLOOR", gone, Edge.row(3, 1, 16), 0, 1);
        fraction("IN", gone, Edge.row(4, 1, 16), 0, 1);
        WinkBank frozen = in("house 9;felt 9;wink 0 1 4;wink 0 1 4;cup 5 5;", "press");
        fraction("FROZEN", frozen, Edge.row(0, 1, 16), 0, 1);
        fraction("on top", frozen, Edge.row(1, 1, 16), 1, 1);
        WinkBank c = Edge.busy();
        Edge.bounds("odds", c, a -> c.odds(a[0], a[1], a[2], a[3]), 1, Edge.row(0, 1, 0, 0), Edge.row(2, 9, 16, 1));
    }

    static void mean() {
        Doc.says("3", "MEAN: what is paid on the mean.");
        WinkBank all = in("house 0;felt 30;wink 0 1 0;cup 4 10;cup 5 40;cup 6 7;cup 9 99;", "press");
        meanIs("q 0", all, Edge.row(0, 5, 0), 17, 2);
        meanIs("q 8", all, Edge.row(0, 5, 8), 97, 4);
        meanIs("q 15", all, Edge.row(0, 5, 15), 1217, 32);
        meanIs("q 16", all, Edge.row(0, 5, 16), 40, 1);
        meanIs("none", all, Edge.row(0, 2, 0), 0, 1);
        meanIs("most", all, Edge.row(0, 9, 16), 99, 1);
        meanIs("most, q 15", all, Edge.row(0, 9, 15), 99 * 31, 32);

        Doc.says("p21", "MEAN likewise.");
        WinkBank gone = spread();
        meanIs("FLOOR", gone, Edge.row(3, 1, 16), 0, 1);
        meanIs("IN", gone, Edge.row(4, 1, 16), 0, 1);
        WinkBank frozen = in("house 9;felt 9;wink 0 1 4;wink 0 1 4;cup 5 5;", "press");
        meanIs("FROZEN", frozen, Edge.row(0, 1, 16), 0, 1);
        meanIs("on top", frozen, Edge.row(1, 1, 16), 5, 1);
        WinkBank c = Edge.busy();
        Edge.bounds("mean", c, a -> c.mean(a[0], a[1], a[2], a[3]), 1, Edge.row(0, 1, 0, 0), Edge.row(2, 9, 16, 1));
    }

    private static void given(String what, WinkBank b, int together, int... winks) {
        Check.due(what + " together", b.match(), together);
        for (int c = 0; c < winks.length; c++) {
            Check.due(what + " CUP " + c, b.matched(c), winks[c]);
        }
    }

    static void match() {
        Doc.says("3", "MATCH: of all ways to give CUPS unlike WINKS that come IN these by one flick (some press, either way; a CUP may be given none) that by which V together are most;");
        given("one WINK, the dear CUP", in("house 0;felt 12;wink 0 1 5;cup 6 5;cup 4 9;", "press"), 9, -1, 0);
        given("two WINKS, one CUP", in("house 0;felt 12;wink 0 1 5;wink 0 1 7;cup 6 5;", "press"), 5, 0);
        given("one gives way", in("house 0;felt 30;wink 0 1 10;wink 0 1 2;cup 11 5;cup 15 5;", "press"), 10, 1, 0);
        given("by press 9 to the left", in("house 0;felt 30;wink 0 1 29;cup 20 5;", "press"), 5, 0);
        given("not to be met", in("house 0;felt 30;wink 0 1 29;cup 19 5;", "press"), 0, -1);
        given("not by 0", in("house 0;felt 30;wink 0 1 9;cup 9 5;", "0"), 0, -1);
        given("not by a press of 0", in("house 0;felt 30;wink 0 1 9;cup 14 5;", "5-press"), 0, -1);
        given("not by a press of 10", in("house 0;felt 30;wink 0 1 9;cup 19 5;", "press"), 0, -1);
        given("the dear one to who can't come IN the other", in("house 0;felt 30;wink 0 1 12;wink 0 1 2;cup 11 5;cup 20 4;", "press"), 9, 1, 0);
        // CUPS 0 and 1 by WINK 0 alone, CUP 2 by both
        given("the dearest of what one alone can", in("house 0;felt 30;wink 0 1 12;wink 0 1 2;cup 13 3;cup 20 4;cup 8 1;", "press"), 5, -1, 0, 1);

        Doc.says("p22", "MATCH: V together.");
        Check.due("no CUP", in("house 0;wink 0 1 5;", "press").match(), 0);
        Check.due("no WINK", in("cup 5 9;", "press").match(), 0);
        WinkBank most = in("house 0;felt 30;" + "wink 0 1 9;wink 0 1 11;".repeat(5) + "cup 10 99;cup 12 99;cup 8 99;cup 5 99;", "press");
        given("FROZEN ones are given none", most, 198, 8, 9, -1, -1);
        WinkBank four = in("house 0;felt 30;wink 0 1 9;wink 0 1 11;wink 0 1 13;wink 0 1 7;cup 10 99;cup 12 99;cup 8 99;cup 5 99;", "press");
        given("all four", four, 396, 0, 1, 2, 3);

        Doc.says("p23", "The WINK of a CUP by MATCH; NONE.");
        WinkBank late = in("house 9;felt 30;wink 0 1 10;wink 0 1 2;cup 11 5;cup 15 5;", "press");
        Check.due("not asked ahead", late.matched(0), 1);
        Check.due("not asked ahead", late.matched(1), 0);
        Check.play(late, "back 0 9;");
        Check.due("as all lies now", late.matched(0), 1);
        Check.due("as all lies now", late.matched(1), -1);
        WinkBank gone = spread();
        given("not who is IN or on the FLOOR", gone, 5, 0);
        WinkBank bare = in("felt 9;cup 3 1;cup 4 1;", "press");
        given("no WINK", bare, 0, -1, -1);
        WinkBank c = Edge.busy();
        Edge.bounds("matched", c, a -> c.matched(a[0]), 1, Edge.row(0), Edge.row(1));
    }

    static void matchFirst() {
        Doc.says("3", "of alike ways the first (CUP by CUP: WINK 0 ahead of 1 .., none last).");
        given("0 ahead of 1", in("house 0;felt 12;wink 0 1 5;wink 0 1 7;cup 6 5;cup 4 5;", "press"), 10, 0, 1);
        given("none last", in("house 0;felt 12;wink 0 1 5;cup 6 5;cup 4 5;cup 3 5;", "press"), 5, 0, -1, -1);
        given("by CUPS, not by CELLS", in("house 0;felt 12;wink 0 1 5;cup 9 5;cup 4 5;", "press"), 5, 0, -1);
        given("the first CUP as early as it can", in("house 0;felt 30;wink 0 1 20;wink 0 1 12;wink 0 1 4;cup 11 5;cup 5 5;", "press"), 10, 0, 1);
        given("of alike sums", in("house 0;felt 12;wink 0 1 5;wink 0 1 5;cup 6 2;cup 4 3;cup 7 5;", "press"), 5, -1, -1, 1);
        // WINKS 0 and 1 for 2 and 3, or one of them for 5: as both are for 5 and 3, 8 is more
        given("most first, then the order", in("house 0;felt 12;wink 0 1 5;wink 0 1 8;cup 6 2;cup 4 3;cup 7 5;", "press"), 8, -1, 0, 1);
    }

    static void fits() {
        Doc.says("3", "FITS of a WINK: pairs of NAP and DAMP (0 to 9 both) by which, were they so, all else as it is, all lines of the BOOK are right.");
        WinkBank b = in("house 5;felt 30;nap 7;wink 0 1 3;wink 0 1 3;", "nap*10+damp-40");
        fitting("no line", b, "", 100, 0);
        fitting("the last pair alone", b, "1 59;", 1, 99);
        fitting("none flies 60", b, "1 60;", 0, -1);
        fitting("0 at least", b, "1 0;", 41, 0);
        fitting("two lines", b, "1 59;9 59;", 1, 99);
        fitting("two that are at odds", b, "1 59;9 58;", 0, -1);
        Check.law(b, "nap+damp+coins");
        fitting("the first pair alone", b, "3 5;", 1, 0);
        fitting("the last pair alone", b, "3 23;", 1, 99);
        fitting("beyond them", b, "3 24;", 0, -1);
        Check.law(b, "press*10+nap+damp");
        fitting("all lines", b, "1 19;2 29;3 39;4 49;5 59;6 60;7 60;8 60;9 60;", 10, 9);
        Check.play(b, "damp 5;");
        fitting("its own NAP and DAMP do not count", b, "1 10;", 1, 0);
        Check.due("they stay", b.told(11) * 10 + b.told(4), 75);

        Doc.says("p24", "FITS: 0 how many, 1 the first (10 times NAP, and DAMP; by NAP; NONE; also of WINKS not on the felt: FLIES is 0 then).");
        Check.law(b, "nap+damp");
        fitting("by NAP", b, "1 9;", 10, 9);
        fitting("by NAP", b, "1 10;", 9, 19);
        Check.law(b, "9-nap");
        fitting("by NAP", b, "1 0;", 10, 90);
        WinkBank gone = spread();
        Check.law(gone, "nap+1");
        for (int w = 3; w <= 4; w++) {
            Check.book(gone, "1 0;9 0;");
            Check.due("not on the felt, " + w, gone.fits(w, 0), 100);
            Check.due("not on the felt, first, " + w, gone.fits(w, 1), 0);
            Check.book(gone, "1 1;");
            Check.due("not on the felt, none, " + w, gone.fits(w, 0), 0);
            Check.due("not on the felt, none, first, " + w, gone.fits(w, 1), -1);
        }
        Check.law(b, "nap+damp+under*20");
        Check.book(b, "1 0;");
        Check.due("FROZEN, as it lies", b.fits(0, 0), 1);
        Check.due("on top, as it lies", b.fits(1, 0), 0);
        WinkBank c = Edge.busy();
        Edge.bounds("fits", c, a -> c.fits(a[0], a[1]), 1, Edge.row(0, 0), Edge.row(2, 1));
    }

    private static void fitting(String what, WinkBank b, String book, int many, int first) {
        Check.due(what + ": a BOOK", Check.book(b, book) >= 0 ? 1 : 0, 1);
        Check.due(what + ": '" + book + "'", b.fits(0, 0), many);
        Check.due(what + ": '" + book + "', first", b.fits(0, 1), first);
    }

    private static void looking(String what, WinkBank b, String book, int press, int left) {
        Check.due(what + ": a BOOK", Check.book(b, book) >= 0 ? 1 : 0, 1);
        Check.due(what + ": '" + book + "'", b.look(0, 0), press);
        Check.due(what + ": '" + book + "', left", b.look(0, 1), left);
    }

    static void look() {
        Doc.says("3", "LOOK: the press in no line by which, however far it flies, fewest FITS are left at the worst, of these the first.");
        WinkBank b = in("house 5;felt 30;nap 7;wink 0 1 3;", "nap*(press-1)");
        looking("ten by 2 and more", b, "", 2, 10);
        looking("ten by any other", b, "2 4;", 1, 10);
        looking("2 and 3 are in lines", b, "2 0;3 0;", 1, 10);
        Check.law(b, "nap*10+damp");
        looking("40 fly 60", b, "", 1, 40);
        Check.law(b, "nap*10+damp-40");
        looking("41 fly 0", b, "", 1, 41);
        Check.law(b, "(nap*10+damp)*(press/9)-40+press*0");
        looking("9 alone tells more", b, "", 9, 41);
        looking("of alike ones the first", b, "9 0;", 1, 41);
        Check.law(b, "nap+damp*(press/5)");
        // below 5 ten of each NAP; else up to ten of each sum, and 9 has ten: alike at the worst
        looking("alike at the worst", b, "", 1, 10);

        Doc.says("p25", "LOOK: 0 the press, 1 how many FITS are left at the worst; NONE both: all presses are in lines.");
        Check.law(b, "press");
        looking("all in lines", b, "1 1;2 2;3 3;4 4;5 5;6 6;7 7;8 8;9 9;", -1, -1);
        looking("all in lines, none right", b, "1 0;2 0;3 0;4 0;5 0;6 0;7 0;8 0;9 0;", -1, -1);
        looking("9 is left", b, "1 1;2 2;3 3;4 4;5 5;6 6;7 7;8 8;", 9, 100);
        looking("none is left of them", b, "1 2;", 2, 0);
        WinkBank gone = spread();
        Check.law(gone, "nap");
        Check.book(gone, "");
        Check.due("not on the felt", gone.look(3, 0), 1);
        Check.due("not on the felt, left", gone.look(3, 1), 100);
        WinkBank c = Edge.busy();
        Edge.bounds("look", c, a -> c.look(a[0], a[1]), 1, Edge.row(0, 0), Edge.row(2, 1));
    }

    private static void fought(String what, WinkBank b, int rests, int first, int together) {
        Check.due(what + " RESTS", b.duel(0, 1, 0), rests);
        Check.due(what + " first", b.duel(0, 1, 1), first);
        Check.due(what + " together", b.duel(0, 1, 2), together);
    }

    static void duel() {
        Doc.says("3", "DUEL of two unlike WINKS that can be flicked: both at once to the right, from how all lies: each has V, if it comes IN a CUP, else 0;");
        fought("far apart", in("house 0;felt 30;wink 0 1 0;wink 0 1 20;", "press"), 81, 11, 0);
        fought("one CUP", in("house 0;felt 30;wink 0 1 0;wink 0 1 20;cup 5 10;", "press"), 9, 51, 10);
        fought("not to the left", in("house 0;felt 30;wink 0 1 10;wink 0 1 20;cup 5 10;cup 0 9;", "least[press,5]"), 81, 11, 0);
        fought("one CUP each", in("house 0;felt 30;wink 0 1 0;wink 0 1 20;cup 5 10;cup 29 99;", "press"), 1, 59, 109);
        fought("the dearer CUP", in("house 0;felt 30;wink 0 1 0;wink 0 1 20;cup 5 10;cup 7 11;", "press"), 9, 71, 11);
        fought("not by 0", in("house 0;felt 30;wink 0 1 5;wink 0 1 20;cup 5 10;", "0"), 81, 11, 0);
        fought("from how all lies", in("house 0;felt 30;wink 0 1 0;wink 0 1 1;cup 2 9;", "under+1"), 81, 11, 9);

        Doc.says("p26", "DUEL: 0 how many RESTS, 1 the first (10 times the one's press, and the other one's; NONE), 2 what both have by it together (0 without).");
        WinkBank turned = in("house 0;felt 30;wink 0 1 0;wink 0 1 20;cup 5 10;cup 29 99;", "press");
        Check.due("turned", turned.duel(1, 0, 1), 95);
        Check.due("turned, together", turned.duel(1, 0, 2), 109);
        // both come to 2 or 3: one flees, one follows
        WinkBank none = in("house 0;felt 30;wink 0 1 0;wink 0 1 1;cup 9 5;", "press");
        fought("both IN the CUP", none, 1, 98, 10);
        Check.law(none, "press/5+2-cell");
        fought("none", none, 0, -1, 0);

        Doc.says("p26", "IllegalArgumentException: also one WINK; one that can't be flicked.");
        WinkBank b = spread();
        Check.due("both can", b.duel(0, 2, 0) > 0 ? 1 : 0, 1);
        for (int what = 0; what <= 2; what++) {
            int it = what;
            Check.illegal("one WINK", b, () -> b.duel(0, 0, it));
            Check.illegal("on the FLOOR", b, () -> b.duel(0, 3, it));
            Check.illegal("on the FLOOR, turned", b, () -> b.duel(3, 0, it));
            Check.illegal("IN", b, () -> b.duel(0, 4, it));
            Check.illegal("IN, turned", b, () -> b.duel(4, 0, it));
        }
        Check.illegal("what 3", b, () -> b.duel(0, 2, 3));
        Check.illegal("what -1", b, () -> b.duel(0, 2, -1));
        Check.illegal("one WINK, what 3", b, () -> b.duel(0, 0, 3));
        Check.noSuch("no WINK 5", b, () -> b.duel(0, 5, 0));
        Check.noSuch("no WINK 5, turned", b, () -> b.duel(5, 0, 0));
        Check.noSuch("no WINK 5, ahead of all others", b, () -> b.duel(3, 5, 3));
        Check.noSuch("no WINK 5, ahead of one WINK", b, () -> b.duel(5, 5, 0));
        Check.noSuch("no WINK -1", b, () -> b.duel(-1, 0, 9));
        Check.noSuch("no WINK -1", b, () -> b.duel(0, -1, 0));
        WinkBank frozen = in("house 9;felt 9;wink 0 1 4;wink 0 1 4;wink 0 1 0;", "press");
        Check.illegal("FROZEN", frozen, () -> frozen.duel(0, 2, 0));
        Check.illegal("FROZEN, turned", frozen, () -> frozen.duel(2, 0, 0));
        Check.illegal("with the one on it", frozen, () -> frozen.duel(0, 1, 0));
    }

    static void clash() {
        Doc.says("3", "if both come down in one CELL that is no CUP's, the one of the lesser number has 1 less, the other one 1 more;");
        // WINK 0 comes to 1 and on, WINK 1 to 2 and on: by 1 WINK 0 is not met
        WinkBank b = in("house 0;felt 30;wink 0 1 0;wink 0 1 1;", "press");
        fought("WINK 0 flees", b, 9, 11, 0);
        Check.due("turned", b.duel(1, 0, 1), 11);
        // WINK 0 comes to 2 and on, WINK 1 to 1 and on: by 9 WINK 0 is not met
        WinkBank c = in("house 0;felt 30;wink 0 1 1;wink 0 1 0;", "press");
        fought("WINK 0 flees", c, 9, 91, 0);
        Check.due("turned", c.duel(1, 0, 1), 19);
        fought("both IN one CUP", in("house 0;felt 30;wink 0 1 1;wink 0 1 0;cup 5 1;", "press"), 1, 45, 2);
        fought("the FLOOR is no CELL", in("house 0;felt 30;wink 0 1 1;wink 0 1 0;", "60"), 81, 11, 0);
        // WINK 0 stays at 3, to which WINK 1 comes by 3 and more
        fought("one that stays", in("house 0;felt 9;wink 0 1 3;wink 0 1 0;", "least[press,3-cell]"), 63, 13, 0);
        // WINK 0 stays in the CUP's CELL, and is not IN; WINK 1 comes IN by 5 and more
        fought("one that stays where a CUP is", in("house 0;felt 9;wink 0 1 5;wink 0 1 0;cup 5 9;", "least[press,5-cell]"), 45, 15, 9);
        // a CUP of 1 is as good to WINK 1 as to meet WINK 0, who flees by 9 alone: all by which WINK 1 is IN, too
        WinkBank d = in("house 0;felt 30;wink 0 1 1;wink 0 1 0;cup 1 1;", "press");
        fought("1 more is worth a CUP of 1", d, 9, 11, 1);
        Check.due("turned", d.duel(1, 0, 0), 9);
        Check.due("turned, first", d.duel(1, 0, 1), 11);
        WinkBank e = in("house 0;felt 30;wink 0 1 0;wink 0 1 9;wink 0 1 5;", "press*(1-cell/9)+cell/9");
        // WINK 1 always comes to 10, WINK 0 never there, WINK 2 by 5: who is 1 more by it
        Check.due("numbers, not order", e.duel(1, 2, 0), 9);
        Check.due("numbers, not order, first", e.duel(1, 2, 1), 15);
        Check.due("numbers, not order, turned", e.duel(2, 1, 1), 51);
    }

    static void rests() {
        Doc.says("3", "RESTS: pairs of presses by which neither would have more by another one.");
        fought("all alike", in("house 0;felt 30;wink 0 1 0;wink 0 1 10;", "5"), 81, 11, 0);
        fought("some alike", in("house 0;felt 30;wink 0 1 0;wink 0 1 10;cup 3 7;cup 13 7;", "least[press,3]"), 49, 33, 14);
        fought("9 and 9", in("house 0;felt 30;wink 0 1 0;wink 0 1 10;cup 9 7;cup 19 7;", "press"), 1, 99, 14);
        fought("1 and 1", in("house 0;felt 30;wink 0 1 0;wink 0 1 10;cup 1 7;cup 11 7;", "press"), 1, 11, 14);
        fought("as much by another one is no more", in("house 0;felt 30;wink 0 1 0;wink 0 1 10;cup 2 7;cup 4 7;", "press"), 18, 21, 7);
    }

    static void panic() {
        Doc.says("3", "PANIC by a press: all WINKS that can be flicked as it begins, by number, are flicked to the right");
        WinkBank pile = in("house 0;felt 9;wink 0 1 3;wink 0 1 3;cup 4 5;", "press");
        Check.due("who is free only then is not flicked", pile.panic(1, 0), 1);
        Check.due("none FROZEN then", pile.panic(1, 2), 0);
        Check.due("to the right, beyond the felt", pile.panic(6, 1), 1);
        Check.due("to the last CELL", pile.panic(5, 1), 0);

        Doc.says("3", "FROZEN ones by then left out,");
        WinkBank meet = in("house 0;felt 9;wink 0 1 3;wink 0 1 4;cup 5 5;", "press");
        Check.due("FROZEN then", meet.panic(1, 2), 1);
        Check.due("not IN then", meet.panic(1, 0), 0);
        WinkBank apart = in("house 0;felt 9;wink 0 1 4;wink 0 1 3;cup 5 5;", "press");
        Check.due("by number: gone by then", apart.panic(1, 2), 0);
        Check.due("by number: IN by then", apart.panic(1, 0), 1);

        Doc.says("p27", "PANIC: 0 IN, 1 on the FLOOR, 2 FROZEN then.");
        WinkBank b = spread();
        Check.due("IN before is not counted", b.panic(9, 0), 0);
        Check.due("on the FLOOR before is not counted", b.panic(9, 1), 3);
        Check.due("IN", b.panic(2, 0), 1);
        Check.due("FROZEN as they were", in("house 0;felt 9;wink 0 1 3;wink 0 1 3;wink 0 1 3;", "0").panic(1, 2), 2);
        WinkBank bare = new WinkBank();
        for (int what = 0; what <= 2; what++) {
            Check.due("without WINKS " + what, bare.panic(1, what), 0);
        }
        WinkBank ten = in("house 0;felt 30;wink 0 1 0;wink 0 1 3;wink 0 1 6;wink 0 1 9;wink 0 1 12;wink 0 1 15;wink 0 1 18;wink 0 1 21;"
            + "wink 0 1 24;wink 0 1 27;", "60");
        Check.due("ten on the FLOOR", ten.panic(1, 1), 10);
        WinkBank c = Edge.busy();
        Edge.bounds("panic", c, a -> c.panic(a[0], a[1]), 0, Edge.row(1, 0), Edge.row(9, 2));
    }

    static void panicCoins() {
        Doc.says("3", "(as by flick,");
        WinkBank zero = in("house 0;felt 9;wink 0 1 4;cup 4 5;", "0");
        Check.due("by 0 it stays, and is not IN", zero.panic(1, 0), 0);
        WinkBank under = in("house 0;felt 9;wink 0 1 1;wink 0 1 3;wink 0 1 3;cup 5 9;cup 2 9;", "under+1");
        Check.due("by what lies under each", under.panic(1, 0), 2);

        Doc.says("3", "coins not asked and not paid or gone): how many come IN, on the FLOOR.");
        WinkBank coins = in("house 1;felt 9;wink 0 1 0;wink 0 1 5;wink 0 1 2;cup 1 3;cup 6 3;cup 3 3;", "coins");
        Check.due("all by one coin", coins.panic(1, 0), 3);
        WinkBank gone = in("house 1;felt 9;wink 0 1 0;wink 0 1 8;", "coins");
        Check.due("not gone by the first flick", gone.panic(1, 1), 1);
        WinkBank poor = in("house 0;felt 9;wink 0 1 0;wink 0 1 8;cup 1 9;", "1");
        Check.due("not asked: IN", poor.panic(1, 0), 1);
        Check.due("not asked: on the FLOOR", poor.panic(1, 1), 1);
    }

    // ---- promises ----

    static void flies() {
        Doc.says("p14", "FLIES of a WINK by a press (1 to 9) as it lies (also if it is FROZEN; 0: not on the felt).");
        WinkBank b = Check.in("house 30;felt 9;nap 2;wink 0 5 3;wink 0 7 3;");
        Check.due("press 1", b.flies(0, 1), 0);
        Check.due("press 9, FROZEN", b.flies(0, 9), 16);
        Check.due("press 1, on one", b.flies(1, 1), 1);
        Check.law(b, "size*9");
        Check.due("45", b.flies(0, 1), 45);
        Check.due("60 at most", b.flies(1, 1), 60);
        WinkBank gone = spread();
        Check.law(gone, "9");
        Check.due("on the FLOOR", gone.flies(3, 1), 0);
        Check.due("IN", gone.flies(4, 1), 0);
        Check.due("on the felt", gone.flies(0, 1), 9);
        WinkBank c = Edge.busy();
        Edge.bounds("flies", c, a -> c.flies(a[0], a[1]), 1, Edge.row(0, 1), Edge.row(2, 9));
    }

    private static int would(WinkBank b, int[] a) {
        return b.would(a[0], a[1], a[2], a[3], a[4], a[5], a[6], a[7], a[8]);
    }

    static void would() {
        Doc.says("p15", "FLIES by the LAW for such press, size (1 to 9), nap, damp, under (0 to 9), shots (0 to 99), cell (0 to 29), day (0 to 500), coins (0 to 9,999).");
        int[] least = {1, 1, 0, 0, 0, 0, 0, 0, 0};
        int[] most = {9, 9, 9, 9, 9, 99, 29, 500, 9999};
        String[] laws = {"press", "size", "nap", "damp", "under", "shots/2", "cell", "day/10", "coins/200"};
        int[] divisors = {1, 1, 1, 1, 1, 2, 1, 10, 200};
        for (int i = 0; i < laws.length; i++) {
            WinkBank b = Edge.busy();
            Check.law(b, laws[i]);
            Check.due(laws[i] + " least", would(b, least), least[i]);
            Check.due(laws[i] + " most", would(b, most), most[i] / divisors[i]);
        }
        WinkBank b = Edge.busy();
        Edge.bounds("would", b, a -> would(b, a), 0, least, most);
        WinkBank bare = new WinkBank();
        Check.law(bare, "cell");
        Check.due("a CELL that the felt has not", bare.would(1, 1, 0, 0, 0, 0, 29, 0, 0), 29);
    }

    static void presses() {
        Doc.says("p17", "Presses (bits; 1 is bit 0) by which a WINK comes IN a CUP (any), how 0, 1.");
        WinkBank b = in("house 0;felt 30;wink 0 1 10;cup 11 1;cup 19 1;cup 9 1;cup 1 1;", "press");
        Check.due("1 and 9 to the right", b.presses(0, 0), 257);
        Check.due("1 and 9 to the left", b.presses(0, 1), 257);
        Check.law(b, "1");
        Check.due("all", b.presses(0, 0), 511);
        Check.law(b, "2");
        Check.due("none", b.presses(0, 0), 0);
        WinkBank own = in("house 0;felt 30;wink 0 1 10;cup 10 1;", "0");
        Check.due("not by 0", own.presses(0, 0), 0);
        WinkBank gone = spread();
        Check.due("no coin is asked", gone.presses(0, 0), 2);
        Check.due("on the FLOOR", gone.presses(3, 0) + gone.presses(3, 1), 0);
        Check.due("IN", gone.presses(4, 0) + gone.presses(4, 1), 0);
        WinkBank frozen = in("house 9;felt 9;wink 0 1 4;wink 0 1 4;cup 5 5;", "press");
        Check.due("FROZEN", frozen.presses(0, 0), 0);
        Check.due("on top", frozen.presses(1, 0), 1);
        WinkBank c = Edge.busy();
        Edge.bounds("presses", c, a -> c.presses(a[0], a[1]), 1, Edge.row(0, 0), Edge.row(2, 1));
    }

    static void trust() {
        Doc.says("p29", "The CELL where most lie (what 0), of alike ones the first, how many (1); NONE both: none lies.");
        WinkBank b = Check.in("house 0;felt 9;wink 0 1 8;wink 0 1 0;wink 0 1 8;wink 0 1 5;wink 0 1 5;");
        Check.due("of 5 and 8", b.trust(0), 5);
        Check.due("two", b.trust(1), 2);
        Check.play(b, "shake;shake;");
        Check.due("of alike ones the first", b.trust(0), 2);
        Check.due("one", b.trust(1), 1);
        WinkBank all = Check.in("house 0;felt 30;" + "wink 0 1 29;".repeat(10));
        Check.due("the last CELL", all.trust(0), 29);
        Check.due("ten", all.trust(1), 10);
        WinkBank first = Check.in("house 0;felt 9;wink 0 1 0;wink 0 1 1;");
        Check.due("the first CELL", first.trust(0), 0);
        WinkBank none = new WinkBank();
        Check.due("no WINK", none.trust(0), -1);
        Check.due("no WINK", none.trust(1), -1);
        WinkBank gone = Check.in("house 0;felt 4;wink 0 1 3;wink 0 1 0;cup 1 9;");
        Check.play(gone, "shake;");
        Check.due("IN and on the FLOOR none lies", gone.trust(0), -1);
        Check.due("IN and on the FLOOR none lies", gone.trust(1), -1);
        WinkBank c = Edge.busy();
        Edge.bounds("trust", c, a -> c.trust(a[0]), 0, Edge.row(0), Edge.row(1));
    }

    static void richest() {
        Doc.says("p30", "The HOUSE of most coins (what 0), of alike ones the first, how many (1); NONE both: there is none.");
        WinkBank b = Check.in("house 3;house 5;house 0;house 5;house 4;");
        Check.due("of alike ones the first", b.richest(0), 1);
        Check.due("how many", b.richest(1), 5);
        WinkBank last = Check.in("house 3;house 5;house 0;house 5;house 999;");
        Check.due("the last", last.richest(0), 4);
        Check.due("how many", last.richest(1), 999);
        WinkBank poor = Check.in("house 0;house 0;");
        Check.due("without coins", poor.richest(0), 0);
        Check.due("none", poor.richest(1), 0);
        WinkBank none = new WinkBank();
        Check.due("no HOUSE", none.richest(0), -1);
        Check.due("no HOUSE", none.richest(1), -1);
        WinkBank c = Edge.busy();
        Edge.bounds("richest", c, a -> c.richest(a[0]), 0, Edge.row(0), Edge.row(1));
    }
}

/** Section 3 and promises 14 to 33: what is asked, with nothing changed by it. */
public final class AskTest {
    public static void main(String[] args) {
        flights();
        aims();
        ways();
        thumbs();
        matches();
        fitting();
        looks();
        duels();
        panics();
        levels();
        seasons();
        seasonDays();
        spans();
        wrongAsked();
        Check.done();
    }

    /** Wink 0 at 4, wink 1 at 8, cups at 6 and 11; flies as far as it is pressed. */
    static WinkBank plain() {
        WinkBank b = Check.in("house 3;house 7;felt 12;wink 0 1 4;wink 1 2 8;cup 6 10;cup 11 30;");
        Check.law(b, "press");
        return b;
    }

    static void flights() {
        WinkBank b = Check.in("house 30;felt 9;nap 2;wink 0 5 3;wink 0 7 3;");
        Check.due("plain law", b.flies(0, 4), 6);
        Check.due("one under", b.flies(1, 4), 7);
        Check.due("0 at least", b.flies(0, 1), 0);
        Check.play(b, "damp 3;");
        Check.due("damp", b.flies(1, 4), 4);
        Check.law(b, "size*cell");
        Check.due("frozen flies", b.flies(0, 1), 15);
        Check.law(b, "coins+30");
        Check.due("60", b.flies(0, 1), 60);
        Check.play(b, "flick 1 1;");
        Check.due("not on the felt", b.flies(1, 1), 0);
        Check.law(b, "coins/60");
        Check.due("would, most", b.would(9, 9, 9, 9, 9, 99, 29, 500, 9999), 60);
        Check.due("would, some", b.would(9, 9, 9, 9, 9, 99, 29, 500, 660), 11);
        Check.law(b, "day/10");
        Check.due("would by day", b.would(1, 1, 0, 0, 0, 0, 0, 500, 0), 50);
    }

    static void aims() {
        WinkBank b = plain();
        Check.due("down in a cup", b.down(0, 7, 0), 11);
        Check.due("down beyond", b.down(0, 8, 0), -2);
        Check.due("down left", b.down(0, 4, 1), 0);
        Check.due("down left beyond", b.down(0, 5, 1), -2);
        Check.due("presses right", b.presses(0, 0), 2 + 64);
        Check.due("presses left", b.presses(0, 1), 0);
        Check.due("presses right", b.presses(1, 0), 4);
        Check.due("presses left", b.presses(1, 1), 2);
        Check.due("gain", b.gain(0, 0), 30);
        Check.due("gain first", b.gain(0, 1), 70);
        Check.due("gain", b.gain(1, 0), 30);
        Check.due("gain first", b.gain(1, 1), 130);
        WinkBank c = Check.in("house 0;house 9;felt 12;wink 0 1 6;wink 0 1 5;wink 1 1 5;cup 7 9;cup 5 9;");
        Check.law(c, "press");
        Check.due("without coins; right first", c.gain(0, 1), 10);
        Check.due("frozen", c.down(1, 1, 0), -3);
        Check.due("frozen has no press", c.presses(1, 0), 0);
        Check.due("from a cup's cell", c.presses(2, 0), 2);
        Check.law(c, "0");
        Check.due("stays", c.down(2, 1, 0), 5);
        Check.due("stays, not in", c.presses(2, 0), 0);
        Check.due("gain 0", c.gain(0, 0), 0);
        Check.due("gain 0, the first", c.gain(0, 1), 10);
        Check.due("gain 0, the first that can", c.gain(1, 1), 210);
        WinkBank d = Check.in("house 1;house 2;wink 0 1 3;wink 1 1 3;");
        Check.due("none can", d.gain(0, 0), 0);
        Check.due("none can, first", d.gain(0, 1), -1);
    }

    static void ways() {
        WinkBank b = plain();
        Check.due("one flick", b.way(0, 0), 1);
        Check.due("the first press", b.way(0, 1), 20);
        Check.due("left", b.way(1, 1), 21);
        WinkBank c = Check.in("house 0;felt 30;wink 0 1 10;wink 0 1 7;cup 20 9;");
        Check.law(c, "least[press,3]");
        Check.due("four flicks", c.way(0, 0), 4);
        // 3 + 3 + 3 + 1: the least first press is 1
        Check.due("press 1 first", c.way(0, 1), 10);
        Check.due("five flicks", c.way(1, 0), 5);
        Check.due("13 by fives: 1 first", c.way(1, 1), 10);
        WinkBank d = Check.in("house 0;felt 30;wink 0 1 10;wink 0 1 13;wink 0 1 13;cup 20 9;");
        Check.law(d, "least[press,3]+under*2");
        // from 13 it flies up to 7: 10, 13, 20
        Check.due("by what lies there", d.way(0, 0), 2);
        Check.due("three first", d.way(0, 1), 30);
        Check.due("on one other", d.way(2, 0), 2);
        Check.due("frozen", d.way(1, 0), -1);
        Check.law(d, "press*0");
        Check.due("none", d.way(0, 0), -1);
        Check.due("none, first", d.way(0, 1), -1);
        Check.law(d, "press*2");
        // 10 to 20 by press 5
        Check.due("ten", d.way(0, 1), 50);
        Check.law(d, "3+cell-cell");
        Check.due("in none: 20 is not reached by threes from 10 but by the rims", d.way(0, 0), -1);
        WinkBank e = Check.in("house 0;felt 10;wink 0 1 5;cup 5 9;");
        Check.law(e, "press");
        Check.due("lies in the cup's cell", e.way(0, 0), 2);
        Check.due("out and in: right first", e.way(0, 1), 10);
        Check.law(e, "2");
        Check.play(e, "shake;");
        Check.due("never even", e.way(0, 0), -1);
        WinkBank f = Check.in("house 0;felt 10;wink 0 1 2;cup 5 9;");
        Check.law(f, "least[press*4,4-cell/4*3]");
        // 2 to 6 by 4, from 6 by 1 to 5, left
        Check.due("to and fro", f.way(0, 0), 2);
        Check.due("to and fro, first", f.way(0, 1), 10);
        WinkBank g = Check.in("house 9;felt 10;wink 0 1 9;cup 5 9;");
        Check.law(g, "press+5");
        Check.play(g, "flick 0 1;");
        Check.due("on the floor", g.way(0, 0), -1);
    }

    static void fraction(String what, int above, int below, int wantAbove, int wantBelow) {
        Check.due(what + " above", above, wantAbove);
        Check.due(what + " below", below, wantBelow);
    }

    static void thumbs() {
        WinkBank b = plain();
        fraction("sure", b.odds(0, 2, 16, 0), b.odds(0, 2, 16, 1), 1, 1);
        fraction("sure to miss", b.odds(0, 2, 0, 0), b.odds(0, 2, 0, 1), 0, 1);
        fraction("a quarter", b.odds(0, 1, 8, 0), b.odds(0, 1, 8, 1), 1, 4);
        fraction("by less", b.odds(0, 8, 4, 0), b.odds(0, 8, 4, 1), 3, 8);
        fraction("odd", b.odds(0, 8, 15, 0), b.odds(0, 8, 15, 1), 1, 32);
        fraction("mean", b.mean(0, 8, 4, 0), b.mean(0, 8, 4, 1), 45, 4);
        fraction("mean sure", b.mean(0, 7, 16, 0), b.mean(0, 7, 16, 1), 30, 1);
        fraction("mean none", b.mean(0, 4, 16, 0), b.mean(0, 4, 16, 1), 0, 1);
        WinkBank c = Check.in("house 0;felt 12;wink 0 1 2;wink 0 1 3;wink 0 1 4;wink 0 1 4;cup 11 10;cup 4 7;");
        Check.law(c, "press");
        fraction("rim 9", c.odds(0, 9, 4, 0), c.odds(0, 9, 4, 1), 5, 8);
        fraction("rim 9 mean", c.mean(0, 9, 4, 0), c.mean(0, 9, 4, 1), 25, 4);
        fraction("rim 1", c.odds(1, 1, 4, 0), c.odds(1, 1, 4, 1), 5, 8);
        fraction("both sides", c.mean(0, 1, 2, 0), c.mean(0, 1, 2, 1), 49, 16);
        fraction("frozen", c.odds(2, 7, 16, 0), c.odds(2, 7, 16, 1), 0, 1);
        fraction("frozen mean", c.mean(2, 7, 16, 0), c.mean(2, 7, 16, 1), 0, 1);
        WinkBank d = Check.in("house 0;felt 12;wink 0 1 2;cup 10 10;cup 11 7;cup 9 3;");
        Check.law(d, "press");
        fraction("three cups", d.mean(0, 8, 8, 0), d.mean(0, 8, 8, 1), 15, 2);
        fraction("all in", d.odds(0, 8, 8, 0), d.odds(0, 8, 8, 1), 1, 1);
    }

    static void matches() {
        WinkBank b = plain();
        Check.due("both", b.match(), 40);
        Check.due("cup 0", b.matched(0), 0);
        Check.due("cup 1", b.matched(1), 1);
        WinkBank one = Check.in("house 0;felt 12;wink 0 1 5;cup 6 5;cup 4 5;cup 3 5;");
        Check.law(one, "press");
        Check.due("one wink", one.match(), 5);
        Check.due("the first cup", one.matched(0), 0);
        Check.due("none", one.matched(1), -1);
        WinkBank dear = Check.in("house 0;felt 12;wink 0 1 5;cup 6 5;cup 4 9;");
        Check.law(dear, "press");
        Check.due("the dear one", dear.match(), 9);
        Check.due("cheap has none", dear.matched(0), -1);
        Check.due("dear has it", dear.matched(1), 0);
        WinkBank free = Check.in("house 0;felt 30;wink 0 1 10;wink 0 1 2;cup 11 5;cup 15 5;");
        Check.law(free, "press");
        // wink 1 reaches 11 alone, wink 0 both
        Check.due("both", free.match(), 10);
        Check.due("gives way", free.matched(0), 1);
        Check.due("takes the far one", free.matched(1), 0);
        WinkBank none = Check.in("house 0;felt 30;wink 0 1 10;wink 0 1 10;cup 29 5;");
        Check.due("none", none.match(), 0);
        Check.due("none", none.matched(0), -1);
        WinkBank sums = Check.in("house 0;felt 30;wink 0 1 10;wink 0 1 12;cup 1 1;cup 11 9;cup 21 4;cup 13 6;");
        Check.law(sums, "press");
        // wink 0: 1, 11, 13; wink 1: 11, 13, 21
        Check.due("two of four", sums.match(), 15);
        Check.due("first cup none", sums.matched(0), -1);
        Check.due("9", sums.matched(1), 0);
        Check.due("4 none", sums.matched(2), -1);
        Check.due("6", sums.matched(3), 1);
    }

    static void fitting() {
        WinkBank b = Check.in("house 9;felt 30;nap 4;wink 0 1 10;wink 0 1 10;");
        Check.due("all", b.fits(0, 0), 100);
        Check.due("first", b.fits(0, 1), 0);
        Check.book(b, "8 9;");
        // 16 - nap - damp is 9: seven of 0 to 7
        Check.due("of sum 7", b.fits(0, 0), 8);
        Check.due("0 and 7", b.fits(0, 1), 7);
        Check.due("one under", b.fits(1, 0), 9);
        Check.due("0 and 8", b.fits(1, 1), 8);
        Check.law(b, "press+nap*10+damp");
        Check.book(b, "1 36;");
        Check.due("one", b.fits(0, 0), 1);
        Check.due("3 and 5", b.fits(0, 1), 35);
        Check.book(b, "1 36;2 37;3 38;");
        Check.due("one still", b.fits(0, 0), 1);
        Check.book(b, "1 36;2 37;3 39;");
        Check.due("none", b.fits(0, 0), 0);
        Check.due("none, first", b.fits(0, 1), -1);
        Check.book(b, "9 60;");
        Check.due("cut at 60", b.fits(0, 0), 49);
        Check.due("first", b.fits(0, 1), 51);
        Check.law(b, "60");
        Check.play(b, "flick 1 1;");
        Check.due("on the floor flies 0", b.fits(1, 0), 0);
        Check.book(b, "1 0;2 0;");
        Check.due("on the floor flies 0, all fit", b.fits(1, 0), 100);
        Check.due("the felt's own damp and nap are not changed", b.told(11), 4);
    }

    static void looks() {
        WinkBank b = Check.in("house 9;felt 30;nap 4;wink 0 1 10;wink 0 1 3;");
        Check.law(b, "press+nap*10+damp");
        Check.due("most at 60", b.look(0, 0), 1);
        Check.due("41 at the worst", b.look(0, 1), 41);
        Check.book(b, "1 60;");
        // of 59 to 99 all fly 60 by 2 and more
        Check.due("the first of alike", b.look(0, 0), 2);
        Check.due("41", b.look(0, 1), 41);
        Check.law(b, "nap*(press-1)");
        Check.book(b, "");
        Check.due("2", b.look(0, 0), 2);
        Check.due("10", b.look(0, 1), 10);
        Check.law(b, "nap*damp*(9-press)+press");
        Check.book(b, "9 9;");
        Check.due("fits", b.fits(0, 0), 100);
        Check.law(b, "press");
        Check.book(b, "1 1;2 2;3 3;4 4;5 5;6 6;7 7;8 8;9 9;");
        Check.due("all in lines", b.look(0, 0), -1);
        Check.due("all in lines", b.look(0, 1), -1);
        Check.book(b, "1 1;2 2;3 3;4 4;5 5;6 6;7 7;8 9;");
        Check.due("only 9 left", b.look(0, 0), 9);
        Check.due("no fits left", b.look(0, 1), 0);
        Check.book(b, "");
        Check.law(b, "30");
        Check.play(b, "flick 0 1;");
        Check.due("on the floor", b.look(0, 0), 1);
        Check.due("all left", b.look(0, 1), 100);
    }

    static void duels() {
        WinkBank b = plain();
        Check.due("one rest", b.duel(0, 1, 0), 1);
        Check.due("at", b.duel(0, 1, 1), 73);
        Check.due("together", b.duel(0, 1, 2), 60);
        Check.due("turned", b.duel(1, 0, 1), 37);
        WinkBank c = Check.in("house 0;felt 30;wink 0 1 0;wink 0 1 1;");
        Check.law(c, "press");
        // wink 0 comes to p, wink 1 to q + 1: where they meet, wink 0 loses; by 1 it can't be met
        Check.due("nine rests", c.duel(0, 1, 0), 9);
        Check.due("first", c.duel(0, 1, 1), 11);
        Check.due("together", c.duel(0, 1, 2), 0);
        WinkBank d = Check.in("house 0;felt 30;wink 0 1 1;wink 0 1 0;");
        Check.law(d, "press");
        Check.due("nine rests", d.duel(0, 1, 0), 9);
        Check.due("by 9 it can't be met", d.duel(0, 1, 1), 91);
        Check.due("turned", d.duel(1, 0, 1), 19);
        Check.law(d, "60");
        Check.due("the floor is no cell", d.duel(0, 1, 0), 81);
        Check.law(d, "0");
        Check.due("both stay", d.duel(0, 1, 0), 81);
        WinkBank e = Check.in("house 0;felt 30;wink 0 1 1;wink 0 1 0;cup 5 1;");
        Check.law(e, "press");
        // wink 0 has 1 by 4, wink 1 by 5, or by meeting wink 0, who then is better off in the cup
        Check.due("the cup's cell is no clash", e.duel(0, 1, 1), 45);
        Check.due("both have 1", e.duel(0, 1, 2), 2);
        WinkBank f = Check.in("house 0;felt 30;wink 0 1 1;wink 0 1 0;");
        Check.law(f, "cell*press+(1-cell)*(press-press/5*5)");
        // wink 1 comes to 1, 2, 3, 4, 0, 1, .. and wink 0 to 2 and more: it is met at 2, 3, 4 alone
        Check.due("not to be met", f.duel(0, 1, 1), 41);
        Check.due("six presses by nine", f.duel(0, 1, 0), 54);
        WinkBank h = Check.in("house 0;felt 30;wink 0 1 1;wink 0 1 0;cup 1 1;");
        Check.law(h, "press");
        // wink 1 has 1 by the cup, and no more by meeting wink 0
        Check.due("a clash is worth 1", h.duel(0, 1, 0), 9);
        Check.due("a clash is worth 1, first", h.duel(0, 1, 1), 11);
        Check.due("a clash is worth 1, turned", h.duel(1, 0, 0), 9);
        Check.due("together", h.duel(0, 1, 2), 1);
        WinkBank i = Check.in("house 0;felt 30;wink 0 1 0;wink 0 1 1;cup 9 5;");
        Check.law(i, "press");
        Check.due("a rest in the cup", i.duel(0, 1, 1), 98);
        Check.due("together", i.duel(0, 1, 2), 10);
        Check.law(i, "press/5+2-cell");
        // both come to 2 or 3: one flees, one follows
        Check.due("no rest", i.duel(0, 1, 0), 0);
        Check.due("no first", i.duel(0, 1, 1), -1);
        Check.due("nothing together", i.duel(0, 1, 2), 0);
        Check.illegal("one wink", b, () -> b.duel(1, 1, 0));
        Check.illegal("what", b, () -> b.duel(0, 1, 3));
        Check.noSuch("no wink", b, () -> b.duel(0, 2, 3));
        Check.noSuch("no wink", b, () -> b.duel(-1, 0, 0));
        WinkBank g = Check.in("house 0;felt 30;wink 0 1 1;wink 0 1 1;wink 0 1 5;");
        Check.illegal("frozen", g, () -> g.duel(0, 2, 0));
        Check.illegal("frozen", g, () -> g.duel(2, 0, 0));
        Check.due("the top one can", g.duel(1, 2, 0) > 0 ? 1 : 0, 1);
    }

    static void panics() {
        WinkBank b = plain();
        Check.due("in", b.panic(7, 0), 1);
        Check.due("floor", b.panic(7, 1), 1);
        Check.due("frozen", b.panic(7, 2), 0);
        Check.due("4: on wink 1, left out then", b.panic(4, 2), 1);
        Check.due("4: in", b.panic(4, 0), 0);
        Check.due("4: floor", b.panic(4, 1), 0);
        Check.due("asked only", b.wink(0, 2), 4);
        Check.play(b, "flick 0 2;");
        Check.due("in before is not counted", b.panic(1, 0), 0);
        Check.due("only one is left", b.panic(3, 0), 1);
        WinkBank c = Check.in("house 0;felt 9;wink 0 1 3;wink 0 1 3;wink 0 1 8;");
        Check.law(c, "press+under*3");
        // wink 1 flies 4 and frees wink 0, which was frozen as it began
        Check.due("floor", c.panic(1, 1), 1);
        Check.due("frozen", c.panic(1, 2), 0);
        Check.due("on the floor before", c.told(7), 0);
        Check.illegal("press 0", b, () -> b.panic(0, 0));
        Check.illegal("press 10", b, () -> b.panic(10, 0));
        Check.illegal("what", b, () -> b.panic(1, 3));
        Check.illegal("what", b, () -> b.panic(1, -1));
    }

    static void levels() {
        WinkBank b = Check.in("house 10;house 3;house 0;house 50;");
        int[][] want = {{0, 0, 0, 0, 0}, {3, 1, 1, 0, 1}, {8, 2, 2, 0, 2}, {9, 3, 3, 0, 3}, {20, 8, 3, 0, 8},
            {23, 10, 3, 0, 10}, {62, 10, 3, 0, 49}, {63, 10, 3, 0, 50}, {9999, 10, 3, 0, 50}};
        for (int[] row : want) {
            for (int h = 0; h < 4; h++) {
                Check.due("level of " + row[0] + " for " + h, b.level(h, row[0]), row[h + 1]);
            }
        }
        Check.illegal("-1", b, () -> b.level(0, -1));
        Check.illegal("10000", b, () -> b.level(0, 10000));
        Check.noSuch("no house, ahead", b, () -> b.level(4, -1));
        Check.due("999", Check.in("house 999;").level(0, 998), 998);
    }

    static void seasons() {
        // by SEED 1 bits are 16838 5758 10113 17515, 31051 5627 23010 7419: 0 by 8 left, 11; 1 by 3 right, 11
        WinkBank b = Check.in("house 5;felt 30;wink 0 1 20;wink 0 1 5;cup 12 7;cup 9 2;");
        Check.law(b, "press");
        Check.due("first comes in", b.season(1, 0, 1, 0), 1);
        Check.due("coins", b.season(1, 0, 1, 3), 11);
        Check.due("second flies by", b.season(1, 0, 2, 0), 1);
        Check.due("both done", b.season(1, 0, 2, 2), 2);
        Check.due("coins", b.season(1, 0, 2, 3), 10);
        Check.due("11 is not below 11", b.season(1, 11, 2, 0), 1);
        Check.due("shaken: both in", b.season(1, 12, 2, 0), 2);
        Check.due("coins", b.season(1, 12, 2, 3), 12);
        Check.due("none on the floor", b.season(1, 12, 2, 1), 0);
        Check.due("asked only", b.wink(0, 2), 20);
        WinkBank poor = Check.in("house 0;felt 4;wink 0 1 0;");
        Check.due("no coin", poor.season(1, 0, 96, 2), 0);
        Check.due("shaken off", poor.season(1, 16, 96, 1), 1);
        Check.due("shaken thrice", poor.season(1, 16, 3, 1), 0);
        Check.due("shaken four times", poor.season(1, 16, 4, 1), 1);
        WinkBank none = Check.in("house 7;house 8;");
        Check.due("without winks", none.season(5, 16, 96, 3), 15);
    }

    static void seasonDays() {
        WinkBank b = Check.in("house 96;house 0;wink 0 1 3;wink 1 1 3;");
        Check.law(b, "0");
        for (int seed = -3; seed < 4; seed++) {
            int done = 0;
            int coins = 0;
            long s = seed & 0xffffffffL;
            for (int i = 1; i <= 96; i++) {
                int wink = -1;
                for (int k = 0; k < 4; k++) {
                    s = (s * 1103515245L + 12345L) % 4294967296L;
                    wink = k == 0 ? (int) (s / 65536 % 32768) % 2 : wink;
                }
                if (wink == 1 && coins > 0) {
                    coins--;
                    done++;
                }
                coins += i % 4 == 0 ? 1 : 0;
            }
            Check.due("done by seed " + seed, b.season(seed, 0, 96, 2), done);
            Check.due("coins by seed " + seed, b.season(seed, 0, 96, 3), 96 - done);
            Check.due("before the first day", b.season(seed, 0, 4, 2), 0);
        }
        WinkBank c = Check.in("house 999;felt 30;wink 0 1 0;cup 1 5;");
        Check.law(c, "most[0,day-500]");
        Check.play(c, "again 30[again 10[day;];];");
        Check.play(c, "again 30[again 10[day;];];");
        Check.play(c, "again 30[again 10[day;];];");
        Check.due("day 500", c.told(3), 500);
        for (int seed = 1; seed < 9; seed++) {
            Check.due("stays", c.season(seed, 0, 4, 0) + c.season(seed, 0, 4, 1), 0);
            Check.due("goes on day 501", c.season(seed, 0, 5, 0) + c.season(seed, 0, 5, 1), 1);
        }
    }

    static void spans() {
        WinkBank b = Check.in("house 9;house 7;felt 14;wink 0 1 2;wink 0 2 5;wink 1 3 9;wink 1 3 9;cup 12 7;cup 7 2;");
        int[] seeds = {0, 77, Integer.MAX_VALUE - 4, -9};
        for (int seed : seeds) {
            int least = 99;
            int most = -1;
            int clean = 0;
            for (int i = 0; i < 20; i++) {
                int in = b.season(seed + i, 3, 7, 0);
                least = Math.min(least, in);
                most = Math.max(most, in);
                clean += b.season(seed + i, 3, 7, 1) == 0 ? 1 : 0;
            }
            Check.due("fewest of " + seed, b.span(seed, 20, 3, 7, 0), least);
            Check.due("most of " + seed, b.span(seed, 20, 3, 7, 1), most);
            Check.due("clean of " + seed, b.span(seed, 20, 3, 7, 2), clean);
            Check.due("one of " + seed, b.span(seed, 1, 3, 7, 0), b.season(seed, 3, 7, 0));
        }
    }

    static void wrongAsked() {
        WinkBank b = plain();
        Check.illegal("flies 0", b, () -> b.flies(0, 0));
        Check.illegal("flies 10", b, () -> b.flies(0, 10));
        Check.noSuch("flies, ahead", b, () -> b.flies(2, 0));
        Check.illegal("down press", b, () -> b.down(0, 0, 0));
        Check.illegal("down how", b, () -> b.down(0, 1, 2));
        Check.noSuch("down, ahead", b, () -> b.down(-1, 0, 0));
        Check.illegal("presses how", b, () -> b.presses(0, -1));
        Check.noSuch("presses, ahead", b, () -> b.presses(2, -1));
        Check.illegal("gain what", b, () -> b.gain(0, 2));
        Check.noSuch("gain, ahead", b, () -> b.gain(2, 2));
        Check.illegal("way what", b, () -> b.way(0, 2));
        Check.noSuch("way, ahead", b, () -> b.way(2, 2));
        Check.illegal("odds press", b, () -> b.odds(0, 0, 1, 0));
        Check.illegal("odds q", b, () -> b.odds(0, 1, 17, 0));
        Check.illegal("odds q", b, () -> b.odds(0, 1, -1, 0));
        Check.illegal("odds part", b, () -> b.odds(0, 1, 1, 2));
        Check.noSuch("odds, ahead", b, () -> b.odds(2, 0, 17, 2));
        Check.illegal("mean press", b, () -> b.mean(0, 10, 1, 0));
        Check.illegal("mean q", b, () -> b.mean(0, 1, 17, 0));
        Check.illegal("mean part", b, () -> b.mean(0, 1, 1, -1));
        Check.noSuch("mean, ahead", b, () -> b.mean(2, 0, 17, 2));
        Check.noSuch("matched", b, () -> b.matched(2));
        Check.noSuch("matched", b, () -> b.matched(-1));
        Check.illegal("fits what", b, () -> b.fits(0, 2));
        Check.noSuch("fits, ahead", b, () -> b.fits(2, 2));
        Check.illegal("look what", b, () -> b.look(0, -1));
        Check.noSuch("look, ahead", b, () -> b.look(2, -1));
        Check.illegal("season q", b, () -> b.season(0, 17, 1, 0));
        Check.illegal("season q", b, () -> b.season(0, -1, 1, 0));
        Check.illegal("season flicks", b, () -> b.season(0, 0, 0, 0));
        Check.illegal("season flicks", b, () -> b.season(0, 0, 97, 0));
        Check.illegal("season what", b, () -> b.season(0, 0, 1, 4));
        Check.illegal("span many", b, () -> b.span(0, 0, 0, 1, 0));
        Check.illegal("span many", b, () -> b.span(0, 21, 0, 1, 0));
        Check.illegal("span q", b, () -> b.span(0, 1, 17, 1, 0));
        Check.illegal("span flicks", b, () -> b.span(0, 1, 0, 97, 0));
        Check.illegal("span what", b, () -> b.span(0, 1, 0, 1, 3));
        int[] least = {1, 1, 0, 0, 0, 0, 0, 0, 0};
        int[] most = {9, 9, 9, 9, 9, 99, 29, 500, 9999};
        for (int i = 0; i < 9; i++) {
            int[] low = least.clone();
            int[] high = most.clone();
            would(b, low);
            would(b, high);
            low[i]--;
            high[i]++;
            Check.illegal("would below " + i, b, () -> would(b, low));
            Check.illegal("would above " + i, b, () -> would(b, high));
        }
    }

    static int would(WinkBank b, int[] a) {
        return b.would(a[0], a[1], a[2], a[3], a[4], a[5], a[6], a[7], a[8]);
    }
}

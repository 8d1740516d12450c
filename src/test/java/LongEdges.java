import java.math.BigInteger;

/** The document's LEVEL, SEASON and DRAW, and promises 28 and 31 to 33, sentence by sentence. */
final class LongEdges {
    private static final int[] SEEDS = {0, 1, 2, 77, -1, 65535, 1 << 30, Integer.MAX_VALUE, Integer.MIN_VALUE};

    private LongEdges() { }

    static void all() {
        level();
        ahead();
        whichFlick();
        ifItCan();
        shaken();
        days();
        daysBehind();
        withoutWinks();
        draw();
        season();
        span();
    }

    /** What comes out by as many DRAWS, one behind the other. */
    static int[] draws(int seed, int... by) {
        BigInteger all = BigInteger.ONE.shiftLeft(32);
        BigInteger s = BigInteger.valueOf(seed).mod(all);
        int[] drawn = new int[by.length];
        for (int i = 0; i < by.length; i++) {
            s = s.multiply(BigInteger.valueOf(1103515245)).add(BigInteger.valueOf(12345)).mod(all);
            drawn[i] = s.shiftRight(16).intValue() % 32768 % by[i];
        }
        return drawn;
    }

    static void level() {
        Doc.says("3", "LEVEL of n among HOUSES by their coins: no more than a bound each, the greatest by which no more than n are given (all, if they are no more).");
        int[][] want = {{0, 0, 0, 0, 0}, {2, 0, 0, 0, 0}, {3, 1, 1, 0, 1}, {5, 1, 1, 0, 1}, {8, 2, 2, 0, 2}, {9, 3, 3, 0, 3},
            {10, 3, 3, 0, 3}, {11, 4, 3, 0, 4}, {23, 10, 3, 0, 10}, {24, 10, 3, 0, 11}, {62, 10, 3, 0, 49}, {63, 10, 3, 0, 50},
            {64, 10, 3, 0, 50}, {9999, 10, 3, 0, 50}};
        WinkBank b = Check.in("house 10;house 3;house 0;house 50;");
        for (int[] row : want) {
            for (int h = 0; h < 4; h++) {
                Check.due("HOUSE " + h + " of " + row[0], b.level(h, row[0]), row[h + 1]);
            }
        }

        Doc.says("p28", "What a HOUSE gets of n (0 to 9,999) by LEVEL.");
        WinkBank most = Check.in("house 999;house 999;house 999;house 999;house 999;");
        Check.due("all", most.level(4, 4995), 999);
        Check.due("one too few", most.level(4, 4994), 998);
        Check.due("none of 4", most.level(0, 4), 0);
        Check.due("one of 5", most.level(0, 5), 1);
        Check.due("of the most", most.level(0, 9999), 999);
        WinkBank poor = Check.in("house 0;");
        Check.due("none of none", poor.level(0, 0), 0);
        Check.due("none of the most", poor.level(0, 9999), 0);
        WinkBank paid = Check.in("house 999;felt 9;wink 0 1 0;wink 0 1 0;cup 1 99;");
        Check.law(paid, "1");
        Check.play(paid, "flick 1 1;flick 0 1;");
        Check.due("coins as they are, beyond 999", paid.level(0, 9999), 1195);
        Check.due("coins as they are, beyond 999", paid.level(0, 1194), 1194);
        WinkBank c = Edge.busy();
        Edge.bounds("level", c, a -> c.level(a[0], a[1]), 1, Edge.row(0, 0), Edge.row(1, 9999));
    }

    static void ahead() {
        Doc.says("p31", "In n DAYS (0 to 100; beyond DAY 500, too), nothing else being done: coins of a HOUSE.");
        WinkBank b = Check.in("house 120;house 0;house 7;wink 0 1 3;wink 1 1 3;");
        Check.due("in none", b.ahead(1, 0), 0);
        Check.due("in one", b.ahead(1, 1), 1);
        Check.due("in 100", b.ahead(1, 100), 100);
        Check.due("who pays", b.ahead(0, 100), 20);
        Check.due("who does not", b.ahead(2, 100), 7);
        Check.play(b, "again 30[day;];");
        Check.due("until there is none", b.ahead(1, 90), 120);
        Check.due("and none more", b.ahead(1, 100), 120);
        WinkBank late = Check.in("house 999;house 0;wink 0 1 3;wink 1 1 3;");
        for (int i = 0; i < 3; i++) {
            Check.play(late, "again 30[day;day;day;day;day;day;];");
        }
        Check.due("DAY 500", late.told(3), 500);
        Check.due("beyond it", late.ahead(1, 100), 600);
        Check.due("one beyond it", late.ahead(1, 1), 501);
        Check.due("DAY 500 still", late.told(3), 500);
        WinkBank c = Edge.busy();
        Edge.bounds("ahead", c, a -> c.ahead(a[0], a[1]), 1, Edge.row(0, 0), Edge.row(1, 100));
    }

    // ---- SEASONS ----

    static void whichFlick() {
        Doc.says("3", "SEASON by a SEED: for so many flicks: DRAW by how many WINKS there are, DRAW by 9 and 1: the press, DRAW by 2: 0 to the right, 1 to the left;");
        StringBuilder ten = new StringBuilder("house 1;felt 30;");
        for (int w = 0; w < 10; w++) {
            ten.append("wink 0 1 ").append(1 + 3 * w).append(';');
        }
        for (int seed : SEEDS) {
            int[] one = draws(seed, 1, 9, 2, 16);
            int far = (one[1] + 1) * (one[2] == 0 ? 1 : -1);
            Check.due("press and how by " + seed, in("house 1;felt 30;wink 0 1 15;cup " + (15 + far) + " 5;", "press", seed, 1), 1);
            Check.due("not the other way by " + seed, in("house 1;felt 30;wink 0 1 15;cup " + (15 - far) + " 5;", "press", seed, 1), 0);
            int[] many = draws(seed, 10, 9, 2, 16);
            int cell = 1 + 3 * many[0] + (many[2] == 0 ? 1 : -1);
            Check.due("WINK by " + seed, in(ten + "cup " + cell + " 5;", "1", seed, 1), 1);
            int[] next = draws(seed, 1, 9, 2, 16, 1, 9, 2, 16);
            int to = 15 + (next[2] == 0 ? 1 : -1) + (next[6] == 0 ? 1 : -1);
            Check.due("two flicks by " + seed, in("house 2;felt 30;wink 0 1 15;cup " + to + " 5;", "1", seed, 2), 1);
        }
    }

    /** WINKS IN CUPS behind so many flicks without a shake. */
    private static int in(String room, String law, int seed, int flicks) {
        WinkBank b = AskEdges.in(room, law);
        return b.season(seed, 0, flicks, 0);
    }

    static void ifItCan() {
        Doc.says("3", "then as by flick or back (if it can be done);");
        WinkBank coins = AskEdges.in("house 5;felt 30;wink 0 1 15;", "0");
        Check.due("four", coins.season(3, 0, 4, 2), 4);
        Check.due("five coins", coins.season(3, 0, 96, 2), 5);
        Check.due("none is left", coins.season(3, 0, 96, 3), 0);
        WinkBank paid = AskEdges.in("house 1;felt 30;wink 0 1 15;cup 14 9;cup 16 9;", "1");
        Check.due("once", paid.season(3, 0, 96, 2), 1);
        Check.due("paid", paid.season(3, 0, 96, 3), 9);
        WinkBank floor = AskEdges.in("house 9;felt 4;wink 0 1 2;", "9");
        Check.due("once", floor.season(3, 0, 96, 2), 1);
        Check.due("on the FLOOR", floor.season(3, 0, 96, 1), 1);
        Check.due("a coin is gone", floor.season(3, 0, 96, 3), 8);
        WinkBank frozen = AskEdges.in("house 99;house 0;felt 9;wink 0 1 4;wink 1 1 4;", "1");
        Check.due("FROZEN, or without a coin", frozen.season(3, 0, 4, 2), 0);
    }

    static void shaken() {
        Doc.says("3", "then DRAW by 16 below Q: shake (if it can);");
        WinkBank b = AskEdges.in("house 0;felt 30;wink 0 1 15;cup 16 5;", "0");
        for (int seed : SEEDS) {
            int drawn = draws(seed, 1, 9, 2, 16)[3];
            for (int q = 0; q <= 16; q++) {
                Check.due("Q " + q + " by " + seed, b.season(seed, q, 1, 0), drawn < q ? 1 : 0);
            }
        }
        WinkBank poor = AskEdges.in("house 0;felt 4;wink 0 1 0;", "0");
        Check.due("thrice", poor.season(1, 16, 3, 1), 0);
        Check.due("four times", poor.season(1, 16, 4, 1), 1);
        Check.due("then it can't", poor.season(1, 16, 96, 1), 1);
        Check.due("no flick", poor.season(1, 16, 96, 2), 0);
        WinkBank behind = AskEdges.in("house 1;felt 30;wink 0 1 15;cup 17 5;cup 15 7;", "1");
        for (int seed : SEEDS) {
            // by 1 to either side, and then shaken into a CUP, which pays nothing
            Check.due("behind the flick by " + seed, behind.season(seed, 16, 1, 0), 1);
            Check.due("unpaid by " + seed, behind.season(seed, 16, 1, 3), 0);
        }
    }

    static void days() {
        Doc.says("3", "behind each 4th a day (beyond 500, too).");
        WinkBank b = AskEdges.in("house 99;felt 30;wink 0 1 15;cup 14 1;cup 16 1;", "day");
        for (int seed : SEEDS) {
            Check.due("on DAY 0 by " + seed, b.season(seed, 0, 4, 0), 0);
            Check.due("on DAY 1 by " + seed, b.season(seed, 0, 5, 0), 1);
        }
        WinkBank many = AskEdges.in("house 99;felt 30;wink 0 1 15;cup 14 1;cup 16 1;", "day/23");
        Check.due("on DAY 22", many.season(5, 0, 92, 0), 0);
        Check.due("on DAY 23", many.season(5, 0, 93, 0), 1);
        WinkBank late = AskEdges.in("house 99;felt 30;wink 0 1 15;cup 14 1;cup 16 1;", "most[0,day-500]");
        for (int i = 0; i < 3; i++) {
            Check.play(late, "again 30[day;day;day;day;day;day;];");
        }
        Check.due("DAY 500", late.told(3), 500);
        for (int seed : SEEDS) {
            Check.due("on DAY 500 by " + seed, late.season(seed, 0, 4, 0), 0);
            Check.due("on DAY 501 by " + seed, late.season(seed, 0, 5, 0), 1);
        }
    }

    /** The 4th's shake is ahead of the day: who is freed by it pays no rent, so the other one can't pay a flick. */
    static void daysBehind() {
        int[] found = {0, 0};
        WinkBank b = AskEdges.in("house 1;house 0;felt 30;wink 0 1 3;wink 1 1 3;", "0");
        for (int seed = 0; found[0] + found[1] < 9 && seed < 10000; seed++) {
            int[] d = draws(seed, 2, 9, 2, 16, 2, 9, 2, 16, 2, 9, 2, 16, 2, 9, 2, 16, 2);
            if (d[3] >= 8 && d[7] >= 8 && d[11] >= 8 && d[16] == 1) {
                int paid = d[15] < 8 ? 0 : 1;
                found[paid]++;
                Check.due("a flick by the rent by " + seed, b.season(seed, 8, 5, 2), paid);
            }
        }
        Check.due("seeds of both kinds", found[0] > 0 && found[1] > 0 ? 1 : 0, 1);
    }

    static void withoutWinks() {
        Doc.says("3", "Without WINKS nothing is done, and there is no DRAW.");
        WinkBank b = Check.in("house 7;house 8;cup 3 5;");
        int[] want = {0, 0, 0, 15};
        for (int seed : SEEDS) {
            for (int what = 0; what < 4; what++) {
                Check.due("season " + what + " by " + seed, b.season(seed, 16, 96, what), want[what]);
            }
        }
    }

    static void draw() {
        Doc.says("3", "DRAW: the SEED (32 bits) becomes itself times 1,103,515,245, and 12,345 (it wraps); its bits 16 to 30, what is left of them.");
        // by SEED 1 bits are 16838, 5758, 10113, 17515; 31051, 5627, 23010, 7419: by 9 7 and 2, by 2 1 and 0, by 16 11 and 11
        Check.due("by 8 to the left", in("house 1;felt 30;wink 0 1 15;cup 7 5;", "press", 1, 1), 1);
        Check.due("then by 3 to the right", in("house 2;felt 30;wink 0 1 15;cup 10 5;", "press", 1, 2), 1);
        WinkBank b = AskEdges.in("house 0;felt 30;wink 0 1 15;cup 16 5;", "0");
        Check.due("11 is not below 11", b.season(1, 11, 2, 0), 0);
        Check.due("11 is below 12", b.season(1, 12, 1, 0), 1);
        for (int seed : SEEDS) {
            int drawn = draws(seed, 7, 9, 2, 16)[0];
            WinkBank seven = AskEdges.in("house 1;felt 30;wink 0 1 1;wink 0 1 4;wink 0 1 7;wink 0 1 10;wink 0 1 13;wink 0 1 16;wink 0 1 19;"
                + "cup " + (3 * drawn) + " 5;cup " + (3 * drawn + 2) + " 5;", "1");
            Check.due("of seven by " + seed, seven.season(seed, 0, 1, 0), 1);
        }
    }

    static void season() {
        Doc.says("p32", "SEASON of so many flicks (1 to 96), Q (0 to 16): 0 WINKS IN CUPS then, 1 on the FLOOR, 2 flicks that were done, 3 coins of all HOUSES.");
        WinkBank b = AskEdges.in("house 50;house 3;felt 6;wink 0 1 2;wink 0 1 5;wink 0 1 0;cup 3 9;", "0");
        Check.play(b, "shake;");
        Check.due("IN before counts", b.season(9, 0, 1, 0), 1);
        Check.due("on the FLOOR before counts", b.season(9, 0, 1, 1), 1);
        Check.due("of all HOUSES", b.season(9, 0, 1, 2) + b.season(9, 0, 1, 3), 53);
        Check.due("shaken IN", b.season(9, 16, 2, 0), 2);
        Check.due("not yet", b.season(9, 16, 1, 0), 1);
        WinkBank most = AskEdges.in("house 96;felt 6;wink 0 1 2;", "0");
        Check.due("one", most.season(9, 0, 1, 2), 1);
        Check.due("96", most.season(9, 0, 96, 2), 96);
        Check.due("none is left", most.season(9, 0, 96, 3), 0);
        WinkBank c = Edge.busy();
        int low = Integer.MIN_VALUE;
        int high = Integer.MAX_VALUE;
        Edge.bounds("season", c, a -> c.season(a[0], a[1], a[2], a[3]), 0, Edge.row(low, 0, 1, 0), Edge.row(high, 16, 96, 3));
        WinkBank none = new WinkBank();
        Edge.bounds("season without WINKS", none, a -> none.season(a[0], a[1], a[2], a[3]), 0, Edge.row(low, 0, 1, 0), Edge.row(high, 16, 96, 3));
    }

    static void span() {
        Doc.says("p33", "Of so many SEEDS (1 to 20; seed, seed and 1, ..): 0 the fewest IN CUPS then, 1 the most, 2 by how many none is on the FLOOR.");
        WinkBank b = AskEdges.in("house 1;felt 4;wink 0 1 1;cup 2 5;", "2-press/5");
        for (int seed : new int[] {0, -3, Integer.MAX_VALUE - 10, Integer.MIN_VALUE}) {
            for (int many = 1; many <= 20; many++) {
                int[] want = spanOf(seed, many);
                for (int what = 0; what <= 2; what++) {
                    if (many < 4 || many > 17) {
                        Check.due("of " + many + " by " + seed + ", " + what, b.span(seed, many, 0, 1, what), want[what]);
                    }
                }
            }
        }
        WinkBank none = new WinkBank();
        Check.due("without WINKS, fewest", none.span(5, 20, 16, 96, 0), 0);
        Check.due("without WINKS, most", none.span(5, 20, 16, 96, 1), 0);
        Check.due("without WINKS, none on the FLOOR", none.span(5, 20, 16, 96, 2), 20);
        WinkBank ten = AskEdges.in("house 0;felt 4;" + "wink 0 1 0;".repeat(10) + "cup 1 1;", "0");
        Check.due("all IN by all", ten.span(5, 20, 16, 96, 0), 10);
        Check.due("no more IN", ten.span(5, 20, 16, 96, 1), 10);
        Check.due("nine by nine", ten.span(5, 20, 16, 9, 1), 9);
        WinkBank c = Edge.busy();
        int[] least = {Integer.MIN_VALUE, 1, 0, 1, 0};
        int[] most = {Integer.MAX_VALUE, 20, 16, 96, 2};
        Edge.bounds("span", c, a -> c.span(a[0], a[1], a[2], a[3], a[4]), 0, least, most);
    }

    /** From 1 it comes by 1 to the right IN the CUP at 2, by 2 to the left on the FLOOR, else to 0 or 3. */
    private static int[] spanOf(int seed, int many) {
        int fewest = 1;
        int most = 0;
        int clean = 0;
        for (int i = 0; i < many; i++) {
            int[] d = draws(seed + i, 1, 9, 2, 16);
            int far = 2 - (d[1] + 1) / 5;
            int in = far == 1 && d[2] == 0 ? 1 : 0;
            fewest = Math.min(fewest, in);
            most = Math.max(most, in);
            clean += far == 2 && d[2] == 1 ? 0 : 1;
        }
        return new int[] {fewest, most, clean};
    }
}

/** The document's part 2 and promises 8 to 13 and 34 to 37, sentence by sentence. */
final class PlayEdges {
    private PlayEdges() { }

    static void all() {
        atFirst();
        whereTheyAre();
        order();
        begun();
        begunAgains();
        refusedFlicks();
        flown();
        stays();
        beyond();
        intoCups();
        onTop();
        damp();
        shakes();
        shakesAtOnce();
        shakesUnpaid();
        lastDay();
        rent();
        undo();
        told();
        refusedOfTheLatest();
        house();
        wink();
        cup();
        cell();
        image();
        restore();
        status();
        count();
    }

    static void atFirst() {
        Doc.says("2", "It is DAY 0 at first, DAMP 0; WINKS lie as told (in CUPS' CELLS, too), nothing was flicked.");
        WinkBank b = Check.in("house 1;felt 9;wink 0 1 4;wink 0 1 8;wink 0 1 4;cup 4 5;cup 8 5;");
        Edge.same("all", Edge.standing(b), "0 0 1 0 0 house 1 wink 4 0 0 1 wink 8 0 0 0 wink 4 0 1 0 ");
        Check.due("none is IN the first", b.cup(0, 2), 0);
        Check.due("two lie there", b.cell(4, 0), 2);
        Check.due("none REFUSED", b.told(9), 0);
        Check.play(b, "damp 7;day;flick 2 1;");
        Check.room(b, "house 1;felt 9;wink 0 1 4;wink 0 1 8;wink 0 1 4;cup 4 5;cup 8 5;");
        Check.room(b, "house 1;felt 30;wink 0 1 0;wink 0 1 0;wink 0 1 29;");
        Check.due("the first CELL", b.cell(0, 0), 2);
        Check.due("the last CELL", b.cell(29, 0), 1);
        Check.room(b, "house 1;felt 30;wink 0 1 0;wink 0 1 29;");
        Check.due("nothing of the ROOM before at the first CELL", b.wink(0, 4) + b.wink(0, 5), 0);
        Check.due("nor at the last", b.wink(1, 4) + b.wink(1, 5), 0);
        Check.room(b, "house 1;felt 9;wink 0 1 4;wink 0 1 8;wink 0 1 4;cup 4 5;cup 8 5;");
        Edge.same("again in another ROOM", Edge.standing(b), "0 0 1 0 0 house 1 wink 4 0 0 1 wink 8 0 0 0 wink 4 0 1 0 ");
    }

    static void whereTheyAre() {
        Doc.says("2", "A WINK is FROZEN, if another one lies on it; it is IN a CUP, on the FLOOR, or on the felt.");
        WinkBank b = Check.in("house 9;felt 9;wink 0 1 4;wink 0 1 4;wink 0 1 4;wink 0 1 7;wink 0 1 2;cup 6 5;");
        Check.law(b, "press");
        Check.due("two of three, not the top, not one alone", b.told(5), 3);
        WinkBank rims = Check.in("house 9;felt 30;wink 0 1 0;wink 0 1 29;wink 0 1 0;wink 0 1 29;");
        Check.due("at both rims", rims.told(5), 3);
        Check.play(b, "flick 4 2;");
        Check.due("now the top, too", b.told(5), 7);
        Check.play(b, "flick 4 2;flick 3 2;");
        Check.due("no more", b.told(5), 3);
        Check.due("IN", b.told(6), 16);
        Check.due("FLOOR", b.told(7), 8);
        Check.due("IN is no CELL", b.wink(4, 2), -3);
        Check.due("FLOOR is no CELL", b.wink(3, 2), -2);
        Check.due("on the felt", b.wink(2, 2), 4);
        Check.play(b, "flick 2 2;");
        Check.due("two IN one CUP do not lie one on the other", b.told(5), 1);
        Check.due("IN", b.told(6), 20);
    }

    static void order() {
        Doc.says("2", "STEPS are done in order; one that can't be done is REFUSED, and changes nothing;");
        WinkBank b = Check.in("house 5;felt 20;wink 0 1 4;");
        Check.law(b, "day+1");
        Check.due("first the flick", Check.play(b, "flick 0 1;day;"), 2);
        Check.due("by 1", b.wink(0, 2), 5);
        b.undo();
        Check.due("first the day", Check.play(b, "day;flick 0 1;"), 2);
        Check.due("by 2", b.wink(0, 2), 6);
        Check.due("done behind what is REFUSED", Check.play(b, "damp 0;day;damp 0;day;"), 2);
        Check.due("two REFUSED", b.told(9), 2);
        Check.due("days", b.told(3), 3);
    }

    private static void steps(String text, int done, int refused, int damp) {
        WinkBank b = new WinkBank();
        Check.due(text, Check.play(b, text), done);
        Check.due(text + " REFUSED", b.told(9), refused);
        Check.due(text + " DAMP", b.told(4), damp);
    }

    static void begun() {
        Doc.says("2", "200 STEPS at most are begun by one PLAY");
        String six = "again 30[day;day;day;day;day;day;];";
        // 181 are begun by these, 182 with the next again
        steps(six + "again 17[day;];damp 1;", 198, 0, 1);
        steps(six + "again 18[day;];damp 1;", 198, 0, 0);
        steps(six + "again 19[day;];damp 1;", 198, 0, 0);
        steps("again 30[day;day;day;day;day;day;day;];", 199, 0, 0);
        WinkBank b = new WinkBank();
        Check.play(b, "again 30[day;day;day;day;day;day;day;];");
        Check.due("another PLAY begins anew", Check.play(b, "again 30[day;day;day;day;day;day;day;];"), 199);

        Doc.says("2", "REFUSED ones, too), what would come behind is left out.");
        String refused = "again 30[damp 0;damp 0;damp 0;damp 0;damp 0;damp 0;];";
        steps(refused + "again 17[day;];damp 1;", 18, 180, 1);
        steps(refused + "again 18[day;];damp 1;", 18, 180, 0);
        steps(refused + "again 30[damp 0;];damp 1;", 0, 198, 0);
        steps("again 30[damp 1;damp 1;damp 1;damp 1;damp 2;];", 60, 90, 2);
    }

    static void begunAgains() {
        Doc.says("2", "(an again, too, each time it is come to;");
        String agains = "again 30[again 1[];again 1[];again 1[];again 1[];again 1[];again 1[];];";
        steps(agains + "again 17[day;];damp 1;", 18, 0, 1);
        steps(agains + "again 18[day;];damp 1;", 18, 0, 0);
        steps(agains + "again 18[again 0[];];damp 1;", 0, 0, 0);
        steps(agains + "again 17[again 0[];];damp 1;", 1, 0, 1);
        steps("again 30[again 30[again 30[];];];day;", 0, 0, 0);
        steps("again 30[again 30[again 30[again 30[again 30[again 30[];];];];];];day;", 0, 0, 0);
        steps("again 30[];again 0[day;];day;", 1, 0, 0);
    }

    static void refusedFlicks() {
        Doc.says("2", "flick, back (REFUSED, if W is FROZEN or not on the felt, or its HOUSE has no coin):");
        WinkBank b = Check.in("house 3;house 0;felt 9;wink 0 1 4;wink 0 1 4;wink 1 1 8;wink 0 1 5;wink 0 1 0;cup 6 1;");
        Check.law(b, "press");
        Edge.refused(b, "flick 0 1;");
        Edge.refused(b, "back 0 1;");
        Edge.refused(b, "flick 2 1;");
        Edge.refused(b, "back 2 1;");
        Check.due("one IN, one on the FLOOR", Check.play(b, "flick 3 1;back 4 1;"), 2);
        Edge.refused(b, "flick 3 1;");
        Edge.refused(b, "back 3 1;");
        Edge.refused(b, "flick 4 1;");
        Edge.refused(b, "back 4 1;");
        Check.due("coins", b.house(0, 0), 2);
        Check.due("two more, and no third", Check.play(b, "back 1 1;back 1 1;back 1 1;"), 2);
        Check.due("REFUSED", b.told(9), 1);
        Check.due("no coin", b.house(0, 0), 0);
        Edge.refused(b, "flick 1 1;");
        Edge.refused(b, "back 0 9;");
    }

    static void flown() {
        Doc.says("2", "a coin is gone; W flies as many CELLS as FLIES by that press (coins as they were ahead of it), to the right, back to the left");
        WinkBank b = Check.in("house 3;house 9;felt 30;wink 0 1 10;");
        Check.law(b, "press*5+coins");
        Check.play(b, "flick 0 1;");
        Check.due("by 8 to the right", b.wink(0, 2), 18);
        Check.due("two coins", b.house(0, 0), 2);
        Check.play(b, "back 0 2;");
        Check.due("by 12 to the left", b.wink(0, 2), 6);
        Check.due("one coin", b.house(0, 0), 1);
        Check.play(b, "flick 0 1;");
        Check.due("by 6 to the right", b.wink(0, 2), 12);
        Check.due("none", b.house(0, 0), 0);
        Check.due("the other HOUSE's stay", b.house(1, 0), 9);

        Doc.says("2", "its SHOTS are one more.");
        WinkBank s = Check.in("house 9;felt 9;wink 0 1 4;wink 0 1 2;wink 0 1 8;wink 0 1 1;cup 3 7;");
        Check.law(s, "(press-1)*(shots+1)");
        Check.play(s, "flick 0 1;back 0 2;flick 2 2;flick 3 3;");
        Check.due("by 0, too", s.wink(0, 3), 2);
        Check.due("into a CUP, too", s.wink(3, 3), 1);
        Check.due("as they were ahead of it", s.wink(0, 2), 2);
        Check.due("on the FLOOR", s.wink(2, 3), 1);
        Check.due("another one's stay", s.wink(1, 3), 0);
    }

    static void stays() {
        Doc.says("2", "(0: it stays, and lies as it lay);");
        WinkBank b = Check.in("house 9;felt 9;wink 0 1 4;wink 0 1 4;wink 0 1 0;wink 0 1 8;cup 4 7;cup 8 7;");
        Check.law(b, "0");
        Check.due("all done", Check.play(b, "flick 1 9;back 1 9;flick 2 1;back 2 1;flick 3 1;back 3 1;"), 6);
        Check.due("on the one below", b.wink(1, 4), 1);
        Check.due("top", b.cell(4, 1), 1);
        Check.due("at the left rim", b.wink(2, 2), 0);
        Check.due("at the right rim", b.wink(3, 2), 8);
        Check.due("not IN, where there is a CUP", b.told(6), 0);
        Check.due("coins are gone, none is paid", b.house(0, 0), 3);
        Check.due("as it was", b.told(5), 1);
    }

    static void beyond() {
        Doc.says("2", "It comes down beyond the felt: on the FLOOR;");
        landing("flick 0 4;", 9, 0);
        landing("flick 0 5;", -2, 1);
        landing("flick 0 6;", -2, 1);
        landing("back 0 5;", 0, 0);
        landing("back 0 6;", -2, 1);
        landing("back 0 9;", -2, 1);
        WinkBank b = Check.in("house 2;felt 30;wink 0 1 0;wink 0 1 29;");
        Check.law(b, "60");
        Check.play(b, "flick 0 1;back 1 1;");
        Check.due("by 60", b.told(7), 3);
        Check.due("on the FLOOR none lies on another", b.told(5), 0);
    }

    private static void landing(String step, int cell, int floor) {
        WinkBank b = Check.in("house 2;felt 10;wink 0 1 5;");
        Check.law(b, "press");
        Check.due(step, Check.play(b, step), 1);
        Check.due(step + " CELL", b.wink(0, 2), cell);
        Check.due(step + " FLOOR", b.told(7), floor);
        Check.due(step + " a coin is gone", b.house(0, 0), 1);
    }

    static void intoCups() {
        Doc.says("2", "in a CUP's CELL (not by 0): IN it, its HOUSE has V coins more (9,999 at most);");
        WinkBank b = Check.in("house 1;house 5;felt 10;wink 0 1 5;wink 1 1 5;wink 1 1 9;cup 7 99;cup 0 1;");
        Check.law(b, "press");
        Check.play(b, "flick 1 2;");
        Check.due("IN", b.cup(0, 2), 1);
        Check.due("a coin less, 99 more", b.house(1, 0), 103);
        Check.due("none lies there", b.cell(7, 0), 0);
        Check.play(b, "flick 0 2;");
        Check.due("both", b.cup(0, 2), 2);
        Check.due("by its last coin", b.house(0, 0), 99);
        Check.play(b, "back 2 9;");
        Check.due("over the one into the other", b.cup(1, 2), 1);
        Check.due("paid 1", b.house(1, 0), 103);
        // coins of a HOUSE never come near 9,999: there are at most 999 by 5, and 99 by 10
        WinkBank rich = Check.in("house 999;felt 30;" + "wink 0 1 3;".repeat(10) + "cup 4 99;");
        Check.law(rich, "1");
        Check.due("ten flicks", Check.play(rich, "flick 9 1;flick 8 1;flick 7 1;flick 6 1;flick 5 1;"), 5);
        Check.due("ten flicks", Check.play(rich, "flick 4 1;flick 3 1;flick 2 1;flick 1 1;flick 0 1;"), 5);
        Check.due("nothing is cut at 999", rich.house(0, 0), 999 + 980);
        Check.due("ten IN one CUP", rich.cup(0, 2), 10);
    }

    static void onTop() {
        Doc.says("2", "else on top of what lies there.");
        WinkBank b = Check.in("house 9;felt 9;wink 0 1 4;wink 0 1 4;wink 0 9 1;wink 0 1 7;");
        Check.law(b, "3");
        Check.play(b, "flick 2 1;");
        Check.due("two under it", b.wink(2, 4), 2);
        Check.due("top", b.cell(4, 1), 2);
        Check.play(b, "back 3 1;");
        Check.due("three under it", b.wink(3, 4), 3);
        Check.due("one on the other one", b.wink(2, 5), 1);
        Check.due("lowest", b.cell(4, 2), 0);
        Check.play(b, "flick 3 1;");
        Check.due("off again", b.wink(2, 5), 0);
        Check.due("on a bare CELL", b.wink(3, 4), 0);
        WinkBank low = Check.in("house 9;felt 9;wink 0 1 1;wink 0 1 4;wink 0 1 4;wink 0 1 7;");
        Check.law(low, "3");
        Check.play(low, "flick 0 1;");
        Check.due("a lesser number on greater ones", low.wink(0, 4), 2);
        Check.due("one on that below", low.wink(2, 5), 1);
        Check.play(low, "flick 0 1;");
        Check.due("off and on another one", low.wink(0, 4), 1);
        Check.due("the two lie as they lay", low.wink(1, 4) * 10 + low.wink(1, 5), 1);
        Check.due("the two lie as they lay", low.wink(2, 4) * 10 + low.wink(2, 5), 10);
        Check.due("the one below", low.wink(3, 4) * 10 + low.wink(3, 5), 1);
    }

    static void damp() {
        Doc.says("2", "damp: DAMP is N (REFUSED, if it is).");
        WinkBank b = new WinkBank();
        Edge.refused(b, "damp 0;");
        Check.due("9", Check.play(b, "damp 9;"), 1);
        Check.due("DAMP", b.told(4), 9);
        Edge.refused(b, "damp 9;");
        Check.due("0 again", Check.play(b, "damp 0;"), 1);
        Check.due("DAMP", b.told(4), 0);
        Check.due("to and fro", Check.play(b, "damp 1;damp 1;damp 0;damp 1;"), 3);
        Check.due("REFUSED", b.told(9), 1);
    }

    static void shakes() {
        Doc.says("2", "shake: WINKS on the felt that are not FROZEN as it begins, by number, go one CELL to the right each, as if they flew there");
        WinkBank b = Check.in("house 0;felt 6;wink 0 1 2;wink 0 1 2;wink 0 1 5;wink 0 1 0;wink 0 1 3;cup 1 9;cup 0 9;");
        Check.due("one STEP", Check.play(b, "shake;"), 1);
        Check.due("FROZEN as it began: stays, free as it is then", b.wink(0, 2), 2);
        Check.due("the top goes", b.wink(1, 2), 3);
        Check.due("beyond the felt", b.wink(2, 2), -2);
        Check.due("out of a CUP's CELL into a CUP", b.wink(3, 2), -3);
        Check.due("IN", b.cup(0, 2), 1);
        Check.due("behind WINK 1", b.wink(4, 2), 4);
        Check.due("none FROZEN", b.told(5), 0);
        Check.due("shaken once more", Check.play(b, "shake;"), 1);
        Check.due("now it goes", b.wink(0, 2), 3);
        Check.due("who is on the FLOOR stays", b.wink(2, 2), -2);
        Check.due("who is IN stays", b.wink(3, 2), -3);
    }

    static void shakesAtOnce() {
        Doc.says("2", "(what came to lie on one meanwhile lies one lower),");
        WinkBank b = Check.in("house 0;felt 6;wink 0 1 0;wink 0 1 1;");
        Check.play(b, "shake;");
        Check.due("came on WINK 1, which then went", b.wink(0, 4), 0);
        Check.due("where it was", b.wink(0, 2), 1);
        Check.due("WINK 1", b.wink(1, 2), 2);
        Check.due("none FROZEN", b.told(5), 0);
        WinkBank c = Check.in("house 0;felt 6;wink 0 1 0;wink 0 1 1;wink 0 1 1;");
        Check.play(c, "shake;");
        Check.due("on WINK 1 still", c.wink(0, 4), 1);
        Check.due("WINK 1 is FROZEN", c.told(5), 2);
        Check.due("top", c.cell(1, 1), 0);
        WinkBank d = Check.in("house 0;felt 6;wink 0 1 1;wink 0 1 0;");
        Check.play(d, "shake;");
        Check.due("WINK 0 went first", d.wink(1, 4), 0);
        WinkBank e = Check.in("house 0;felt 6;wink 0 1 1;wink 0 1 1;wink 0 1 0;wink 0 1 2;");
        Check.play(e, "shake;");
        Check.due("WINK 1 came on WINK 3, WINK 2 on WINK 0", e.told(5), 1);
        Check.due("WINK 2", e.wink(2, 4), 1);
        Check.due("WINK 1 lies one lower", e.wink(1, 4), 0);
        Check.due("WINK 3", e.wink(3, 2), 3);
    }

    static void shakesUnpaid() {
        Doc.says("2", "but nobody is paid or pays, and no SHOT is counted (REFUSED, if there are none such).");
        WinkBank b = Check.in("house 5;house 0;felt 4;wink 0 1 0;wink 1 1 2;cup 1 9;cup 3 9;");
        Check.due("shake", Check.play(b, "shake;"), 1);
        Check.due("both IN", b.told(6), 3);
        Check.due("coins", b.house(0, 0), 5);
        Check.due("no coin is asked", b.house(1, 0), 0);
        Check.due("SHOTS", b.wink(0, 3) + b.wink(1, 3), 0);
        Edge.refused(b, "shake;");
        WinkBank none = new WinkBank();
        Edge.refused(none, "shake;");
        WinkBank floor = Check.in("house 0;felt 4;wink 0 1 3;");
        Check.due("off the felt", Check.play(floor, "shake;shake;shake;"), 1);
        Check.due("two REFUSED", floor.told(9), 2);
        Edge.refused(floor, "shake;");
    }

    static void lastDay() {
        Doc.says("2", "day (REFUSED on DAY 500):");
        WinkBank b = Check.in("house 999;house 0;wink 0 1 0;wink 1 1 0;");
        Check.play(b, "again 30[day;day;day;day;day;day;];");
        Check.play(b, "again 30[day;day;day;day;day;day;];");
        Check.play(b, "again 30[day;day;day;day;];again 19[day;];");
        Check.due("DAY", b.told(3), 499);
        Check.due("the last", Check.play(b, "day;"), 1);
        Check.due("DAY", b.told(3), 500);
        Check.due("paid", b.house(1, 0), 500);
        Edge.refused(b, "day;");
        Check.due("the others go on", Check.play(b, "damp 1;day;damp 2;"), 2);
        b.undo();
        b.undo();
        b.undo();
        Check.due("one day back", b.told(3), 499);
        Check.due("done again", Check.play(b, "day;day;"), 1);

        Doc.says("2", "the DAY is one more.");
        WinkBank bare = new WinkBank();
        Check.due("without any WINK", Check.play(bare, "day;"), 1);
        Check.due("DAY 1", bare.told(3), 1);
    }

    static void rent() {
        Doc.says("2", "for each WINK that is FROZEN, by number, its HOUSE pays a coin to that of the WINK on top of all there, if it has one (9,999 at most there);");
        WinkBank b = Check.in("house 5;house 6;house 7;house 8;wink 0 1 3;wink 1 1 3;wink 2 1 3;wink 3 1 9;");
        Check.play(b, "day;");
        Check.due("the lowest pays", b.house(0, 0), 4);
        Check.due("the middle pays, and has nothing of it", b.house(1, 0), 5);
        Check.due("the top has both", b.house(2, 0), 9);
        Check.due("who lies alone", b.house(3, 0), 8);
        WinkBank poor = Check.in("house 1;house 0;house 0;wink 0 1 3;wink 0 1 3;wink 1 1 3;wink 2 1 3;");
        Check.play(poor, "day;");
        Check.due("its one coin", poor.house(0, 0), 0);
        Check.due("no coin", poor.house(1, 0), 0);
        Check.due("the top has one", poor.house(2, 0), 1);
        Check.play(poor, "day;day;");
        Check.due("no more", poor.house(2, 0), 1);
        // WINK 0 pays HOUSE 1, who then can pay for WINK 1; by the other numbers it can't
        WinkBank round = Check.in("house 1;house 0;house 0;wink 0 1 3;wink 1 1 5;wink 1 1 3;wink 2 1 5;");
        Check.play(round, "day;");
        Check.due("it goes on", round.house(2, 0), 1);
        WinkBank other = Check.in("house 1;house 0;house 0;wink 1 1 5;wink 0 1 3;wink 1 1 3;wink 2 1 5;");
        Check.play(other, "day;");
        Check.due("it stays there", other.house(1, 0), 1);
        WinkBank many = Check.in("house 9;house 0;felt 30;" + "wink 0 1 29;".repeat(9) + "wink 1 1 29;");
        Check.play(many, "day;");
        Check.due("a coin for each of nine", many.house(0, 0), 0);
        Check.due("nine on top of all", many.house(1, 0), 9);
        WinkBank own = Check.in("house 1;wink 0 1 3;wink 0 1 3;");
        Check.play(own, "day;");
        Check.due("to itself", own.house(0, 0), 1);
        WinkBank most = Check.in("house 999;house 999;wink 0 1 3;wink 1 1 3;");
        Check.play(most, "day;");
        Check.due("nothing is cut at 999", most.house(1, 0), 1000);
        WinkBank out = Check.in("house 9;house 7;felt 4;wink 0 1 3;wink 1 1 3;cup 2 1;wink 1 1 1;wink 0 1 1;");
        Check.play(out, "shake;shake;day;");
        Check.due("two on the FLOOR", out.told(7), 3);
        Check.due("two IN one CUP", out.told(6), 12);
        Check.due("who is IN or on the FLOOR pays nothing", out.house(0, 0), 9);
        Check.due("and has nothing", out.house(1, 0), 7);
        WinkBank floor = Check.in("house 9;house 7;felt 4;wink 0 1 3;wink 1 1 3;");
        Check.play(floor, "shake;shake;day;");
        Check.due("on the FLOOR none pays", floor.house(0, 0), 9);
    }

    // ---- promises ----

    static void undo() {
        Doc.says("p8", "The latest PLAY that was done is undone: how many are left; -1: there is none.");
        WinkBank b = Check.in("house 9;house 9;felt 9;wink 0 1 4;wink 1 1 4;wink 0 1 1;cup 6 7;");
        Check.law(b, "press");
        Check.due("none", b.undo(), -1);
        String first = Edge.standing(b);
        Check.play(b, "damp 3;day;flick 1 2;flick 2 3;");
        String second = Edge.standing(b);
        Check.play(b, "back 2 9;shake;day;damp 0;");
        Check.play(b, "");
        Check.play(b, "damp 0;");
        Check.play(b, "foo;");
        Check.due("four", b.count(2), 4);
        Check.due("one that did nothing", b.undo(), 3);
        Check.due("one without STEPS", b.undo(), 2);
        Check.due("and one", b.undo(), 1);
        Edge.same("as it was", Edge.standing(b), second);
        Check.due("the first", b.undo(), 0);
        Edge.same("as told", Edge.standing(b), first);
        Check.due("none is left", b.undo(), -1);
        Edge.same("nothing is done then", Edge.standing(b), first);
        Check.due("LAW stays", b.flies(0, 9), 9);
        fullRoomUndone();
        for (int i = 0; i < 16; i++) {
            Check.play(b, "day;");
        }
        for (int left = 15; left >= 0; left--) {
            Check.due("of sixteen", b.undo(), left);
            Check.due("DAY", b.told(3), left);
        }
        Check.due("none is left", b.undo(), -1);
    }

    /** As many HOUSES, WINKS and CUPS as can be, all of which PLAY changes. */
    private static void fullRoomUndone() {
        WinkBank b = Check.in("house 5;house 6;house 7;house 8;house 9;felt 30;wink 0 1 0;wink 1 1 0;wink 2 1 0;wink 3 1 0;wink 4 1 29;"
            + "wink 4 1 29;wink 3 1 9;wink 2 1 9;wink 1 1 9;wink 4 1 9;cup 1 5;cup 28 6;cup 10 7;cup 8 8;");
        Check.law(b, "1");
        String first = Edge.standing(b);
        b.image();
        Check.play(b, "damp 9;day;day;flick 3 1;back 5 1;back 9 1;flick 8 1;flick 2 2;");
        String second = Edge.standing(b);
        Check.due("five IN", Integer.bitCount(b.told(6)), 5);
        Check.play(b, "shake;day;damp 0;shake;flick 4 1;back 0 1;back 6 1;");
        Check.due("undone", b.undo(), 1);
        Edge.same("as it was", Edge.standing(b), second);
        Check.due("at the first CELL", b.cell(0, 0), 2);
        Check.due("undone", b.undo(), 0);
        Edge.same("as told", Edge.standing(b), first);
        Check.due("at the first CELL", b.cell(0, 0), 4);
        Check.due("at the last CELL", b.cell(29, 0), 2);
        Check.play(b, "flick 3 1;shake;day;");
        Check.due("restored", b.restore(), 0);
        Edge.same("as in the IMAGE", Edge.standing(b), first);
    }

    static void told() {
        Doc.says("p9", "0 HOUSES, 1 WINKS, 2 CUPS, 3 the DAY, 4 DAMP, 5 FROZEN ones (bits), 6 WINKS IN CUPS (bits), 7 on the FLOOR (bits), 8 lines of the BOOK,");
        WinkBank b = Check.in("house 9;house 8;felt 30;nap 6;" + "wink 0 1 5;".repeat(10) + "cup 7 1;cup 8 1;cup 9 1;");
        Check.law(b, "press");
        Check.book(b, "1 1;2 2;3 3;4 4;");
        Check.play(b, "day;day;damp 7;");
        int[] want = {2, 10, 3, 2, 7, 511, 0, 0, 4, 0, 30, 6};
        for (int what = 0; what < want.length; what++) {
            Check.due("told " + what, b.told(what), want[what]);
        }
        Check.play(b, "flick 9 2;");
        Check.due("WINK 9 is bit 9", b.told(6), 512);
        Check.due("WINK 8 is free", b.told(5), 255);
        Check.play(b, "back 8 6;flick 7 1;");
        Check.due("WINK 8 is bit 8", b.told(7), 256);
        Check.due("WINK 0 is bit 0", b.told(5), 63);
        WinkBank one = Check.in("house 9;felt 4;wink 0 1 3;");
        Check.play(one, "shake;");
        Check.due("WINK 0 is bit 0 there", one.told(7), 1);

        Doc.says("p9", "10 CELLS of the felt, 11 NAP. IllegalArgumentException: another what (so below).");
        Check.due("CELLS", b.told(10), 30);
        Check.due("NAP", b.told(11), 6);
        WinkBank c = Edge.busy();
        Edge.bounds("told", c, a -> c.told(a[0]), 0, Edge.row(0), Edge.row(11));
    }

    static void refusedOfTheLatest() {
        Doc.says("p9", "9 STEPS REFUSED by the latest PLAY (0 ahead of any, behind undo(), restore()),");
        WinkBank b = new WinkBank();
        Check.due("ahead of any", b.told(9), 0);
        Check.play(b, "damp 0;damp 0;damp 0;");
        Check.due("three", b.told(9), 3);
        Check.play(b, "damp 0;damp 1;");
        Check.due("of the latest alone", b.told(9), 1);
        b.undo();
        Check.due("behind undo()", b.told(9), 0);
        Check.play(b, "damp 0;damp 0;");
        b.image();
        Check.due("behind image()", b.told(9), 2);
        Check.play(b, "damp 0;");
        b.restore();
        Check.due("behind restore()", b.told(9), 0);
        Check.play(b, "damp 0;damp 0;");
        Check.play(b, "foo;");
        Check.due("a FAULT is no PLAY", b.told(9), 2);
        Check.play(b, "");
        Check.due("one without STEPS", b.told(9), 0);
    }

    static void house() {
        Doc.says("p10", "Of a HOUSE: 0 coins, 1 its WINKS (bits), 2 those of them that can be flicked (bits; coins not asked).");
        WinkBank b = Check.in("house 0;house 4;house 6;felt 9;wink 0 1 3;wink 1 1 3;wink 0 1 8;wink 0 1 7;wink 1 1 5;wink 0 1 3;cup 8 1;");
        int[][] want = {{0, 45, 44}, {4, 18, 16}, {6, 0, 0}};
        for (int h = 0; h < 3; h++) {
            for (int what = 0; what < 3; what++) {
                Check.due("house " + h + " " + what, b.house(h, what), want[h][what]);
            }
        }
        Check.play(b, "shake;");
        Check.due("also those not on the felt", b.house(0, 1), 45);
        Check.due("IN and on the FLOOR they can't, nor FROZEN", b.house(0, 2), 32);
        Check.due("freed", b.house(1, 2), 18);

        Doc.says("p10", "NoSuchElementException: no such HOUSE, WINK, CUP, CELL (so below, ahead of others).");
        WinkBank c = Edge.busy();
        Edge.bounds("house", c, a -> c.house(a[0], a[1]), 1, Edge.row(0, 0), Edge.row(1, 2));
        WinkBank none = new WinkBank();
        Check.noSuch("no HOUSE at all", none, () -> none.house(0, 0));
        Check.noSuch("no WINK at all", none, () -> none.wink(0, 0));
        Check.noSuch("no CUP at all", none, () -> none.cup(0, 0));
        Check.noSuch("no CELL 12", none, () -> none.cell(12, 0));
    }

    static void wink() {
        Doc.says("p11", "Of a WINK: 0 HOUSE, 1 SIZE, 2 its CELL (-2: on the FLOOR; -3: IN a CUP), 3 SHOTS, 4 how many lie under it, 5 how many on it.");
        WinkBank b = Check.in("house 9;house 9;felt 9;wink 1 7 3;wink 0 8 3;wink 1 9 3;wink 0 6 8;cup 4 5;cup 5 5;cup 6 5;cup 7 5;");
        Check.law(b, "press");
        int[][] want = {{1, 7, 3, 0, 0, 2}, {0, 8, 3, 0, 1, 1}, {1, 9, 3, 0, 2, 0}, {0, 6, 8, 0, 0, 0}};
        for (int w = 0; w < 4; w++) {
            for (int what = 0; what < 6; what++) {
                Check.due("wink " + w + " " + what, b.wink(w, what), want[w][what]);
            }
        }
        Check.play(b, "flick 3 1;flick 2 1;flick 1 4;flick 0 2;");
        int[][] then = {{1, 7, -3, 1, 0, 0}, {0, 8, -3, 1, 0, 0}, {1, 9, -3, 1, 0, 0}, {0, 6, -2, 1, 0, 0}};
        for (int w = 0; w < 4; w++) {
            for (int what = 0; what < 6; what++) {
                Check.due("then wink " + w + " " + what, b.wink(w, what), then[w][what]);
            }
        }
        WinkBank c = Edge.busy();
        Edge.bounds("wink", c, a -> c.wink(a[0], a[1]), 1, Edge.row(0, 0), Edge.row(2, 5));
    }

    static void cup() {
        Doc.says("p12", "Of a CUP: 0 X, 1 V, 2 how many WINKS are IN it.");
        WinkBank b = Check.in("house 9;felt 9;wink 0 1 3;wink 0 1 3;wink 0 1 3;cup 5 99;cup 0 1;cup 3 50;");
        Check.law(b, "press");
        Check.due("X", b.cup(0, 0), 5);
        Check.due("V", b.cup(0, 1), 99);
        Check.due("X", b.cup(1, 0), 0);
        Check.due("V", b.cup(1, 1), 1);
        Check.due("who lie there are not IN", b.cup(2, 2), 0);
        Check.play(b, "flick 2 2;flick 1 2;back 0 3;");
        Check.due("two", b.cup(0, 2), 2);
        Check.due("one", b.cup(1, 2), 1);
        Check.due("none", b.cup(2, 2), 0);
        WinkBank c = Edge.busy();
        Edge.bounds("cup", c, a -> c.cup(a[0], a[1]), 1, Edge.row(0, 0), Edge.row(1, 2));
    }

    static void cell() {
        Doc.says("p13", "Of a CELL: 0 how many lie there, 1 the one on top, 2 the lowest one (NONE both without), 3 the CUP there (NONE).");
        WinkBank b = Check.in("house 9;felt 9;wink 0 1 3;wink 0 1 0;wink 0 1 3;wink 0 1 3;wink 0 1 8;cup 5 9;cup 8 9;");
        int[][] want = {{0, 1, 1, 1, -1}, {3, 3, 3, 0, -1}, {4, 0, -1, -1, -1}, {5, 0, -1, -1, 0}, {8, 1, 4, 4, 1}};
        for (int[] row : want) {
            for (int what = 0; what < 4; what++) {
                Check.due("cell " + row[0] + " " + what, b.cell(row[0], what), row[what + 1]);
            }
        }
        Check.law(b, "2");
        Check.play(b, "flick 3 1;");
        Check.due("who is IN does not lie there", b.cell(5, 0), 0);
        Check.due("none on top", b.cell(5, 1), -1);
        Check.room(b, "house 9;felt 9;wink 0 1 3;wink 0 1 0;");
        Check.due("nothing of the ROOM before", b.cell(8, 1), -1);
        Check.due("nothing of the ROOM before, lowest", b.cell(8, 2), -1);
        WinkBank ten = Check.in("house 0;felt 30;" + "wink 0 1 29;".repeat(10));
        Check.due("ten, top", ten.cell(29, 1), 9);
        Check.due("ten, lowest", ten.cell(29, 2), 0);
        Check.due("ten, a bare CELL", ten.cell(0, 1), -1);
        WinkBank c = Edge.busy();
        Edge.bounds("cell", c, a -> c.cell(a[0], a[1]), 1, Edge.row(0, 0), Edge.row(19, 3));
    }

    static void image() {
        Doc.says("p34", "An IMAGE of all that PLAY changes, and of the PLAYS that can be undone: how many there are; -1: there are 3.");
        WinkBank b = Edge.busy();
        b.restore();
        String before = Edge.standing(b);
        Check.due("one", b.image(), 1);
        Edge.same("nothing is changed by it", Edge.standing(b), before);
        Check.due("PLAYS stay", b.count(2), 1);
        Check.play(b, "damp 5;day;flick 1 9;back 2 3;shake;");
        String second = Edge.standing(b);
        Check.due("two", b.image(), 2);
        Check.play(b, "day;");
        Check.due("three", b.image(), 3);
        Check.due("no fourth", b.image(), -1);
        Check.due("still three", b.count(0), 3);
        b.undo();
        b.undo();
        b.undo();
        Check.law(b, "9");
        Check.book(b, "4 4;");
        Check.due("no PLAY", b.count(2), 0);
        b.restore();
        Check.due("the third's PLAYS", b.count(2), 3);
        b.undo();
        Edge.same("they can be undone", Edge.standing(b), second);
        b.restore();
        Edge.same("the second", Edge.standing(b), second);
        Check.due("its PLAYS", b.count(2), 2);
        b.undo();
        Edge.same("undone", Edge.standing(b), before);
        Check.due("the LAW is not in it", b.flies(0, 1), 9);
        Check.due("nor the BOOK", b.told(8), 1);
        Check.due("room for one more", b.image(), 2);
        WinkBank full = new WinkBank();
        full.image();
        for (int i = 0; i < 16; i++) {
            full.play(0);
        }
        Check.due("full", full.play(0), -20);
        full.image();
        full.undo();
        full.restore();
        Check.due("full as in the IMAGE", full.play(0), -20);
        full.restore();
        Check.due("empty as in the IMAGE", full.play(0), 0);
        Check.due("one", full.count(2), 1);
    }

    static void restore() {
        Doc.says("p35", "All is as in the latest IMAGE, which is gone: how many are left; -1: there is none.");
        WinkBank b = Check.in("house 9;felt 9;wink 0 1 0;");
        Check.due("none", b.restore(), -1);
        for (int i = 1; i <= 3; i++) {
            Check.play(b, "day;");
            b.image();
        }
        Check.play(b, "day;damp 3;");
        for (int left = 2; left >= 0; left--) {
            Check.due("restore", b.restore(), left);
            Check.due("DAY", b.told(3), left + 1);
            Check.due("DAMP", b.told(4), 0);
            Check.due("PLAYS", b.count(2), left + 1);
            Check.due("IMAGES", b.count(0), left);
        }
        Check.play(b, "damp 0;damp 7;");
        String before = Edge.seen(b);
        Check.due("none is left", b.restore(), -1);
        Edge.same("nothing is done then", Edge.seen(b), before);
        Check.feed(b, "damp 8;");
        b.image();
        b.restore();
        Check.due("the TAPE is not in it", b.count(1), 20);
    }

    static void status() {
        Doc.says("p36", "How many calls were refused: 0 NoSuchElementException, 1 IllegalArgumentException; NONE for others. (No IMAGE keeps it.)");
        WinkBank b = Check.in("house 9;wink 0 1 0;");
        Check.due("none", b.status(0), 0);
        Check.due("none", b.status(1), 0);
        b.image();
        Check.noSuch("both are wrong", b, () -> b.wink(1, 9));
        Check.illegal("one is wrong", b, () -> b.wink(0, 9));
        Check.illegal("n is wrong", b, () -> b.room(1));
        Check.due("one", b.status(0), 1);
        Check.due("two", b.status(1), 2);
        b.restore();
        Check.due("behind restore(), one", b.status(0), 1);
        Check.due("behind restore(), two", b.status(1), 2);
        Check.play(b, "damp 0;foo");
        b.undo();
        Check.due("answers below 0 are none", b.status(1), 2);
        Check.room(b, "");
        Check.due("behind another ROOM", b.status(1), 2);
        for (int what : new int[] {-1, 2, 3, Integer.MIN_VALUE, Integer.MAX_VALUE}) {
            Check.due("status " + what, b.status(what), -1);
        }
        Check.due("none of these is refused", b.status(0) + b.status(1), 3);
    }

    static void count() {
        Doc.says("p37", "0 IMAGES, 1 bytes of the TAPE, 2 PLAYS that can be undone; NONE for others.");
        WinkBank b = new WinkBank();
        b.feed(0, 0, 0, 0, 0);
        b.feed(0, 0, 0, 0, 0);
        Check.due("IMAGES", b.count(0), 0);
        Check.due("bytes", b.count(1), 40);
        Check.due("PLAYS", b.count(2), 0);
        b.play(0);
        b.play(0);
        b.play(0);
        b.image();
        b.undo();
        Check.due("IMAGES", b.count(0), 1);
        Check.due("bytes", b.count(1), 0);
        Check.due("PLAYS", b.count(2), 2);
        for (int what : new int[] {-1, 3, 4, Integer.MIN_VALUE, Integer.MAX_VALUE}) {
            Check.due("count " + what, b.count(what), -1);
        }
        Check.due("none of these is refused", b.status(0) + b.status(1), 0);
    }
}

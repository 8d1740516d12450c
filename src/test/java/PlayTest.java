/** Section 2 and promises 5, 8 to 13, 34 to 37: what STEPS do, what lies where then, undone and kept. */
public final class PlayTest {
    public static void main(String[] args) {
        flicks();
        stays();
        refusals();
        begunSteps();
        shakes();
        rents();
        lastDay();
        lying();
        undone();
        images();
        counted();
        wrongAsked();
        Check.done();
    }

    static void flicks() {
        WinkBank b = Check.in("house 3;house 3;felt 10;wink 0 1 1;wink 1 2 4;cup 7 50;");
        Check.law(b, "coins");
        Check.due("flick", Check.play(b, "flick 0 9;"), 1);
        Check.due("by coins as they were, on top", b.wink(0, 2), 4);
        Check.due("a coin is gone", b.house(0, 0), 2);
        Check.due("shots", b.wink(0, 3), 1);
        Check.due("under", b.wink(0, 4), 1);
        Check.due("on it", b.wink(1, 5), 1);
        Check.due("frozen", b.told(5), 2);
        Check.due("back", Check.play(b, "back 0 1;"), 1);
        Check.due("to the left", b.wink(0, 2), 2);
        Check.due("none frozen", b.told(5), 0);
        Check.due("into the cup", Check.play(b, "flick 1 1;"), 1);
        Check.due("in", b.wink(1, 2), -3);
        Check.due("paid", b.house(1, 0), 52);
        Check.due("in bits", b.told(6), 2);
        Check.due("how many in", b.cup(0, 2), 1);
        Check.due("none lies there", b.cell(7, 0), 0);
        Check.law(b, "press+1");
        Check.due("left of the felt", Check.play(b, "back 0 2;"), 1);
        Check.due("on the floor", b.wink(0, 2), -2);
        Check.due("floor bits", b.told(7), 1);
        WinkBank c = Check.in("house 9;felt 4;wink 0 1 3;");
        Check.law(c, "1");
        Check.due("right of the felt", Check.play(c, "flick 0 1;"), 1);
        Check.due("on the floor there", c.wink(0, 2), -2);
        Check.law(c, "shots*10+day");
        Check.room(c, "house 9;felt 30;wink 0 1 3;");
        Check.law(c, "shots*10+day");
        Check.due("shots as they were", Check.play(c, "flick 0 1;day;flick 0 1;"), 3);
        Check.due("first 0, then 11", c.wink(0, 2), 14);
    }

    static void stays() {
        WinkBank b = Check.in("house 5;felt 10;nap 9;wink 0 1 3;wink 0 1 3;cup 3 9;");
        Check.due("flicks by 0", Check.play(b, "flick 1 1;back 1 1;"), 2);
        Check.due("as it lay", b.wink(1, 4), 1);
        Check.due("its cell", b.wink(1, 2), 3);
        Check.due("not in", b.told(6), 0);
        Check.due("coins gone", b.house(0, 0), 3);
        Check.due("shots", b.wink(1, 3), 2);
        Check.due("no press", b.presses(1, 0), 0);
        Check.due("no gain", b.gain(0, 0), 0);
    }

    static void refusals() {
        WinkBank b = Check.in("house 2;house 0;felt 10;wink 0 1 0;wink 0 1 5;wink 1 1 5;");
        Check.law(b, "press");
        Check.due("all refused", Check.play(b, "flick 1 1;flick 2 1;damp 0;"), 0);
        Check.due("three", b.told(9), 3);
        Check.due("coins", b.house(0, 0), 2);
        Check.due("to the floor, not again", Check.play(b, "back 0 1;flick 0 1;back 0 1;damp 3;damp 3;damp 0;"), 3);
        Check.due("three of six", b.told(9), 3);
        Check.due("one coin", b.house(0, 0), 1);
        Check.due("damp back", b.told(4), 0);
        WinkBank none = new WinkBank();
        Check.due("no wink to shake", Check.play(none, "shake;"), 0);
        Check.due("refused", none.told(9), 1);
    }

    static void begunSteps() {
        WinkBank b = new WinkBank();
        Check.due("as many steps as a text holds", Check.play(b, "day;".repeat(37)), 37);
        b.undo();
        Check.due("199 days", Check.play(b, "again 30[day;day;day;day;day;day;day;day;];damp 5;"), 199);
        Check.due("199", b.told(3), 199);
        Check.due("left out, not refused", b.told(9), 0);
        Check.due("no damp", b.told(4), 0);
        b.undo();
        Check.due("agains count", Check.play(b, "again 30[again 10[day;];];"), 180);
        b.undo();
        Check.due("refused ones count", Check.play(b, "again 30[damp 0;damp 0;damp 0;damp 0;damp 0;];day;again 30[day;day;];"), 48);
        Check.due("150 refused", b.told(9), 150);
        b.undo();
        Check.due("empty agains", Check.play(b, "again 30[again 30[again 30[again 30[again 30[again 30[];];];];];];day;"), 0);
        Check.due("not one more", b.told(3), 0);
        Check.due("again 0", Check.play(b, "again 0[day;];day;"), 1);
        Check.due("again empty", Check.play(b, "again 30[];day;"), 1);
        Check.due("181 empty ones", Check.play(b, "again 30[again 0[];again 0[];again 0[];again 0[];again 0[];again 0[];];day;day;"), 2);
        b.undo();
        Check.due("200 begun", Check.play(b, "again 30[again 0[];again 0[];again 0[];again 0[];again 0[];again 0[];];again 9[day;];again 8[again 0[];];day;"), 9);
    }

    static void shakes() {
        WinkBank b = Check.in("house 1;felt 5;wink 0 1 0;wink 0 1 1;");
        Check.due("shake", Check.play(b, "shake;"), 1);
        Check.due("0 goes on 1, then lies lower", b.wink(0, 4), 0);
        Check.due("0", b.wink(0, 2), 1);
        Check.due("1", b.wink(1, 2), 2);
        WinkBank c = Check.in("house 0;felt 5;wink 0 1 0;wink 0 1 1;wink 0 1 1;");
        Check.due("shake without coins", Check.play(c, "shake;"), 1);
        Check.due("on what is left", c.wink(0, 4), 1);
        Check.due("frozen stays", c.wink(1, 2), 1);
        Check.due("2 goes", c.wink(2, 2), 2);
        Check.due("frozen still", c.told(5), 2);
        Check.due("shots", c.wink(0, 3), 0);
        WinkBank d = Check.in("house 4;felt 4;wink 0 1 3;wink 0 1 1;wink 0 1 0;cup 2 9;cup 0 5;");
        Check.due("shake", Check.play(d, "shake;"), 1);
        Check.due("floor", d.told(7), 1);
        Check.due("in", d.told(6), 2);
        Check.due("out of a cup's cell", d.wink(2, 2), 1);
        Check.due("nobody is paid", d.house(0, 0), 4);
        Check.due("shake on", Check.play(d, "shake;shake;"), 1);
        Check.due("one refused", d.told(9), 1);
        Check.due("both in", d.cup(0, 2), 2);
    }

    static void rents() {
        WinkBank b = Check.in("house 2;house 0;house 5;felt 4;wink 0 1 0;wink 0 1 0;wink 2 1 0;wink 1 1 0;");
        Check.due("ahead 0", b.ahead(1, 0), 0);
        Check.due("ahead 1", b.ahead(1, 1), 3);
        Check.due("ahead 2", b.ahead(1, 2), 4);
        Check.due("ahead 100", b.ahead(1, 100), 7);
        Check.due("ahead payer", b.ahead(0, 1), 0);
        Check.due("asked only", b.house(1, 0), 0);
        Check.due("day", Check.play(b, "day;"), 1);
        Check.due("house 0", b.house(0, 0), 0);
        Check.due("house 1", b.house(1, 0), 3);
        Check.due("house 2", b.house(2, 0), 4);
        Check.due("days", Check.play(b, "again 30[day;];"), 30);
        Check.due("house 1 then", b.house(1, 0), 7);
        WinkBank c = Check.in("house 2;wink 0 1 0;wink 0 1 0;");
        Check.due("to itself", c.ahead(0, 9), 2);
        WinkBank d = Check.in("house 0;house 1;wink 1 1 0;wink 0 1 0;wink 1 1 0;");
        // wink 0 pays its own house, wink 1's house has none
        Check.due("by number", d.ahead(1, 1), 1);
        WinkBank e = Check.in("house 0;house 1;house 0;wink 1 1 0;wink 2 1 5;wink 0 1 0;wink 2 1 0;wink 1 1 5;");
        // wink 0 pays house 2, by which wink 1 has one to pay house 1
        Check.due("a coin goes round", e.ahead(1, 1), 1);
        Check.due("house 2", e.ahead(2, 1), 0);
        Check.illegal("ahead -1", b, () -> b.ahead(0, -1));
        Check.illegal("ahead 101", b, () -> b.ahead(0, 101));
        Check.noSuch("ahead of none", b, () -> b.ahead(3, 101));
    }

    static void lastDay() {
        WinkBank b = Check.in("house 999;house 0;felt 4;wink 0 1 0;wink 1 1 0;");
        Check.due("180", Check.play(b, "again 30[again 10[day;];];"), 180);
        Check.due("360", Check.play(b, "again 30[again 10[day;];];"), 180);
        Check.due("500", Check.play(b, "again 30[again 10[day;];];"), 140);
        Check.due("40 refused", b.told(9), 40);
        Check.due("day 500", b.told(3), 500);
        Check.due("coins", b.house(1, 0), 500);
        Check.due("ahead beyond", b.ahead(1, 100), 600);
        Check.due("day 500 still", b.told(3), 500);
    }

    static void lying() {
        WinkBank b = Check.in("house 1;house 2;felt 9;nap 7;wink 0 3 4;wink 1 4 4;wink 0 5 4;wink 1 6 8;cup 8 3;cup 2 4;");
        int[] told = {2, 4, 2, 0, 0, 3, 0, 0, 0, 0, 9, 7};
        for (int what = 0; what < told.length; what++) {
            Check.due("told " + what, b.told(what), told[what]);
        }
        Check.due("own", b.house(0, 1), 5);
        Check.due("free", b.house(0, 2), 4);
        Check.due("own", b.house(1, 1), 10);
        Check.due("free", b.house(1, 2), 8);
        int[] middle = {1, 4, 4, 0, 1, 1};
        for (int what = 0; what < middle.length; what++) {
            Check.due("wink 1 " + what, b.wink(1, what), middle[what]);
        }
        Check.due("cup", b.cup(1, 0), 2);
        Check.due("pays", b.cup(1, 1), 4);
        Check.due("in", b.cup(1, 2), 0);
        int[] pile = {3, 2, 0, -1};
        int[] rim = {1, 3, 3, 0};
        int[] bare = {0, -1, -1, 1};
        for (int what = 0; what < 4; what++) {
            Check.due("cell 4 " + what, b.cell(4, what), pile[what]);
            Check.due("cell 8 " + what, b.cell(8, what), rim[what]);
            Check.due("cell 2 " + what, b.cell(2, what), bare[what]);
        }
        Check.due("trust", b.trust(0), 4);
        Check.due("trust many", b.trust(1), 3);
        Check.due("richest", b.richest(0), 1);
        Check.due("richest many", b.richest(1), 2);
        WinkBank c = Check.in("house 3;house 5;house 5;felt 9;wink 0 1 6;wink 0 1 2;wink 0 1 2;wink 0 1 6;");
        Check.due("trust, the first", c.trust(0), 2);
        Check.due("richest, the first", c.richest(0), 1);
        WinkBank d = Check.in("house 0;");
        Check.due("richest of one poor", d.richest(0), 0);
        Check.due("has 0", d.richest(1), 0);
        Check.due("no trust", d.trust(0), -1);
        Check.due("no trust many", d.trust(1), -1);
    }

    static void undone() {
        WinkBank b = Check.in("house 5;house 5;felt 10;wink 0 1 0;wink 1 1 3;cup 5 9;");
        Check.law(b, "press");
        Check.play(b, "damp 4;damp 4;day;flick 0 3;");
        Check.play(b, "flick 0 2;shake;");
        Check.due("in", b.told(6), 1);
        Check.due("undo", b.undo(), 1);
        Check.due("refused 0 behind", b.told(9), 0);
        Check.due("not in", b.told(6), 0);
        Check.due("on wink 1", b.wink(0, 4), 1);
        Check.due("wink 1 frozen", b.told(5), 2);
        Check.due("coins", b.house(0, 0), 4);
        Check.due("shots", b.wink(0, 3), 1);
        Check.law(b, "press+1");
        Check.due("undo", b.undo(), 0);
        Check.due("damp", b.told(4), 0);
        Check.due("day", b.told(3), 0);
        Check.due("cell", b.wink(0, 2), 0);
        Check.due("coins", b.house(0, 0), 5);
        Check.due("the law stays", b.flies(0, 1), 2);
        Check.due("none left", b.undo(), -1);
        Check.due("a faulty play", Check.play(b, "flick"), -9);
        Check.due("is none to undo", b.undo(), -1);
        Check.due("its fault is still told", b.fault(), 5);
    }

    static void images() {
        WinkBank b = Check.in("house 5;felt 10;wink 0 1 0;");
        Check.law(b, "press");
        Check.play(b, "day;");
        Check.due("image", b.image(), 1);
        Check.play(b, "flick 0 2;damp 7;damp 7;");
        Check.due("image", b.image(), 2);
        b.undo();
        b.undo();
        Check.due("day 0", b.told(3), 0);
        Check.due("image", b.image(), 3);
        Check.due("no fourth", b.image(), -1);
        Check.due("images", b.count(0), 3);
        Check.law(b, "9");
        Check.book(b, "1 1;");
        Check.play(b, "damp 0;");
        Check.due("refused", b.told(9), 1);
        Check.due("restore", b.restore(), 2);
        Check.due("none refused", b.told(9), 0);
        Check.due("day", b.told(3), 0);
        Check.due("plays", b.count(2), 0);
        Check.due("restore", b.restore(), 1);
        Check.due("cell", b.wink(0, 2), 2);
        Check.due("damp", b.told(4), 7);
        Check.due("coins", b.house(0, 0), 4);
        Check.due("plays are back", b.count(2), 2);
        Check.due("the law stays", b.flies(0, 1), 9);
        Check.due("the book stays", b.told(8), 1);
        Check.due("undo", b.undo(), 1);
        Check.due("cell", b.wink(0, 2), 0);
        Check.due("day", b.told(3), 1);
        Check.due("restore", b.restore(), 0);
        Check.due("plays", b.count(2), 1);
        Check.play(b, "damp 0;");
        Check.due("no image", b.restore(), -1);
        Check.due("nothing is done then", b.told(9), 1);
        Check.due("plays", b.count(2), 2);
        Check.illegal("refused call", b, () -> b.told(12));
        b.image();
        Check.illegal("refused call", b, () -> b.told(-1));
        b.restore();
        Check.due("no image keeps the status", b.status(1), 2);
    }

    static void counted() {
        WinkBank b = new WinkBank();
        Check.due("count -1", b.count(-1), -1);
        Check.due("count 3", b.count(3), -1);
        Check.due("status -1", b.status(-1), -1);
        Check.due("status 2", b.status(2), -1);
        Check.due("count highest", b.count(Integer.MAX_VALUE), -1);
        Check.due("none of these is refused", b.status(1), 0);
        b.feed(1, 2, 3, 4, 5);
        Check.due("bytes", b.count(1), 20);
        Check.noSuch("matched", b, () -> b.matched(0));
        Check.illegal("trust", b, () -> b.trust(2));
        Check.illegal("richest", b, () -> b.richest(-1));
        Check.due("status 0", b.status(0), 1);
        Check.due("status 1", b.status(1), 2);
    }

    static void wrongAsked() {
        WinkBank b = Check.in("house 5;felt 10;wink 0 1 0;cup 9 9;");
        Check.illegal("told 12", b, () -> b.told(12));
        Check.illegal("told -1", b, () -> b.told(-1));
        Check.illegal("house what", b, () -> b.house(0, 3));
        Check.illegal("house what", b, () -> b.house(0, -1));
        Check.noSuch("house, ahead of what", b, () -> b.house(1, 3));
        Check.noSuch("house -1", b, () -> b.house(-1, 0));
        Check.illegal("wink what", b, () -> b.wink(0, 6));
        Check.noSuch("wink, ahead of what", b, () -> b.wink(1, 6));
        Check.noSuch("wink -1", b, () -> b.wink(-1, 0));
        Check.illegal("cup what", b, () -> b.cup(0, 3));
        Check.noSuch("cup, ahead of what", b, () -> b.cup(1, 3));
        Check.noSuch("cup -1", b, () -> b.cup(-1, 0));
        Check.illegal("cell what", b, () -> b.cell(9, 4));
        Check.noSuch("cell, ahead of what", b, () -> b.cell(10, 4));
        Check.noSuch("cell -1", b, () -> b.cell(-1, 0));
        Check.illegal("trust -1", b, () -> b.trust(-1));
        Check.illegal("richest 2", b, () -> b.richest(2));
    }
}

/** Promises 1 to 7: a new object, the TAPE, the four texts and their FAULTS. */
public final class TextTest {
    public static void main(String[] args) {
        newObject();
        tape();
        refusedLengths();
        rooms();
        roomFaults();
        roomForgets();
        laws();
        lawFaults();
        plays();
        books();
        blanks();
        Check.done();
    }

    static void newObject() {
        WinkBank b = new WinkBank();
        for (int what = 0; what <= 9; what++) {
            Check.due("new told " + what, b.told(what), 0);
        }
        Check.due("new felt", b.told(10), 12);
        Check.due("new nap", b.told(11), 3);
        Check.due("new fault", b.fault(), -1);
        Check.due("NONE", WinkBank.NONE, -1);
        for (int what = 0; what <= 2; what++) {
            Check.due("new count " + what, b.count(what), 0);
        }
        Check.due("new status 0", b.status(0), 0);
        Check.due("new status 1", b.status(1), 0);
        Check.due("new law", b.would(9, 1, 1, 2, 3, 0, 0, 0, 0), 18);
        Check.due("cell 11", b.cell(11, 0), 0);
        Check.noSuch("cell 12", b, () -> b.cell(12, 0));
    }

    static void tape() {
        WinkBank b = new WinkBank();
        for (int i = 1; i <= 30; i++) {
            Check.due("feed " + i, b.feed(0x20202020, 0x20202020, 0x20202020, 0x20202020, 0x20202020), 20 * i);
        }
        Check.due("feed full", b.feed(0, 0, 0, 0, 0), -1);
        Check.due("tape full", b.count(1), 600);
        Check.due("room of blanks", b.room(600), 0);
        Check.due("tape empty", b.count(1), 0);
        // "nap " "4;  ": of each number the highest byte first
        Check.due("feed", b.feed(0x6e617020, 0x343b2020, -1, -1, -1), 20);
        Check.due("room", b.room(8), 0);
        Check.due("nap", b.told(11), 4);
        Check.due("feed again", b.feed(0x6e617020, 0x353bffff, -1, -1, -1), 20);
        Check.due("byte 255 is no end", b.room(7), -9);
        Check.due("at it", b.fault(), 6);
    }

    static void refusedLengths() {
        WinkBank b = new WinkBank();
        Check.illegal("room 1 of 0", b, () -> b.room(1));
        Check.illegal("law 1 of 0", b, () -> b.law(1));
        Check.illegal("play 1 of 0", b, () -> b.play(1));
        Check.illegal("book 1 of 0", b, () -> b.book(1));
        Check.due("fault stays", b.fault(), -1);
        Check.feed(b, " ".repeat(200));
        Check.illegal("room -1", b, () -> b.room(-1));
        Check.illegal("room 201", b, () -> b.room(201));
        Check.illegal("law -1", b, () -> b.law(-1));
        Check.illegal("law 151", b, () -> b.law(151));
        Check.illegal("play 151", b, () -> b.play(151));
        Check.illegal("play lowest", b, () -> b.play(Integer.MIN_VALUE));
        Check.illegal("book 101", b, () -> b.book(101));
        Check.illegal("book highest", b, () -> b.book(Integer.MAX_VALUE));
        Check.due("the tape stays", b.count(1), 200);
        Check.due("book 100", b.book(100), 0);
        Check.feed(b, " ".repeat(160));
        Check.due("play 150", b.play(150), 0);
        Check.feed(b, " ".repeat(149) + "7");
        Check.due("law 150", b.law(150), 1);
        Check.due("law is 7", b.would(1, 1, 9, 9, 0, 0, 0, 0, 0), 7);
    }

    static void rooms() {
        WinkBank b = new WinkBank();
        Check.due("room", Check.room(b, "felt 9;felt 30;nap 1;nap 0;house 999;house 0;wink 1 9 29;wink 0 1 29;cup 29 99;"), 2);
        Check.due("no fault", b.fault(), -1);
        Check.due("felt, the last", b.told(10), 30);
        Check.due("nap, the last", b.told(11), 0);
        Check.due("coins", b.house(0, 0), 999);
        Check.due("coins 0", b.house(1, 0), 0);
        Check.due("house", b.wink(0, 0), 1);
        Check.due("size", b.wink(0, 1), 9);
        Check.due("cell", b.wink(0, 2), 29);
        Check.due("on top", b.wink(1, 4), 1);
        Check.due("in a cup's cell, but not in it", b.told(6), 0);
        Check.due("60 clauses", Check.room(b, "nap 1;".repeat(60)), 0);
        Check.due("4 cells", Check.room(b, "felt4;house007;wink0 1 3;cup 3 1;"), 1);
        Check.due("zeros ahead", b.house(0, 0), 7);
    }

    static void roomFault(String text, int answer, int place) {
        WinkBank b = Check.in("house 5;wink 0 1 2;");
        Check.due(text, Check.room(b, text), answer);
        Check.due("fault of " + text, b.fault(), place);
        Check.due("all stays of " + text, b.told(1), 1);
        Check.due("tape of " + text, b.count(1), 0);
    }

    static void roomFaults() {
        roomFault("house 1000;", -8, 6);
        roomFault("house 99999999999999999999999;", -8, 6);
        roomFault("house 4294967296;", -8, 6);
        roomFault("house 1", -9, 7);
        roomFault("house 1  ", -9, 9);
        roomFault("house", -9, 5);
        roomFault("house;", -9, 5);
        roomFault("house 1 2;", -9, 8);
        roomFault("House 1;", -9, 0);
        roomFault("5;", -9, 0);
        roomFault(";", -9, 0);
        roomFault("  ;", -9, 2);
        roomFault("nap 1;;", -9, 6);
        roomFault("houses 1;", -9, 0);
        roomFault("hous 1;", -9, 0);
        roomFault("felt 3;", -8, 5);
        roomFault("felt 31;", -8, 5);
        roomFault("nap 10;", -8, 4);
        roomFault("nap -1;", -9, 4);
        roomFault("wink 0 1 1;house 1;", -8, 5);
        roomFault("house 1;wink 1 1 1;", -8, 13);
        roomFault("house 1;wink 0 0 1;", -8, 15);
        roomFault("house 1;wink 0 10 1;", -8, 15);
        roomFault("house 1;wink 0 1 30;", -8, 17);
        roomFault("house 1;wink 0 1;", -9, 16);
        roomFault("cup 30 1;", -8, 4);
        roomFault("cup 0 0;", -8, 6);
        roomFault("cup 0 100;", -8, 6);
        roomFault("cup 7 1;nap 2;cup  7 0;", -8, 19);
        roomFault("house 1;".repeat(6), -7, 40);
        roomFault("house 1;".repeat(5) + "house x", -7, 40);
        roomFault("house 1;" + "wink 0 1 0;".repeat(11), -7, 118);
        roomFault("cup 0 1;cup 1 1;cup 2 1;cup 3 1;cup 0 1;", -7, 32);
        roomFault("nap 1;".repeat(60) + " felt 9;", -7, 361);
        roomFault("nap 1;".repeat(60) + "foo", -9, 360);
        roomFault("cup 12 1;", -6, 9);
        roomFault("cup 12 1; ", -6, 10);
        roomFault("house 1;wink 0 1 12;", -6, 20);
        roomFault("felt 30;cup 20 1;felt 20;", -6, 25);
        roomFault("cup 12 1;nap", -9, 12);
    }

    static void roomForgets() {
        WinkBank b = Check.in("house 5;wink 0 1 2;");
        Check.law(b, "9");
        Check.book(b, "1 2;3 4;");
        Check.play(b, "damp 0;day;");
        b.image();
        Check.due("refused", b.told(9), 1);
        Check.due("bad room", Check.room(b, "x"), -9);
        Check.due("law stays", b.flies(0, 1), 9);
        Check.due("book stays", b.told(8), 2);
        Check.due("image stays", b.count(0), 1);
        Check.due("play stays", b.count(2), 1);
        Check.due("day stays", b.told(3), 1);
        Check.due("good room", Check.room(b, "house 5;wink 0 1 2;"), 1);
        Check.due("no law", b.flies(0, 5), 7);
        Check.due("no book", b.told(8), 0);
        Check.due("no image", b.count(0), 0);
        Check.due("nothing to undo", b.undo(), -1);
        Check.due("nothing to restore", b.restore(), -1);
        Check.due("day 0", b.told(3), 0);
        Check.due("none refused", b.told(9), 0);
    }

    static void lawIs(String text, int far) {
        WinkBank b = new WinkBank();
        Check.due(text, Check.law(b, text), 1);
        Check.due("no fault of " + text, b.fault(), -1);
        Check.due("flies by " + text, b.would(2, 3, 4, 5, 6, 7, 8, 9, 10), far);
    }

    static void laws() {
        lawIs("press", 2);
        lawIs("size", 3);
        lawIs("nap", 4);
        lawIs("damp", 5);
        lawIs("under", 6);
        lawIs("shots", 7);
        lawIs("cell", 8);
        lawIs("day", 9);
        lawIs("coins", 10);
        lawIs("2+3*4", 14);
        lawIs("(2+3)*4", 20);
        lawIs("20-3-4", 13);
        lawIs("40/7/2", 2);
        lawIs("7/2*2", 6);
        lawIs("(0-7)/2+10", 7);
        lawIs("5/0+3", 3);
        lawIs("5/(2-press)+4", 4);
        lawIs("999", 60);
        lawIs("60", 60);
        lawIs("0-1", 0);
        lawIs("least[press,size]", 2);
        lawIs("most [ press , size ]", 3);
        lawIs("least[5,most[1,4]]*10", 40);
        lawIs(" press  * 2 ", 4);
        lawIs("007", 7);
        lawIs("((((((9))))))", 9);
        lawIs("(((1)))+((((((1))))))", 2);
        lawIs("least[(1),(((((2)))))]", 1);
        // 256 to the 4th is 0 in 32 bits, and 2 to the 31st is below 0
        lawIs("256*256*256*256+5", 5);
        lawIs("256*256*256*128", 0);
        lawIs("(256*256*256*128)/(0-1)", 0);
        lawIs("256*256*256*128-1", 60);
        lawIs("1+1*(1+1*(1+1*least[1,1+1*least[1,1+1*most[1,1+1*most[1,5]]]])) ", 4);
    }

    static void lawFault(String text, int answer, int place) {
        WinkBank b = new WinkBank();
        Check.law(b, "11");
        Check.due(text, Check.law(b, text), answer);
        Check.due("fault of " + text, b.fault(), place);
        Check.due("the law stays of " + text, b.would(1, 1, 1, 1, 1, 1, 1, 1, 1), 11);
    }

    static void lawFaults() {
        lawFault("", -9, 0);
        lawFault("  ", -9, 2);
        lawFault("1000", -8, 0);
        lawFault("1+4294967297", -8, 2);
        lawFault("1 2", -9, 2);
        lawFault("1press", -9, 1);
        lawFault("press2", -9, 5);
        lawFault("pres", -9, 0);
        lawFault("-1", -9, 0);
        lawFault("1+", -9, 2);
        lawFault("1+*2", -9, 2);
        lawFault("(1", -9, 2);
        lawFault("1)", -9, 1);
        lawFault("()", -9, 1);
        lawFault("least(1,2)", -9, 5);
        lawFault("least[1]", -9, 7);
        lawFault("least[1,2", -9, 9);
        lawFault("most[1,2,3]", -9, 8);
        lawFault("[1]", -9, 0);
        lawFault("(((((((1", -7, 6);
        lawFault("(((((( (1", -7, 7);
        lawFault("((((((least", -7, 6);
        lawFault("least[1,most[1,least[1,most[1,least[1,most[1,most", -7, 45);
        lawFault("((((((foo", -9, 6);
        lawFault("house", -9, 0);
    }

    static void playFault(String text, int answer, int place) {
        WinkBank b = Check.in("house 5;wink 0 1 2;wink 0 1 3;");
        Check.play(b, "damp 0;");
        Check.due(text, Check.play(b, text), answer);
        Check.due("fault of " + text, b.fault(), place);
        Check.due("none is done of " + text, b.told(3), 0);
        Check.due("not kept of " + text, b.count(2), 1);
        Check.due("refused as they were of " + text, b.told(9), 1);
    }

    static void plays() {
        playFault("day;flick 2 1;", -8, 10);
        playFault("day;flick 0 0;", -8, 12);
        playFault("day;back 0 10;", -8, 11);
        playFault("day;damp 10;", -8, 9);
        playFault("day;again 31[];", -8, 10);
        playFault("day;days;", -9, 4);
        playFault("day", -9, 3);
        playFault("day;]", -9, 4);
        playFault("again 1[day;", -9, 12);
        playFault("again 1[day]", -9, 11);
        playFault("again 1[day;]", -9, 13);
        playFault("again 1 day;", -9, 8);
        playFault("flick 0;", -9, 7);
        playFault("again 1[".repeat(7), -7, 48);
        playFault("again 1[".repeat(6) + "agains", -9, 48);
        WinkBank empty = new WinkBank();
        Check.due("no wink", Check.play(empty, "flick 0 1;"), -8);
        WinkBank b = new WinkBank();
        Check.due("six agains", Check.play(b, "again 1[".repeat(6) + "day;" + "];".repeat(6)), 1);
        Check.due("six and six", Check.play(b, "again 2[again 2[day;];again 2[day;day;];];"), 12);
        for (int i = 2; i < 16; i++) {
            Check.due("play " + i, Check.play(b, ""), 0);
        }
        Check.due("16 plays", b.count(2), 16);
        Check.feed(b, "bad");
        Check.illegal("a 17th of a wrong length", b, () -> b.play(21));
        Check.due("tape stays", b.count(1), 20);
        Check.due("a 17th", b.play(3), -20);
        Check.due("no fault", b.fault(), -1);
        Check.due("tape empty", b.count(1), 0);
        Check.due("a bad law", Check.law(b, "1+"), -9);
        Check.due("its fault", b.fault(), 2);
        Check.due("a 17th once more", Check.play(b, "bad"), -20);
        Check.due("the fault is gone", b.fault(), -1);
        Check.due("undo", b.undo(), 15);
        Check.due("a 16th", Check.play(b, "day;"), 1);
    }

    static void bookFault(String text, int answer, int place) {
        WinkBank b = new WinkBank();
        Check.book(b, "7 7;");
        Check.due(text, Check.book(b, text), answer);
        Check.due("fault of " + text, b.fault(), place);
        Check.due("the book stays of " + text, b.told(8), 1);
    }

    static void books() {
        bookFault("0 1;", -8, 0);
        bookFault("10 1;", -8, 0);
        bookFault("1 61;", -8, 2);
        bookFault("1 1;2 2; 1 3;", -8, 9);
        bookFault("1 1;2 2;3 3;4 4;5 5;6 6;7 7;8 8;9 9;9 9;", -8, 36);
        bookFault("1;", -9, 1);
        bookFault("1 1", -9, 3);
        bookFault("press 1;", -9, 0);
        WinkBank b = new WinkBank();
        Check.due("nine lines", Check.book(b, "9 0;8 60;7 1;6 1;5 1;4 1;3 1;2 1;1 1;"), 9);
        Check.due("told", b.told(8), 9);
        Check.due("no line", Check.book(b, ""), 0);
        Check.due("told none", b.told(8), 0);
    }

    static void blanks() {
        WinkBank b = new WinkBank();
        Check.due("room", Check.room(b, "  house   5 ;  wink 0  1 2  ; cup 4 9 ;  "), 1);
        Check.due("law", Check.law(b, " least [ 2 , ( press ) ] "), 1);
        Check.due("play", Check.play(b, " again  1 [  flick 0  2 ;  ] ;  "), 1);
        Check.due("in the cup", b.told(6), 1);
        Check.due("book", Check.book(b, "  1  2 ; 3 4 ; "), 2);
        Check.due("none needed", Check.room(b, "house5;wink0 1 2;cup4 9;"), 1);
        Check.due("no tabs", Check.room(b, "\thouse 5;"), -9);
    }
}

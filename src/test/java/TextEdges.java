/** The document's Terms and promises 1 to 7, sentence by sentence. */
final class TextEdges {
    private TextEdges() { }

    static void all() {
        calls();
        roomBytes();
        clauses();
        houses();
        feltAndNap();
        winks();
        cups();
        lawBytes();
        flight();
        sums();
        units();
        seenByLaw();
        openUnits();
        values();
        playBytes();
        steps();
        bookBytes();
        bookNumbers();
        signs();
        misplaced();
        noSuchNumber();
        tooMany();
        ofOneTheLeast();
        offTheFelt();
        newObject();
        feed();
        room();
        law();
        play();
        playsFull();
        book();
        fault();
    }

    static void calls() {
        Doc.says("what", "An object is used for at most 512 calls after it has been made; what later calls answer is free.");
        WinkBank b = new WinkBank();
        for (int i = 0; i < 510; i += 2) {
            b.play(0);
            b.undo();
        }
        Check.due("the 511th", b.feed(0x6e617020, 0x343b2020, 0, 0, 0), 20);
        Check.due("the 512th", b.room(8), 0);
    }

    // ---- ROOM ----

    static void roomBytes() {
        Doc.says("1", "A ROOM is a text of up to 600 bytes:");
        String begun = "nap 4;" + " ".repeat(588);
        WinkBank b = Edge.fine("room", begun + "nap 7;", 0);
        Check.due("the last of 600 bytes counts", b.told(11), 7);
        Edge.faulty("room", begun + "nap 5:", 1, 599);
        Edge.faulty("room", begun + "   nap", 1, 600);
        Edge.fine("room", "", 0);
        Edge.fine("room", " ".repeat(600), 0);
    }

    static void clauses() {
        Doc.says("1", "{ CLAUSE \";\" }, at most 60.");
        WinkBank b = Edge.fine("room", "nap 1;".repeat(58) + "house 8;nap 2;", 0);
        Check.due("the 59th", b.house(0, 0), 8);
        Check.due("the 60th", b.told(11), 2);
        Edge.faulty("room", "nap 1;".repeat(61), 3, 360);
        Edge.faulty("room", "nap 1;".repeat(60) + "  felt 9;", 3, 362);
        Edge.faulty("room", "nap 1;".repeat(60) + "house 1;", 3, 360);
        Edge.faulty("room", "house 1;" + "nap 1;".repeat(59) + "wink 0 1 1;", 3, 362);
        Edge.faulty("room", "nap 1;".repeat(60) + "cup 1 1;", 3, 360);
        Edge.faulty("room", ";", 1, 0);
        Edge.faulty("room", "nap 1;;", 1, 6);
        Edge.faulty("room", "nap 1", 1, 5);
        Edge.faulty("room", "nap 1 nap 2;", 1, 6);
    }

    static void houses() {
        Doc.says("1", "CLAUSE: \"house\" C (HOUSES, numbered from 0 on, 5 at most:");
        WinkBank b = Edge.fine("room", "house 11;house 12;house 13;house 14;house 15;", 0);
        Check.due("five", b.told(0), 5);
        for (int h = 0; h < 5; h++) {
            Check.due("house " + h, b.house(h, 0), 11 + h);
        }
        Check.noSuch("house 5", b, () -> b.house(5, 0));
        Edge.faulty("room", "house 1;".repeat(6), 3, 40);
        Edge.faulty("room", "house 1;".repeat(5) + "nap 1; house", 3, 47);

        Doc.says("1", "has C coins, 0 to 999)");
        Check.due("none", Edge.fine("room", "house 0;", 0).house(0, 0), 0);
        Check.due("most", Edge.fine("room", "house 999;", 0).house(0, 0), 999);
        Edge.faulty("room", "house 1000;", 2, 6);
        Edge.faulty("room", "house -1;", 1, 6);
    }

    static void feltAndNap() {
        Doc.says("1", "\"felt\" N (it has N CELLS in a row, 4 to 30; 12 without)");
        Edge.faulty("room", "felt 3;", 2, 5);
        Edge.faulty("room", "felt 0;", 2, 5);
        Edge.faulty("room", "felt 31;", 2, 5);
        cells("felt 4;", 4);
        cells("felt 30;", 30);
        cells("", 12);

        Doc.says("1", "\"nap\" K (0 to 9; 3 without;");
        Check.due("least", Edge.fine("room", "nap 0;", 0).told(11), 0);
        Check.due("most", Edge.fine("room", "nap 9;", 0).told(11), 9);
        Check.due("without", Edge.fine("room", "", 0).told(11), 3);
        Edge.faulty("room", "nap 10;", 2, 4);

        Doc.says("1", "of felt, nap the last counts)");
        Check.due("felt", Edge.fine("room", "felt 30;felt 4;", 0).told(10), 4);
        Check.due("nap", Edge.fine("room", "nap 9;felt 5;nap 0;", 0).told(11), 0);
        Check.due("felt told behind", Edge.fine("room", "felt 4;house 1;wink 0 1 29;cup 29 1;felt 30;", 1).wink(0, 2), 29);
        Edge.faulty("room", "felt 30;cup 29 1;felt 29;", 4, 25);
    }

    private static void cells(String text, int many) {
        WinkBank b = Edge.fine("room", text, 0);
        Check.due("cells", b.told(10), many);
        Check.due("the last one", b.cell(many - 1, 0), 0);
        Check.noSuch("one more", b, () -> b.cell(many, 0));
    }

    static void winks() {
        Doc.says("1", "\"wink\" H S X (WINKS likewise, 10:");
        String ten = "house 1;wink 0 1 0;wink 0 2 1;wink 0 3 2;wink 0 4 3;wink 0 5 4;wink 0 6 5;wink 0 7 6;wink 0 8 7;wink 0 9 8;"
            + "wink 0 1 9;";
        WinkBank b = Edge.fine("room", ten, 10);
        for (int w = 0; w < 10; w++) {
            Check.due("wink " + w, b.wink(w, 2), w);
        }
        Check.noSuch("wink 10", b, () -> b.wink(10, 0));
        WinkBank last = Edge.fine("room", "house 1;house 1;" + "wink 0 1 0;".repeat(9) + "wink 1 9 11;", 10);
        Check.due("HOUSE of the tenth", last.wink(9, 0), 1);
        Check.due("SIZE of the tenth", last.wink(9, 1), 9);
        Check.due("CELL of the tenth", last.wink(9, 2), 11);
        Edge.faulty("room", ten + "wink 0 1 9;", 3, 118);
        Edge.faulty("room", ten + " wink", 3, 119);

        Doc.says("1", "of HOUSE H, told ahead,");
        String five = "house 1;".repeat(5);
        Check.due("the last", Edge.fine("room", five + "wink 4 1 0;", 1).wink(0, 0), 4);
        Check.due("the first", Edge.fine("room", five + "wink 0 1 0;", 1).wink(0, 0), 0);
        Edge.faulty("room", five + "wink 5 1 0;", 2, 45);
        Edge.faulty("room", "wink 0 1 0;", 2, 5);
        Edge.faulty("room", "house 1;wink 1 1 0;house 1;", 2, 13);

        Doc.says("1", "SIZE S, 1 to 9,");
        Check.due("least", Edge.fine("room", "house 1;wink 0 1 0;", 1).wink(0, 1), 1);
        Check.due("most", Edge.fine("room", "house 1;wink 0 9 0;", 1).wink(0, 1), 9);
        Edge.faulty("room", "house 1;wink 0 0 0;", 2, 15);
        Edge.faulty("room", "house 1;wink 0 10 0;", 2, 15);

        Doc.says("1", "at CELL X, 0 to 29, on top of what lies there)");
        Check.due("least", Edge.fine("room", "house 1;wink 0 1 0;", 1).wink(0, 2), 0);
        Check.due("most", Edge.fine("room", "felt 30;house 1;wink 0 1 29;", 1).wink(0, 2), 29);
        Edge.faulty("room", "felt 30;house 1;wink 0 1 30;", 2, 25);
        WinkBank pile = Edge.fine("room", "house 1;wink 0 1 5;wink 0 9 5;wink 0 4 6;wink 0 1 5;", 4);
        Check.due("lowest", pile.cell(5, 2), 0);
        Check.due("under the second", pile.wink(1, 4), 1);
        Check.due("on top", pile.cell(5, 1), 3);
        Check.due("under the top", pile.wink(3, 4), 2);
    }

    static void cups() {
        Doc.says("1", "or \"cup\" X V (CUPS likewise, 4:");
        WinkBank b = Edge.fine("room", "cup 7 1;cup 5 2;cup 3 3;cup 1 4;", 0);
        Check.due("four", b.told(2), 4);
        for (int c = 0; c < 4; c++) {
            Check.due("cup " + c, b.cup(c, 0), 7 - 2 * c);
            Check.due("pays " + c, b.cup(c, 1), c + 1);
        }
        Check.noSuch("cup 4", b, () -> b.cup(4, 0));
        Edge.faulty("room", "cup 7 1;cup 5 2;cup 3 3;cup 1 4;cup 0 5;", 3, 32);

        Doc.says("1", "at CELL X, 0 to 29, not one where there is a CUP,");
        Check.due("least", Edge.fine("room", "cup 0 1;", 0).cup(0, 0), 0);
        Check.due("most", Edge.fine("room", "felt 30;cup 29 1;", 0).cup(0, 0), 29);
        Edge.faulty("room", "felt 30;cup 30 1;", 2, 12);
        Edge.faulty("room", "cup 5 1;cup 5 1;", 2, 12);
        Edge.faulty("room", "cup 5 1;cup 6 1;cup 05 1;", 2, 20);
        Edge.fine("room", "house 1;wink 0 1 5;cup 5 1;wink 0 1 5;", 2);

        Doc.says("1", "pays V, 1 to 99).");
        Check.due("least", Edge.fine("room", "cup 0 1;", 0).cup(0, 1), 1);
        Check.due("most", Edge.fine("room", "cup 0 99;", 0).cup(0, 1), 99);
        Edge.faulty("room", "cup 0 0;", 2, 6);
        Edge.faulty("room", "cup 0 100;", 2, 6);
    }

    // ---- LAW ----

    static void lawBytes() {
        Doc.says("1", "A LAW is a text of up to 150 bytes: E, at the end nothing more;");
        Edge.flies("1+".repeat(10) + " ".repeat(128) + "17", 27);
        Edge.flies("1+".repeat(74) + "1 ", 60);
        Edge.faulty("law", "", 1, 0);
        Edge.faulty("law", " ".repeat(150), 1, 150);
        Edge.faulty("law", "1;", 1, 1);
        Edge.faulty("law", "1 1", 1, 2);
        Edge.faulty("law", "(1))", 1, 3);
        Edge.faulty("law", "press size", 1, 6);
        Edge.faulty("law", " ".repeat(147) + "1 )", 1, 149);

        Doc.says("1", "without: press * 2 + under - nap - damp.");
        WinkBank b = new WinkBank();
        Check.due("plain", b.would(7, 1, 3, 4, 5, 0, 0, 0, 0), 12);
        Check.due("least", b.would(1, 9, 9, 9, 0, 99, 29, 500, 9999), 0);
        Check.due("most", b.would(9, 1, 0, 0, 9, 0, 0, 0, 0), 27);
        Check.law(b, "press * 2 + under - nap - damp");
        Check.due("told so", b.would(7, 1, 3, 4, 5, 0, 0, 0, 0), 12);
    }

    static void flight() {
        Doc.says("1", "FLIES: how many CELLS: what comes out, 0 at least, 60 at most.");
        Edge.flies("0-1", 0);
        Edge.flies("0", 0);
        Edge.flies("1", 1);
        Edge.flies("59", 59);
        Edge.flies("60", 60);
        Edge.flies("61", 60);
        Edge.flies("999", 60);
        // only what comes out is cut, not what is on the way
        Edge.flies("100-95", 5);
        Edge.flies("0-5+9", 4);
        Edge.flies("(0-5)*(0-2)", 10);
    }

    static void sums() {
        Doc.says("1", "E: T { + or - T }. T: U { * or / U }. U:");
        Edge.flies("20-3-4", 13);
        Edge.flies("20-3+4", 21);
        Edge.flies("2+3*4", 14);
        Edge.flies("40-12/4/3*2", 38);
        Edge.flies("7/2*2", 6);
        Edge.flies("2*7/2", 7);
        Edge.faulty("law", "+1", 1, 0);
        Edge.faulty("law", "-1", 1, 0);
        Edge.faulty("law", "1+", 1, 2);
        Edge.faulty("law", "1*", 1, 2);
        Edge.faulty("law", "1+-1", 1, 2);
        Edge.faulty("law", "1*/1", 1, 2);
    }

    static void units() {
        Doc.says("1", "N (0 to 999),");
        Edge.flies("0", 0);
        Edge.flies("999-950", 49);
        Edge.faulty("law", "1000", 2, 0);
        Edge.faulty("law", "1+ 1000", 2, 3);
    }

    static void seenByLaw() {
        Doc.says("1", "\"press\" (1 to 9), \"size\", \"nap\", \"damp\",");
        Edge.flies("press", 2);
        Edge.flies("size", 3);
        Edge.flies("nap", 4);
        Edge.flies("damp", 5);
        WinkBank b = Check.in("house 6;felt 30;nap 8;wink 0 7 3;wink 0 4 3;wink 0 1 3;");
        Check.law(b, "press");
        Check.due("press 1", b.flies(0, 1), 1);
        Check.due("press 9", b.flies(0, 9), 9);
        Check.law(b, "size");
        Check.due("size", b.flies(0, 1), 7);
        Check.law(b, "nap+damp*6");
        Check.due("no damp at first", b.flies(0, 1), 8);
        Check.play(b, "damp 5;");
        Check.due("nap and damp", b.flies(0, 1), 38);

        Doc.says("1", "\"under\" (how many WINKS lie under it), \"shots\" (how often it was flicked), \"cell\" (at which it is),");
        Edge.flies("under", 6);
        Edge.flies("shots", 7);
        Edge.flies("cell", 8);
        Check.law(b, "under");
        Check.due("none under the lowest", b.flies(0, 1), 0);
        Check.due("one under the second", b.flies(1, 1), 1);
        Check.due("two under the top", b.flies(2, 1), 2);
        Check.law(b, "shots");
        Check.due("never yet", b.flies(2, 1), 0);
        Check.play(b, "flick 2 1;back 2 1;");
        Check.due("twice, to and fro", b.flies(2, 1), 2);
        Check.law(b, "cell");
        Check.due("cell", b.flies(0, 1), 3);

        Doc.says("1", "\"day\", \"coins\" (its HOUSE has),");
        Edge.flies("day", 9);
        Edge.flies("coins", 10);
        Check.law(b, "day*10+coins");
        Check.due("day 0, two coins gone", b.flies(0, 1), 4);
        Check.play(b, "day;day;");
        Check.due("day 2", b.flies(0, 1), 24);
    }

    static void openUnits() {
        Doc.says("1", "\"least\" \"[\" E \",\" E \"]\", \"most\" \"[\" E \",\" E \"]\", or \"(\" E \")\".");
        Edge.flies("least[4,5]", 4);
        Edge.flies("least[5,4]", 4);
        Edge.flies("most[4,5]", 5);
        Edge.flies("most[5,4]", 5);
        Edge.flies("least[4,4]+most[3,3]", 7);
        Edge.flies("least[0-9,1]+20", 11);
        Edge.flies("most[0-9,0-11]+20", 11);
        Edge.flies("least[1+2*3,8]*(1+1)", 14);
        Edge.faulty("law", "least[]", 1, 6);
        Edge.faulty("law", "least[1]", 1, 7);
        Edge.faulty("law", "least[1,]", 1, 8);
        Edge.faulty("law", "least[1,2,3]", 1, 9);
        Edge.faulty("law", "most(1,2)", 1, 4);
        Edge.faulty("law", "most[1,2)", 1, 8);
        Edge.faulty("law", "most", 1, 4);
        Edge.faulty("law", "()", 1, 1);
        Edge.faulty("law", "(1]", 1, 2);
        Edge.faulty("law", "[1]", 1, 0);
    }

    static void values() {
        Doc.says("1", "Values are whole numbers of 32 bits that wrap;");
        // 256 * 256 * 256 * 128 is the lowest number, one less the highest
        Edge.flies("256*256*256*128", 0);
        Edge.flies("256*256*256*128-1", 60);
        Edge.flies("256*256*256*128-1+1", 0);
        Edge.flies("256*256*256*256+5", 5);
        Edge.flies("(256*256*256*128)*(0-1)-1", 60);
        Edge.flies("(256*256*256*128-1)*2+9", 7);
        Edge.flies("most[256*256*256*128,3]", 3);

        Doc.says("1", "/ cuts, by 0 it is 0.");
        Edge.flies("7/2", 3);
        Edge.flies("1/2", 0);
        Edge.flies("(0-7)/2+10", 7);
        Edge.flies("7/(0-2)+10", 7);
        Edge.flies("(0-7)/(0-2)", 3);
        Edge.flies("(0-1)/2+5", 5);
        Edge.flies("5/0+4", 4);
        Edge.flies("0/0+4", 4);
        Edge.flies("(0-5)/0+4", 4);
        Edge.flies("9/(press-2)*3+1", 1);
        Edge.flies("(256*256*256*128)/(0-1)", 0);
        Edge.flies("(256*256*256*128)/(0-1)-1", 60);
    }

    // ---- PLAY and BOOK ----

    static void playBytes() {
        Doc.says("1", "PLAY is a text of up to 150 bytes: { STEP \";\" }.");
        Edge.fine("play", "", 0);
        Edge.fine("play", " ".repeat(150), 0);
        WinkBank b = Edge.fine("play", "damp 7;" + " ".repeat(136) + "damp 8;", 2);
        Check.due("the last of 150 bytes counts", b.told(4), 8);
        Edge.faulty("play", "damp 7;" + " ".repeat(136) + "damp 8:", 1, 149);
        Edge.fine("play", "day;".repeat(37) + "  ", 37);
        Edge.faulty("play", ";", 1, 0);
        Edge.faulty("play", "day;;", 1, 4);
        Edge.faulty("play", "day", 1, 3);
        Edge.faulty("play", "day day;", 1, 4);
    }

    static void steps() {
        Doc.says("1", "STEP: \"flick\" W P, \"back\" W P (P 1 to 9),");
        Edge.fine("play", "flick 2 1;", 1);
        Edge.fine("play", "flick 2 9;", 1);
        Edge.fine("play", "back 2 1;", 1);
        Edge.fine("play", "back 2 9;", 1);
        Edge.faulty("play", "flick 2 0;", 2, 8);
        Edge.faulty("play", "flick 2 10;", 2, 8);
        Edge.faulty("play", "back 2 0;", 2, 7);
        Edge.faulty("play", "back 2 10;", 2, 7);
        Edge.faulty("play", "flick 3 1;", 2, 6);
        Edge.faulty("play", "back 3 1;", 2, 5);
        Edge.faulty("play", "flick 2;", 1, 7);
        Edge.faulty("play", "flick 2 1 1;", 1, 10);
        WinkBank none = new WinkBank();
        Check.due("no WINK", Check.play(none, "flick 0 1;"), -8);
        Check.due("there", none.fault(), 6);

        Doc.says("1", "\"damp\" N (0 to 9), \"shake\", \"day\",");
        Check.due("least", Edge.fine("play", "damp 0;", 1).told(4), 0);
        Check.due("most", Edge.fine("play", "damp 9;", 1).told(4), 9);
        Edge.faulty("play", "damp 10;", 2, 5);
        Edge.faulty("play", "damp;", 1, 4);
        Edge.fine("play", "shake;", 1);
        Edge.fine("play", "day;", 1);
        Edge.faulty("play", "shake 1;", 1, 6);
        Edge.faulty("play", "day 1;", 1, 4);

        Doc.says("1", "or \"again\" N \"[\" { STEP \";\" } \"]\" (N 0 to 30).");
        Edge.fine("play", "again 0[day;];", 0);
        Edge.fine("play", "again 1[day;];", 1);
        Edge.fine("play", "again 30[day;];", 30);
        Edge.fine("play", "again 30[];", 0);
        Edge.fine("play", "again 2[day;again 3[day;];day;];day;", 11);
        Edge.faulty("play", "again 31[];", 2, 6);
        Edge.faulty("play", "again [];", 1, 6);
        Edge.faulty("play", "again 1 day;", 1, 8);
        Edge.faulty("play", "again 1[day];", 1, 11);
        Edge.faulty("play", "again 1[]", 1, 9);
        Edge.faulty("play", "again 1[;];", 1, 8);
        Edge.faulty("play", "];", 1, 0);
        Edge.faulty("play", "again 1[];];", 1, 10);
        Edge.faulty("play", "again 0[flick 3 1;];", 2, 14);
    }

    static void bookBytes() {
        Doc.says("1", "A BOOK is one of up to 100 bytes: { P D \";\" }, 9 lines at most, no P twice:");
        Check.due("none", Edge.fine("book", "", 0).told(8), 0);
        Edge.fine("book", " ".repeat(100), 0);
        WinkBank b = Edge.fine("book", "1 1;" + " ".repeat(92) + "2 2;", 2);
        Check.due("the last of 100 bytes counts", b.told(8), 2);
        Edge.faulty("book", "1 1;" + " ".repeat(92) + "2 2:", 1, 99);
        String nine = "9 1;8 1;7 1;6 1;5 1;4 1;3 1;2 1;1 1;";
        Check.due("nine", Edge.fine("book", nine, 9).told(8), 9);
        Edge.faulty("book", nine + "5 1;", 2, 36);
        Edge.faulty("book", nine + "10 1;", 2, 36);
        Edge.faulty("book", "4 1;4 1;", 2, 4);
        Edge.faulty("book", "4 1;5 1; 04 2;", 2, 9);
        Edge.faulty("book", ";", 1, 0);
        Edge.faulty("book", "1;", 1, 1);
        Edge.faulty("book", "1 1", 1, 3);
        Edge.faulty("book", "1 1 1;", 1, 4);
    }

    static void bookNumbers() {
        Doc.says("1", "by press P (1 to 9) it flew D CELLS (0 to 60).");
        WinkBank b = Check.in("house 1;wink 0 1 0;");
        Check.law(b, "press*10-30+nap*0+damp*0");
        Check.due("least", Check.book(b, "1 0;"), 1);
        Check.due("so it is", b.fits(0, 0), 100);
        Check.due("most", Check.book(b, "9 60;"), 1);
        Check.due("so it is", b.fits(0, 0), 100);
        Check.due("another", Check.book(b, "9 59;"), 1);
        Check.due("so it is not", b.fits(0, 0), 0);
        Edge.faulty("book", "0 1;", 2, 0);
        Edge.faulty("book", "10 1;", 2, 0);
        Edge.faulty("book", "1 61;", 2, 2);
    }

    static void signs() {
        Doc.says("1", "Numbers: digits, as many as stand there;");
        Check.due("zeros ahead", Edge.fine("room", "house 0000000000000000000000000999;", 0).house(0, 0), 999);
        Edge.faulty("room", "house 0000000000000000000000001000;", 2, 6);
        // these are 5 in 32 and in 64 bits
        Edge.faulty("room", "house 4294967301;", 2, 6);
        Edge.faulty("room", "house 18446744073709551621;", 2, 6);
        Edge.faulty("room", "house " + "9".repeat(590) + ";", 2, 6);
        Edge.faulty("room", "house 1;wink 011;", 2, 13);
        Edge.faulty("room", "house 1 0;", 1, 8);
        Edge.faulty("law", "1 0", 1, 2);
        Edge.faulty("book", "12;", 2, 0);

        Doc.says("1", "WORDS: small letters, as many as stand there;");
        Check.due("a digit ends it", Edge.fine("room", "house5;nap4;", 0).house(0, 0), 5);
        Edge.faulty("room", "houses 5;", 1, 0);
        Edge.faulty("room", "hous 5;", 1, 0);
        Edge.faulty("room", "housenap 5;", 1, 0);
        Edge.faulty("room", "ho use 5;", 1, 0);
        Edge.faulty("room", "House 5;", 1, 0);
        Edge.faulty("room", "housE 5;", 1, 0);
        Edge.faulty("play", "dayday;", 1, 0);
        Edge.faulty("law", "pressnap", 1, 0);
        Edge.faulty("law", "2press", 1, 1);

        otherWords();

        Doc.says("1", "blanks (32) may stand ahead of all these, and at the end.");
        WinkBank b = Edge.fine("room", "   house   5   ;  felt  9 ; nap  1 ;  wink  0   2   3  ;  cup  5   6  ;   ", 1);
        Check.due("coins", b.house(0, 0), 5);
        Check.due("cup", b.cup(0, 1), 6);
        Edge.flies("  least  [  9  ,  (  press  *  2  +  8  /  4  -  3  )  ]  ", 3);
        Edge.fine("play", "  again  2  [  flick  2  1  ;  shake  ;  ]  ;  ", 4);
        Edge.fine("book", "  1  2  ;  3  4  ;  ", 2);
        // no blanks, and those beside the digits and the small letters neither
        for (char other : new char[] {0, 9, 10, 13, 31, 33, '/', ':', '@', 'A', 'Z', '[', '`', '{', 127, 128, 160, 255}) {
            Edge.faulty("room", other + "felt 9;", 1, 0);
            Edge.faulty("room", "felt" + other + "9;", 1, 4);
            Edge.faulty("room", "felt 9" + other + ";", 1, 6);
            Edge.faulty("room", "felt 9;" + other, 1, 7);
        }
    }

    /** Each word with one letter changed, left out or twice is another one. */
    private static void otherWords() {
        String[][] words = {{"room", "house", " 1;"}, {"room", "felt", " 9;"}, {"room", "nap", " 1;"}, {"room", "wink", " 0 1 1;"},
            {"room", "cup", " 1 1;"}, {"play", "flick", " 2 1;"}, {"play", "back", " 2 1;"}, {"play", "damp", " 1;"},
            {"play", "shake", ";"}, {"play", "day", ";"}, {"play", "again", " 1[];"}, {"law", "press", ""}, {"law", "size", ""},
            {"law", "nap", ""}, {"law", "damp", ""}, {"law", "under", ""}, {"law", "shots", ""}, {"law", "cell", ""},
            {"law", "day", ""}, {"law", "coins", ""}, {"law", "least", "[1,2]"}, {"law", "most", "[1,2]"}};
        for (String[] word : words) {
            for (int i = 0; i < word[1].length(); i++) {
                String ahead = word[1].substring(0, i);
                String behind = word[1].substring(i + 1);
                char letter = word[1].charAt(i);
                Edge.faulty(word[0], ahead + "x" + behind + word[2], 1, 0);
                Edge.faulty(word[0], ahead + behind + word[2], 1, 0);
                Edge.faulty(word[0], ahead + letter + letter + behind + word[2], 1, 0);
            }
        }
    }

    // ---- FAULTS ----

    static void misplaced() {
        Doc.says("1", "FAULTS, the first from the left, at its first byte:");
        Edge.faulty("room", "nap 99;house 1000;", 2, 4);
        Edge.faulty("room", "nap 99;foo;", 2, 4);
        Edge.faulty("room", "foo;nap 99;", 1, 0);
        Edge.faulty("room", "house 1;".repeat(5) + "nap 99;house 1;", 2, 44);
        Edge.faulty("room", "house 1;".repeat(6) + "nap 99;", 3, 40);
        Edge.faulty("law", "1000+foo", 2, 0);
        Edge.faulty("law", "foo+1000", 1, 0);
        Edge.faulty("law", "1000+(((((((1", 2, 0);
        Edge.faulty("play", "damp 99;foo", 2, 5);
        Edge.faulty("play", "flick 9 99;", 2, 6);
        Edge.faulty("book", "1 99;1", 2, 2);

        Doc.says("1", "1 what can't stand there (at the length, if the text ends too early);");
        Edge.faulty("room", "5;", 1, 0);
        Edge.faulty("room", "house x;", 1, 6);
        Edge.faulty("room", "house", 1, 5);
        Edge.faulty("room", "house   ", 1, 8);
        Edge.faulty("room", "house 1", 1, 7);
        Edge.faulty("room", "house 1 ", 1, 8);
        Edge.faulty("law", "(1", 1, 2);
        Edge.faulty("law", "(1  ", 1, 4);
        Edge.faulty("law", "most[1,2", 1, 8);
        Edge.faulty("play", "again 1[day;", 1, 12);
        Edge.faulty("play", "again 1[day; ", 1, 13);
        Edge.faulty("play", "flick 0", 1, 7);
        Edge.faulty("book", "1 ", 1, 2);
    }

    static void noSuchNumber() {
        Doc.says("1", "2 a number that is none such (a P twice; X where there is a CUP);");
        Edge.faulty("book", "3 1;3 2;", 2, 4);
        Edge.faulty("book", "3 1;3", 2, 4);
        Edge.faulty("room", "cup 3 1;cup 3 2;", 2, 12);
        Edge.faulty("room", "cup 3 1;cup 3", 2, 12);
        Edge.faulty("room", "felt 9x", 1, 6);
        Edge.faulty("room", "felt 99x", 2, 5);
    }

    static void tooMany() {
        Doc.says("1", "3 a CLAUSE, HOUSE, WINK or CUP too many (at its word),");
        Edge.faulty("room", "nap 1;".repeat(60) + " nap 1;", 3, 361);
        Edge.faulty("room", "house 1;".repeat(5) + " house 1;", 3, 41);
        Edge.faulty("room", "house 1;" + "wink 0 1 0;".repeat(10) + " wink 0 1 0;", 3, 119);
        Edge.faulty("room", "cup 0 1;cup 1 1;cup 2 1;cup 3 1; cup 4 1;", 3, 33);

        Doc.says("1", "or a 7th of ( least most again that is open at one time;");
        Edge.flies("((((((7))))))", 7);
        Edge.flies("((((((7))))))+((((((8))))))", 15);
        Edge.flies("least[9,most[1,(least[8,most[2,(5)]])]]", 5);
        Edge.flies("(((((least[1,2])))))", 1);
        // as much is kept on the way as can be: innermost 10, and one more by each of six
        Edge.flies("1+1*most[1,".repeat(6) + "1+1*9" + "]".repeat(6), 16);
        Edge.faulty("law", "(((((((7)))))))", 3, 6);
        Edge.faulty("law", "(((((( (7", 3, 7);
        Edge.faulty("law", "((((((least[1,2]))))))", 3, 6);
        Edge.faulty("law", "(((((( most[1,2]))))))", 3, 7);
        Edge.faulty("law", "(((((least[1,(2)])))))", 3, 13);
        Edge.faulty("law", "least[1,most[1,least[1,most[1,least[1,most[1,least[1,2]]]]]]]", 3, 45);
        Edge.faulty("law", "((((((7))))))+(((((((8", 3, 20);
        Edge.fine("play", "again 1[".repeat(6) + "day;" + "];".repeat(6), 1);
        Edge.fine("play", "again 1[again 1[again 1[];];];".repeat(2) + "again 1[".repeat(6) + "day;" + "];".repeat(6), 1);
        Edge.faulty("play", "again 1[".repeat(7) + "day;" + "];".repeat(7), 3, 48);
        Edge.faulty("play", "again 1[".repeat(6) + " again 99", 3, 49);
    }

    static void ofOneTheLeast() {
        Doc.says("1", "of one the least;");
        Edge.faulty("room", "nap 1;".repeat(60) + "foo 1;", 1, 360);
        Edge.faulty("room", "nap 1;".repeat(60) + "7;", 1, 360);
        Edge.faulty("room", "nap 1;".repeat(59) + "nap 1 nap 1;", 1, 360);
        Edge.faulty("room", "house 1;".repeat(5) + "nap 1 house 1;", 1, 46);
        Edge.faulty("law", "((((((7(8", 1, 7);
        Edge.faulty("law", "((((((7 least[1,2]", 1, 8);
        Edge.faulty("law", "((((((foo", 1, 6);
        Edge.faulty("play", "again 1[".repeat(6) + "day again 1[", 1, 52);
        Edge.faulty("play", "again 1[".repeat(6) + "agains 1[", 1, 48);
    }

    static void offTheFelt() {
        Doc.says("1", "4 at the length, if there is no other one: a WINK or CUP at a CELL that the felt has not.");
        Edge.faulty("room", "house 1;wink 0 1 12;", 4, 20);
        Edge.faulty("room", "cup 12 1;", 4, 9);
        Edge.faulty("room", "cup 12 1;   ", 4, 12);
        Edge.faulty("room", "felt 29;cup 29 1;", 4, 17);
        Edge.faulty("room", "felt 4;house 1;wink 0 1 3;wink 0 1 4;", 4, 37);
        Edge.faulty("room", "felt 4;cup 3 1;cup 4 1;", 4, 23);
        Edge.faulty("room", "cup 12 1;nap 10;", 2, 13);
        Edge.faulty("room", "cup 12 1;foo", 1, 9);
        Edge.faulty("room", "cup 12 1", 1, 8);
        Edge.faulty("room", "cup 12 1;" + "house 1;".repeat(6), 3, 49);
        Edge.fine("room", "house 1;wink 0 1 11;cup 11 1;", 1);
        Edge.fine("room", "cup 12 1;felt 13;", 0);
    }

    // ---- promises ----

    static void newObject() {
        Doc.says("p1", "A ROOM without CLAUSES.");
        WinkBank b = new WinkBank();
        WinkBank none = new WinkBank();
        none.room(0);
        Edge.same("as by room(0)", Edge.seen(b), Edge.seen(none));
        Edge.same("all of it", Edge.seen(b), "0 0 0 0 0 0 0 0 0 0 12 3 law 4 9 kept 0 0");
        Check.due("TAPE", b.count(1), 0);
        Check.due("FAULT", b.fault(), -1);
        Check.due("refused", b.status(0) + b.status(1), 0);
        Check.due("nothing to undo", b.undo(), -1);
        Check.due("no IMAGE", b.restore(), -1);
        Check.due("MATCH", b.match(), 0);
        Check.noSuch("no HOUSE", b, () -> b.house(0, 0));
        Check.noSuch("no WINK", b, () -> b.wink(0, 0));
        Check.noSuch("no CUP", b, () -> b.cup(0, 0));
        WinkBank other = Edge.busy();
        Edge.same("objects are apart", Edge.seen(new WinkBank()), Edge.seen(none));
        Check.due("the other one's WINKS", other.told(1), 3);
    }

    static void feed() {
        Doc.says("p2", "Twenty bytes come on the TAPE, of each number the highest first: how many there are;");
        WinkBank b = new WinkBank();
        Check.due("twenty", b.feed(0x686f7573, 0x65203132, 0x333b6375, 0x70203520, 0x37373b20), 20);
        Check.due("forty", b.feed(-1, -1, -1, -1, -1), 40);
        Check.due("'house 123;cup 5 77; '", b.room(20), 0);
        Check.due("coins", b.house(0, 0), 123);
        Check.due("pays", b.cup(0, 1), 77);
        // the lowest byte of the fifth number is the twentieth, and a byte above 127 is no end and no letter
        b.feed(0x20202020, 0x20202020, 0x20202020, 0x20202020, 0x202020ff);
        Check.due("the twentieth byte", b.room(20), -9);
        Check.due("there", b.fault(), 19);

        Doc.says("p2", "NONE, doing nothing, if there would be more than 600.");
        WinkBank full = new WinkBank();
        for (int i = 1; i < 30; i++) {
            full.feed(0x20202020, 0x20202020, 0x20202020, 0x20202020, 0x20202020);
        }
        Check.due("580", full.count(1), 580);
        Check.due("600", full.feed(0x20202020, 0x20202020, 0x20202020, 0x20206e61, 0x7020373b), 600);
        Check.due("one more", full.feed(-1, -1, -1, -1, -1), -1);
        Check.due("still 600", full.count(1), 600);
        Check.due("and once more", full.feed(0, 0, 0, 0, 0), -1);
        Check.due("as it was", full.room(600), 0);
        Check.due("to the last byte", full.told(11), 7);
        Check.due("it can be fed again", full.feed(0, 0, 0, 0, 0), 20);
        Check.due("not refused calls", full.status(0) + full.status(1), 0);
    }

    static void room() {
        Doc.says("p3", "The first n bytes of the TAPE (empty then) are the ROOM");
        WinkBank b = new WinkBank();
        Check.feed(b, "nap 1;nap 2;nap 3;!");
        Check.due("12 bytes", b.room(12), 0);
        Check.due("the first two", b.told(11), 2);
        Check.due("empty", b.count(1), 0);
        Check.feed(b, "nap 1;!!");
        Check.due("no byte of them", b.room(0), 0);
        Check.due("empty", b.count(1), 0);
        Check.due("no CLAUSE", b.told(11), 3);
        Check.feed(b, "nap 1;!!");
        Check.due("a FAULT", b.room(8), -9);
        Check.due("empty", b.count(1), 0);

        Doc.says("p3", "(no LAW, BOOK, IMAGES, nothing to undo): how many WINKS;");
        WinkBank used = Edge.busy();
        String text = "house 7;house 9;felt 20;nap 2;wink 0 3 4;wink 1 5 4;wink 0 1 9;cup 13 30;cup 15 8;";
        Check.due("how many", Check.room(used, text), 3);
        Edge.same("as in a new object", Edge.seen(used), Edge.seen(Check.in(text)));
        Check.due("no BOOK", used.told(8), 0);
        Check.due("no line by which one could be wrong", used.fits(0, 0), 100);
        // ten of NAP and DAMP together 9 at the worst; by 7 and less more fly 0
        Check.due("no line in which a press could be", used.look(0, 0), 8);
        Check.due("no LAW", used.flies(0, 4), 6);
        Check.due("no IMAGE", used.restore(), -1);
        Check.due("nothing to undo", used.undo(), -1);
        Check.due("the same once more", Check.room(used, ""), 0);

        Doc.says("p3", "or the FAULT less 10 (all stays).");
        Edge.faulty("room", "nap", 1, 3);
        Edge.faulty("room", "house 1;house 2;house 3;felt 30;wink 0 1 20;wink 0 1 20;wink 0 1 20;cup 1 1;nap 10;", 2, 80);
        Edge.faulty("room", "house 1;".repeat(6), 3, 40);
        Edge.faulty("room", "house 1;felt 4;nap 0;wink 0 1 4;", 4, 32);

        Doc.says("p3", "IllegalArgumentException: n is not 0 to the TAPE's bytes (it stays).");
        wrongLength("room", 40, -1);
        wrongLength("room", 40, 41);
        wrongLength("room", 0, 1);
        wrongLength("room", 600, 601);
        wrongLength("room", 600, Integer.MAX_VALUE);
        wrongLength("room", 600, Integer.MIN_VALUE);
    }

    /** On a TAPE of so many bytes n is refused; the TAPE, the FAULT and all else stay. */
    private static void wrongLength(String kind, int bytes, int n) {
        WinkBank b = Edge.busy();
        Check.law(b, "1+");
        Check.feed(b, ("nap 5;" + " ".repeat(594)).substring(0, bytes));
        String before = Edge.seen(b);
        Check.illegal(kind + " " + n + " of " + bytes, b, () -> read(b, kind, n));
        Edge.same(kind + " " + n + " all stays", Edge.seen(b), before);
        Check.due(kind + " " + n + " FAULT", b.fault(), 2);
        Check.due(kind + " " + n + " TAPE", b.count(1), bytes);
        if (bytes > 0) {
            Check.due(kind + " " + n + " its bytes", b.room(6), 0);
            Check.due(kind + " " + n + " to read", b.told(11), 5);
        }
    }

    private static int read(WinkBank b, String kind, int n) {
        switch (kind) {
            case "room": return b.room(n);
            case "law": return b.law(n);
            case "play": return b.play(n);
            default: return b.book(n);
        }
    }

    static void law() {
        Doc.says("p4", "Likewise the LAW (n to 150): 1.");
        WinkBank b = Edge.busy();
        String before = Edge.seen(b);
        Check.feed(b, "press+under+cell/5+ and on");
        Check.due("18 bytes", b.law(18), 1);
        Check.due("empty", b.count(1), 0);
        Edge.same("the same LAW, all else stays", Edge.seen(b), before);
        Check.feed(b, " ".repeat(148) + "1217");
        Check.due("150 of 160", b.law(150), 1);
        Check.due("to the last", b.flies(0, 1), 12);
        Check.feed(b, "7");
        Check.due("no byte", b.law(0), -9);
        Check.due("at the length", b.fault(), 0);
        Check.due("the LAW stays", b.flies(0, 1), 12);
        Check.due("empty", b.count(1), 0);
        wrongLength("law", 160, 151);
        wrongLength("law", 40, 41);
        wrongLength("law", 40, -1);
        wrongLength("law", 0, 1);
        wrongLength("law", 600, 600);
    }

    static void play() {
        Doc.says("p5", "Likewise PLAY (n to 150), which is done: how many STEPS were done (agains not counted, nor REFUSED ones);");
        WinkBank b = Edge.busy();
        Check.feed(b, "damp 4;damp 5;again 2[day;shake;];day");
        Check.due("34 bytes", b.play(34), 5);
        Check.due("empty", b.count(1), 0);
        Check.due("REFUSED", b.told(9), 1);
        Check.due("days", b.told(3), 3);
        Check.due("all REFUSED", Check.play(b, "damp 5;damp 5;"), 0);
        Check.due("nothing at all", Check.play(b, ""), 0);
        Check.due("each is a PLAY", b.count(2), 5);
        Check.feed(b, " ".repeat(146) + "day;day;");
        Check.due("150 of 160", b.play(150), 1);
        wrongLength("play", 160, 151);
        wrongLength("play", 40, 41);
        wrongLength("play", 40, -1);
        wrongLength("play", 0, 1);
        wrongLength("play", 600, 600);

        Doc.says("p5", "or the FAULT less 10 (none is);");
        Edge.faulty("play", "day;day", 1, 7);
        Edge.faulty("play", "flick 2 1;flick 3 1;", 2, 16);
        Edge.faulty("play", "damp 9;" + "again 1[".repeat(7), 3, 55);
    }

    static void playsFull() {
        Doc.says("p5", "-20 ahead of that (nothing is read, there is no FAULT, the TAPE is empty then): 16 PLAYS are there that were not undone.");
        WinkBank b = Check.in("house 9;felt 9;wink 0 1 4;");
        for (int i = 0; i < 15; i++) {
            Check.play(b, "day;");
        }
        Check.due("the 16th", Check.play(b, "damp 0;damp 0;"), 0);
        Check.due("two REFUSED", b.told(9), 2);
        Check.law(b, "press+");
        Check.due("a FAULT", b.fault(), 6);
        String before = Edge.seen(b);
        Check.due("a 17th", Check.play(b, "day;"), -20);
        Check.due("no FAULT", b.fault(), -1);
        Check.due("TAPE", b.count(1), 0);
        Check.due("a 17th that is none", Check.play(b, "foo"), -20);
        Check.due("no FAULT", b.fault(), -1);
        Check.due("of no byte", b.play(0), -20);
        Edge.same("all stays", Edge.seen(b), before);
        Check.feed(b, " ".repeat(160));
        Check.illegal("n is wrong", b, () -> b.play(151));
        Check.due("TAPE", b.count(1), 160);
        Check.due("n is right", b.play(150), -20);
        Check.due("undo", b.undo(), 15);
        Check.due("a FAULT again", Check.play(b, "foo"), -9);
        Check.due("a 16th again", Check.play(b, "day;"), 1);
        Check.due("a 17th again", Check.play(b, "day;"), -20);
        Check.due("laws go on", Check.law(b, "1"), 1);
        Check.due("books go on", Check.book(b, "1 1;"), 1);
        Check.due("rooms go on", Check.room(b, ""), 0);
        Check.due("and have none", Check.play(b, "day;"), 1);
    }

    static void book() {
        Doc.says("p6", "Likewise the BOOK (n to 100): how many lines.");
        WinkBank b = Edge.busy();
        Check.feed(b, "1 2;3 3;5");
        String before = Edge.seen(b);
        Check.due("8 bytes", b.book(8), 2);
        Check.due("empty", b.count(1), 0);
        Edge.same("the same BOOK, all else stays", Edge.seen(b), before);
        Check.feed(b, "1 1;2 2;" + " ".repeat(88) + "3 3;4 4;");
        Check.due("100 of 120", b.book(100), 3);
        Check.due("lines", b.told(8), 3);
        Check.due("no byte", b.book(0), 0);
        Check.due("lines", b.told(8), 0);
        wrongLength("book", 120, 101);
        wrongLength("book", 40, 41);
        wrongLength("book", 40, -1);
        wrongLength("book", 0, 1);
        wrongLength("book", 600, 150);
    }

    static void fault() {
        Doc.says("p7", "The place of the FAULT of the latest text; NONE without.");
        WinkBank b = new WinkBank();
        Check.due("ahead of any", b.fault(), -1);
        Check.room(b, "nap 10;");
        Check.due("a ROOM's", b.fault(), 4);
        Check.law(b, "1");
        Check.due("a LAW without", b.fault(), -1);
        Check.law(b, "1+");
        Check.due("a LAW's", b.fault(), 2);
        b.undo();
        b.restore();
        b.image();
        Check.due("it stays", b.fault(), 2);
        Check.feed(b, "1 2;");
        Check.due("a TAPE is no text yet", b.fault(), 2);
        b.book(4);
        Check.due("a BOOK without", b.fault(), -1);
        Check.book(b, "1");
        Check.due("a BOOK's", b.fault(), 1);
        Check.play(b, "days;");
        Check.due("a PLAY's", b.fault(), 0);
        Check.play(b, "");
        Check.due("a PLAY without", b.fault(), -1);
        Check.play(b, "  ]");
        Check.due("a PLAY's", b.fault(), 2);
        Check.room(b, "");
        Check.due("a ROOM without", b.fault(), -1);
    }
}

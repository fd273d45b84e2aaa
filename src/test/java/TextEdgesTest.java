/** The edges of THE TEXT of a valley, promise 2. */
public final class TextEdgesTest {
    private static final String[] STATEMENTS = {"c0123;", "e1233;", "s12;", "d1;", "h12;", "t00;"};

    private TextEdgesTest() {
    }

    public static void main(String[] args) {
        oneStatementAtLeast();
        asManyAsARowHolds();
        everyFirstByte();
        everyByteInPlaceOfADigit();
        everyByteInPlaceOfTheEnd();
        everythingThatLacks();
        digitsTooManyOrTooFew();
        kindOneAheadOfKindTwo();
        rangesOfCells();
        rangesOfEagles();
        rangesOfSheepDrumsHours();
        rangesOfThrows();
        noRoomForEagles();
        noRoomForSheep();
        theFirstThatCannotBeDone();
        eachOnWhatThoseAheadMade();
        anEagleMoreLeavesTheOthers();
        withOneNothing();
        withoutFaultAllOfIt();
        refusedShelves();
        refusedOnes();
        theRowStays();
        Due.end();
    }

    private static void fault(String text, int due) {
        MeatForDiamonds x = Due.valley("s00;");
        Due.is("text " + text, Due.tell(x, text), due);
    }

    /** A byte more at the end of a text. */
    private static void faultBefore(String text, int lastByte, int due) {
        MeatForDiamonds x = Due.valley("s00;");
        x.row(0, 0, text.length() + 1);
        for (int i = 0; i < text.length(); i++) {
            x.put(0, i, text.charAt(i));
        }
        x.put(0, text.length(), lastByte);
        Due.is("text " + text + " and a byte " + lastByte, x.valley(0), due);
    }

    /** "STATEMENTS, each with ";" behind, one at least". */
    private static void oneStatementAtLeast() {
        fault("", -1000);
        fault(";", -1000);
        for (String statement : STATEMENTS) {
            fault(statement, 1);
        }
    }

    /** A ROW has 0 .. 100 elements. */
    private static void asManyAsARowHolds() {
        String most = "h01;".repeat(25);
        MeatForDiamonds x = new MeatForDiamonds();
        Due.is("100 bytes", Due.tell(x, most), 25);
        Due.is("25 hours", x.count(2), (6 + 25) % 24);
        fault("d0;".repeat(33), 33);
        fault("d0;".repeat(33) + "d", -1100);
        fault("d0;".repeat(33) + ";", -1099);
        fault(most.substring(0, 99), -1099);
        fault(most.substring(0, 99) + ":", -1099);
        fault(most.substring(0, 96) + "h00;", -2096);
        fault(most.substring(0, 97) + "d1;", -1097);
        fault("h00;" + most.substring(0, 96), -2000);
    }

    private static boolean isOneOf(String signs, int sign) {
        return sign > 0 && signs.indexOf(sign) >= 0;
    }

    /** Kind 1: "the place of the first byte with which no VALLEY can go on (the end, if something lacks)". */
    private static void everyFirstByte() {
        for (int b = -128; b < 128; b++) {
            faultBefore("", b, isOneOf("cesdht", b) ? -1001 : -1000);
            faultBefore("d0;", b, isOneOf("cesdht", b) ? -1004 : -1003);
        }
    }

    private static void everyByteInPlaceOfADigit() {
        for (String statement : STATEMENTS) {
            for (int place = 1; place < statement.length() - 1; place++) {
                for (int b = -128; b < 128; b++) {
                    faultBefore(statement.substring(0, place), b, isOneOf("0123456789", b) ? -1000 - place - 1 : -1000 - place);
                }
            }
        }
    }

    private static void everyByteInPlaceOfTheEnd() {
        for (String statement : STATEMENTS) {
            int place = statement.length() - 1;
            for (int b = -128; b < 128; b++) {
                faultBefore(statement.substring(0, place), b, b == ';' ? 1 : -1000 - place);
            }
        }
    }

    private static void everythingThatLacks() {
        for (String first : new String[] {"", "d0;", "h01;d1;"}) {
            for (String statement : STATEMENTS) {
                for (int length = 1; length < statement.length(); length++) {
                    String text = first + statement.substring(0, length);
                    fault(text, -1000 - text.length());
                }
            }
        }
    }

    /** "numbers in THE TEXT have just as many digits as told". */
    private static void digitsTooManyOrTooFew() {
        for (String statement : STATEMENTS) {
            int place = statement.length() - 1;
            fault(statement.substring(0, place) + "0;", -1000 - place);
            fault(statement.substring(0, place - 1) + ";", -1000 - place + 1);
        }
        fault("h+1;", -1001);
        fault("h-1;", -1001);
        fault("h 1;", -1001);
        fault("d1 ;", -1002);
        fault("d1; ", -1003);
        fault(" d1;", -1000);
        fault("d1;;", -1003);
        fault("D1;", -1000);
    }

    /** "FAULT: kind 1 ..; else kind 2 ..". */
    private static void kindOneAheadOfKindTwo() {
        fault("d9;x", -1003);
        fault("d9;d", -1004);
        fault("d9;d1", -1005);
        fault("d1;d9;", -2003);
        fault("d9;d9;;", -1006);
        fault("t99;h0", -1006);
        fault("c9", -1002);
    }

    /** ""c" a CELL, BIG, SMALL, SNAKES (a digit each): so it is then". */
    private static void rangesOfCells() {
        fault("c0000;", 1);
        fault("c7999;", 1);
        fault("c8000;", -2000);
        fault("c9999;", -2000);
        MeatForDiamonds x = Due.valley("c0999;c7999;c0120;c7003;");
        Due.is("cell 0", x.cellOf(0, 0) * 100 + x.cellOf(0, 1) * 10 + x.cellOf(0, 2), 120);
        Due.is("cell 7", x.cellOf(7, 0) * 100 + x.cellOf(7, 1) * 10 + x.cellOf(7, 2), 3);
        Due.is("the others", x.count(4) * 10 + x.count(5), 12);
    }

    /** ""e" STRENGTH (2 digits), HUNGER, NEST (a digit each): an EAGLE more". */
    private static void rangesOfEagles() {
        fault("e0000;", -2000);
        fault("e0100;", 1);
        fault("e3000;", 1);
        fault("e3100;", -2000);
        fault("e9993;", -2000);
        fault("e0990;", 1);
        fault("e0993;", 1);
        fault("e0904;", -2000);
        fault("e0909;", -2000);
        MeatForDiamonds x = Due.valley("e0193;e3000;");
        Due.is("the first", eagleOf(x, 0), 1930);
        Due.is("the second", eagleOf(x, 1), 30000);
    }

    private static int eagleOf(MeatForDiamonds x, int e) {
        return x.eagle(e, 0) * 1000 + x.eagle(e, 1) * 100 + x.eagle(e, 2) * 10 + x.eagle(e, 3);
    }

    /** ""s" KIND, FIGURE ..; "d" DRUMS ..; "h" hours (2 digits): a WAIT". */
    private static void rangesOfSheepDrumsHours() {
        fault("s00;", 1);
        fault("s79;", 1);
        fault("s80;", -2000);
        fault("s99;", -2000);
        fault("d0;", 1);
        fault("d1;", 1);
        fault("d2;", -2000);
        fault("d9;", -2000);
        fault("h00;", -2000);
        fault("h01;", 1);
        fault("h60;", 1);
        fault("h61;", -2000);
        fault("h99;", -2000);
    }

    /** ""t" a SHEEP, a CELL (a digit each): a THROW"; "no such one, thrown too far". */
    private static void rangesOfThrows() {
        int[] flies = {4, 6, 3, 3, 6, 2, 7, 7};
        for (int kind = 0; kind < 8; kind++) {
            for (int c = 0; c < 10; c++) {
                MeatForDiamonds x = Due.valley("s" + kind + "5;");
                Due.is("t0" + c, Due.tell(x, "t0" + c + ";"), c <= flies[kind] ? 1 : -2000);
                Due.is("HOUR", x.count(2), c <= flies[kind] ? 7 : 6);
            }
        }
        fault("t10;", -2000);
        fault("t90;", -2000);
        MeatForDiamonds none = new MeatForDiamonds();
        Due.is("no sheep at all", Due.tell(none, "t00;"), -2000);
        MeatForDiamonds x = Due.valley("s00;s00;s00;s00;s00;s00;s00;");
        Due.is("the last sheep", Due.tell(x, "t60;"), 1);
        Due.is("none behind it", Due.tell(x, "t70;"), -2000);
    }

    private static void noRoomForEagles() {
        fault("e0100;e0100;e0100;e0100;", 4);
        fault("e0100;e0100;e0100;e0100;e0100;", -2024);
        MeatForDiamonds x = Due.valley("e0100;e0100;e0100;");
        Due.is("the fourth", Due.tell(x, "e0100;"), 1);
        Due.is("a fifth", Due.tell(x, "e0100;"), -2000);
        Due.is("a fifth out of range", Due.tell(x, "e0000;"), -2000);
        Due.is("four", x.count(0), 4);
    }

    private static void noRoomForSheep() {
        MeatForDiamonds x = new MeatForDiamonds();
        Due.is("seven", Due.tell(x, "s00;".repeat(7)), 7);
        Due.is("an eighth", Due.tell(x, "s00;"), -2000);
        Due.is("seven are there", x.count(1), 7);
        MeatForDiamonds y = new MeatForDiamonds();
        Due.is("eight at once", Due.tell(y, "s00;".repeat(8)), -2028);
        Due.is("none is there", y.count(1), 0);
    }

    /** "STATEMENTS are tried one behind the other .. and the first that can't be done so is told (kind 2)". */
    private static void theFirstThatCannotBeDone() {
        fault("d1;d2;d3;", -2003);
        fault("t10;d2;", -2000);
        fault("c0111;e1000;s00;d1;h05;t00;t21;d2;", -2027);
        fault("h60;h61;s80;", -2004);
    }

    /** ".. each on what those ahead of it made". */
    private static void eachOnWhatThoseAheadMade() {
        MeatForDiamonds x = new MeatForDiamonds();
        Due.is("a sheep behind its throw", Due.tell(x, "t00;s00;"), -2000);
        Due.is("a throw behind its sheep", Due.tell(x, "s00;t00;"), 2);
        Due.is("the second sheep's too", Due.tell(x, "t10;s60;"), -2000);
        Due.is("the second sheep's too", Due.tell(x, "s60;t17;"), 2);
        MeatForDiamonds y = Due.valley("s06;c0300;e1090;t00;d1;c0100;h20;t00;");
        Due.is("fed and waiting: 9 - 4 + 5, then drummed", y.eagle(0, 1), 9);
        Due.is("both throws", y.nest(0), 20);
        Due.is("WARY", y.eagle(0, 3), 1);
        Due.is("HOUR", y.count(2), (6 + 1 + 20 + 1) % 24);
    }

    /** "an EAGLE more", WARY 0: those that were there stay as they are. */
    private static void anEagleMoreLeavesTheOthers() {
        for (int drums = 0; drums < 2; drums++) {
            MeatForDiamonds x = Due.valley("s06;d1;e3091;e2992;e2893;" + "t00;".repeat(11));
            Due.is("DRUMS", Due.tell(x, "d" + drums + ";e2700;"), 2);
            int[][] due = {{30, 9, 1, 5}, {29, 9, 2, 5}, {28, 9, 3, 1}, {27, 0, 0, 0}};
            for (int e = 0; e < 4; e++) {
                for (int what = 0; what < 4; what++) {
                    Due.is("eagle " + e + ", what " + what, x.eagle(e, what), due[e][what]);
                }
            }
        }
    }

    /** "Without FAULT all of it comes, with one nothing." */
    private static void withOneNothing() {
        MeatForDiamonds x = Due.valley("c0111;e1000;s00;");
        String before = Told.all(x);
        Due.is("kind 2 at the end", Due.tell(x, "c0999;e2022;s11;d1;h09;t00;d2;"), -2027);
        Due.is("kind 1 at the end", Due.tell(x, "c0999;e2022;s11;d1;h09;t00;d"), -1028);
        Due.unchanged(x, before);
    }

    private static void withoutFaultAllOfIt() {
        MeatForDiamonds x = Due.valley("c1111;e1000;s00;");
        Due.is("six more", Due.tell(x, "c0991;e2022;s11;d1;h09;t00;"), 6);
        Due.is("BIG", x.count(4), 1 + 9 - 1);
        Due.is("SMALL", x.count(5), 1 + 9);
        Due.is("eagles", x.count(0), 2);
        Due.is("HUNGER: 0 and 2 each 2 more, then 1 more", x.count(7), 3 + 5);
        Due.is("sheep", x.count(1), 2);
        Due.is("DRUMS", x.count(3), 1);
        Due.is("HOUR", x.count(2), 16);
        Due.is("NEST", x.nest(2), 5);
    }

    /** Promise 2: "-1, -11, -12 (no ROW of bytes)". */
    private static void refusedShelves() {
        MeatForDiamonds x = new MeatForDiamonds();
        for (int d = 0; d < 8; d++) {
            Due.is("nothing is held at first", x.valley(d), -11);
        }
        for (int d = 0; d < 8; d += 7) {
            Due.text(x, d, "d1;");
        }
        Due.range("valley(d)", x::valley, 0, 7, -1);
    }

    private static void refusedOnes() {
        MeatForDiamonds x = new MeatForDiamonds();
        x.keep(0, 1, 0, 0);
        Due.row(x, 1, 1, 'd', '1', ';');
        Due.row(x, 2, 2, 'd', '1', ';');
        x.row(3, 1, 0);
        x.row(4, 0, 0);
        String before = Told.all(x);
        Due.is("a sheep", x.valley(0), -12);
        Due.is("shorts, though a text", x.valley(1), -12);
        Due.is("ints, though a text", x.valley(2), -12);
        Due.is("no shorts", x.valley(3), -12);
        Due.is("no bytes", x.valley(4), -1000);
        Due.is("nothing", x.valley(5), -11);
        x.keep(4, 1, 0, 0);
        x.keep(4, 0, 0, 0);
        Due.is("nothing any more", x.valley(4), -11);
        x.row(4, 0, 0);
        Due.unchanged(x, before);
    }

    /** "The ROW of a text .. stay[s] there". */
    private static void theRowStays() {
        MeatForDiamonds x = new MeatForDiamonds();
        Due.text(x, 0, "h01;d1;");
        Due.text(x, 1, "h01;d2;");
        Due.text(x, 2, "h01;d");
        String before = Told.shelves(x);
        Due.is("told", x.valley(0), 2);
        Due.is("told again", x.valley(0), 2);
        Due.is("kind 2", x.valley(1), -2004);
        Due.is("kind 1", x.valley(2), -1005);
        Due.isTrue("the rows stay", Told.shelves(x).equals(before));
        Due.is("HOUR", x.count(2), 8);
    }
}

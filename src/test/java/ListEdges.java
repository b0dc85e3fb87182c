import java.io.IOException;

/** The tape, the price list and the accounts: each sentence of the document, at its edges. */
public final class ListEdges {
    private static final int MIN = Edges.MIN;
    private static final int MAX = Edges.MAX;
    private static final String EIGHT = "dock1 1;dock2 1;dock3 1;dock4 1;dock5 1;dock6 1;dock7 1;dock8 1;";

    public static void main(String[] args) throws IOException {
        Edges.main(ListEdges.class, "IV", "24", "25", "26", "27", "28", "29");
    }

    private static void due(String what, long got, long want) {
        Edges.due(what, got, want);
    }

    private static int four(String text) {
        return TapeWriter.four(text, 0);
    }

    private static void write(GrainHouse x, String text) {
        int due = (int) x.about(9) + text.length();
        due("end() behind " + text, TapeWriter.write(x, text), due);
    }

    private static int list(GrainHouse x, String text) {
        write(x, text);
        return x.list();
    }

    private static void good(String text, int clauses) {
        GrainHouse x = new GrainHouse();
        due("list() of " + text, list(x, text), clauses);
        due("fault(0) of " + text, x.fault(0), 0);
        due("fault(1) of " + text, x.fault(1), -1);
    }

    private static void faulty(String text, int fault, int place) {
        GrainHouse x = new GrainHouse();
        due("list() of " + text, list(x, text), -1);
        due("fault(0) of " + text, x.fault(0), fault);
        due("fault(1) of " + text, x.fault(1), place);
    }

    /** Load 0 is a ton of kind 1, of this moist. */
    private static GrainHouse ton(int moist) {
        GrainHouse x = new GrainHouse();
        x.load(0, 1, 1000, moist, 0);
        return x;
    }

    // ---- Terms IV

    @Says(at = "IV", words = "THE LIST: a text of up to 200 bytes.")
    private static void listOfNoneAndOf200Bytes() {
        good("", 0);
        good("price 0 1;" + " ".repeat(180) + "price 1 1;", 2);
        good(" ".repeat(200), 0);
        faulty(" ".repeat(199) + "?", 1, 199);
        faulty(" ".repeat(195) + "price", 1, 200);
        faulty(" ".repeat(193) + "price 1", 1, 200);
        faulty(" ".repeat(191) + "price 1 1", 1, 200);
    }

    @Says(at = "IV", words = "TOKENS, blanks (32) aside:")
    private static void blanksAside() {
        good("price1 1;dock1 1;", 2);
        good("  price   1   1  ;   dock  1   1 ;  ", 2);
        faulty("pri ce 1 1;", 1, 0);
        for (int sign = 0; sign < 256; sign++) {
            boolean token = Character.isLetterOrDigit(sign) && sign < 128 || sign == ';' || sign == ' ';
            if (!token) {
                faulty("price 1" + (char) sign + "1;", 1, 7);
            }
        }
    }

    @Says(at = "IV", words = "letters a .. z, A .. Z one behind the other,")
    private static void lettersOneBehindTheOther() {
        for (char sign : "azAZmM".toCharArray()) {
            faulty("price" + sign + " 1 1;", 1, 0);
            faulty(sign + "price 1 1;", 1, 0);
        }
        for (char sign : "@[`{".toCharArray()) {
            faulty("price" + sign + " 1 1;", 1, 5);
        }
        for (int sign = 128; sign < 256; sign++) {
            faulty("price" + (char) sign + " 1 1;", 1, 5);
        }
        faulty("pricedock 1 1;", 1, 0);
    }

    @Says(at = "IV", words = "digits one behind the other (NUMBERS),")
    private static void digitsOneBehindTheOther() {
        good("price 0 9;", 1);
        faulty("price 12;", 3, 6);
        faulty("price 1 1/;", 1, 9);
        faulty("price 1 1:;", 1, 9);
        faulty("price 1 -1;", 1, 8);
        good("price 0000000000000000000003 00000000000000000009999;", 1);
        faulty("price 4294967297 1;", 3, 6);
        faulty("price 18446744073709551617 1;", 3, 6);
        faulty("price 1 " + "9".repeat(190) + ";", 3, 8);
        faulty("dock 4294967296 1;", 3, 5);
    }

    @Says(at = "IV", words = "; {CLAUSE}.")
    private static void clausesOneBehindTheOther() {
        good("", 0);
        good("price 1 1;", 1);
        good("dock 1 1;price 1 1;dock 2 1;", 3);
        faulty(";", 1, 0);
        faulty("price 1 1;;", 1, 10);
        faulty("price 1 1 dock 1 1;", 1, 10);
    }

    @Says(at = "IV", words = "CLAUSE: price NUMBER NUMBER ; (a KIND;")
    private static void kindOfAPrice() {
        good("price 0 1;price 3 1;", 2);
        faulty("price 4 1;", 3, 6);
        faulty("price 0;", 1, 7);
        faulty("price;", 1, 5);
        faulty("price 0 1", 1, 9);
    }

    @Says(at = "IV", words = "0 .. 9999 for a ton of DRY;")
    private static void priceOfATon() {
        GrainHouse x = ton(0);
        due("0", list(x, "price 1 0;"), 1);
        due("worth", x.worth(0), 0);
        due("9999", list(x, "price 1 9999;"), 1);
        due("worth", x.worth(0), 9999);
        faulty("price 1 10000;", 3, 8);
    }

    @Says(at = "IV", words = "without: 0)")
    private static void withoutAPrice() {
        GrainHouse x = ton(0);
        due("of others", list(x, "price 0 5;price 2 5;price 3 5;"), 3);
        due("worth", x.worth(0), 0);
        due("its own", list(x, "price 1 5;"), 1);
        due("worth", x.worth(0), 5);
        due("docks alone", list(x, "dock 400 1;"), 1);
        due("worth", x.worth(0), 0);
    }

    @Says(at = "IV", words = "or dock NUMBER NUMBER ; (LOADS of MOIST above the first, 0 .. 400,")
    private static void docksAboveAMoist() {
        GrainHouse x = ton(0);
        x.load(0, 1, 1000, 1, 0);
        x.load(0, 1, 1000, 399, 0);
        x.load(0, 1, 1000, 400, 0);
        due("dock 0", list(x, "price 1 1000;dock 0 50;"), 2);
        due("0 is not above 0", x.worth(0), 1000);
        due("1 is above 0", x.worth(1), 500);
        due("dock 399", list(x, "price 1 1000;dock 399 50;"), 2);
        due("399 is not above 399", x.worth(2), 601);
        due("400 is above 399", x.worth(3), 300);
        due("dock 400", list(x, "price 1 1000;dock 400 50;"), 2);
        due("400 is not above 400", x.worth(3), 600);
        faulty("dock 401 1;", 3, 5);
        faulty("dock 1;", 1, 6);
        faulty("dock;", 1, 4);
        faulty("dock 1 1", 1, 8);
    }

    @Says(at = "IV", words = "lose the second, 1 .. 50 hundredths;")
    private static void hundredthsOfADock() {
        GrainHouse x = ton(100);
        due("1", list(x, "price 1 1000;dock 0 1;"), 2);
        due("worth", x.worth(0), 891);
        due("50", list(x, "price 1 1000;dock 0 50;"), 2);
        due("worth", x.worth(0), 450);
        faulty("dock 1 0;", 3, 7);
        faulty("dock 1 51;", 3, 7);
    }

    @Says(at = "IV", words = "8 such at most).")
    private static void eightDocks() {
        GrainHouse x = ton(100);
        due("eight", list(x, EIGHT + "price 1 1000;"), 9);
        due("all eight count", x.worth(0), 828);
        due("nine", list(x, EIGHT + "dock 9 1;"), -1);
        due("as it was", x.worth(0), 828);
    }

    @Says(at = "IV", words = "FAULTS, the first as TOKENS are come to,")
    private static void theFirstFault() {
        faulty("price 9 1;x", 3, 6);
        faulty("x price 9 1;", 1, 0);
        faulty("price 1 1;price 1 99999;", 2, 16);
        faulty("price 9", 3, 6);
        faulty(EIGHT + "dock 1 1;", 4, 64);
        faulty(EIGHT + "dock", 4, 64);
        faulty("dock 1 99;" + EIGHT, 3, 7);
    }

    @Says(at = "IV", words = "at the TOKEN's first byte")
    private static void placeIsTheFirstByte() {
        faulty("   prices 1 1;", 1, 3);
        faulty("price 1   10000;", 3, 10);
        faulty("price   444 1;", 3, 8);
        faulty("dock 5 1;dock   0005 1;", 2, 16);
        faulty(EIGHT + "   dock 9 1;", 4, 67);
        faulty("price 1 1   price", 1, 12);
    }

    @Says(at = "IV", words = "(of the end at the length),")
    private static void placeOfTheEnd() {
        faulty("price", 1, 5);
        faulty("price   ", 1, 8);
        faulty("price 1", 1, 7);
        faulty("price 1 1", 1, 9);
        faulty("price 1 1  ", 1, 11);
        faulty("price" + " ".repeat(195), 1, 200);
    }

    @Says(at = "IV", words = "of one the least:")
    private static void theLeastFaultOfOneToken() {
        faulty("price 1 1 99999;", 1, 10);
        faulty("99999", 1, 0);
        faulty(EIGHT + "price dock 9 1;", 1, 70);
        faulty(EIGHT + "price 1 1 dock", 1, 74);
        faulty("price 1 1;price 2 1 1;", 1, 20);
    }

    @Says(at = "IV", words = "1 it can't stand there, or is none.")
    private static void faultOne() {
        faulty("dock price", 1, 5);
        faulty("price 1 ;", 1, 8);
        faulty("price 1 dock", 1, 8);
        faulty("price ; 1 1", 1, 6);
        faulty("price 1 1 1;", 1, 10);
        faulty("Price 1 1;", 1, 0);
        faulty("DOCK 1 1;", 1, 0);
        faulty("pric 1 1;", 1, 0);
        faulty("doc 1 1;", 1, 0);
        faulty("docks 1 1;", 1, 0);
        faulty("#", 1, 0);
        faulty("price 1 1;#", 1, 10);
        faulty("price #", 1, 6);
        faulty("price 1 1#;", 1, 9);
    }

    @Says(at = "IV", words = "2 price of a KIND, dock of a MOIST for the second time (at it).")
    private static void faultTwo() {
        faulty("price 0 1;price 0 1;", 2, 16);
        faulty("price 3 1;price 2 1;price 3 2;", 2, 26);
        faulty("dock 0 1;dock 0 1;", 2, 14);
        faulty("dock 400 1;dock 399 1;dock 400 2;", 2, 27);
        faulty("price 1 0;price 1", 2, 16);
        good("price 1 1;dock 1 1;price 2 1;dock 2 1;", 4);
        GrainHouse x = new GrainHouse();
        due("a list", list(x, "price 1 1;dock 1 1;"), 2);
        due("the same in the next", list(x, "price 1 1;dock 1 1;"), 2);
        due("a fault", list(x, "price 1 1;dock 1 1;?"), -1);
        due("the same behind a fault", list(x, "price 1 1;dock 1 1;"), 2);
    }

    @Says(at = "IV", words = "3 a NUMBER that isn't one of those told.")
    private static void faultThree() {
        good("price 0 0;price 3 9999;dock 0 1;dock 400 50;", 4);
        faulty("price 4 0;", 3, 6);
        faulty("price 3 10000;", 3, 8);
        faulty("dock 401 1;", 3, 5);
        faulty("dock 400 0;", 3, 9);
        faulty("dock 400 51;", 3, 9);
    }

    @Says(at = "IV", words = "4 the 9th dock (at its word).")
    private static void faultFour() {
        good(EIGHT, 8);
        faulty(EIGHT + "dock9 1;", 4, 64);
        faulty(EIGHT + "price 0 1;dock 9 1;", 4, 74);
        GrainHouse x = new GrainHouse();
        due("eight", list(x, EIGHT), 8);
        due("eight in the next", list(x, EIGHT), 8);
        due("nine", list(x, EIGHT + "dock"), -1);
        due("eight behind a fault", list(x, EIGHT), 8);
    }

    @Says(at = "IV", words = "WORTH of a LOAD by THE LIST of now:")
    private static void worthOfNow() {
        GrainHouse x = ton(0);
        list(x, "price 1 7;");
        due("by the first", x.worth(0), 7);
        list(x, "price 1 8;");
        due("by the second", x.worth(0), 8);
        write(x, "price 1 9;");
        due("a tape is no list", x.worth(0), 8);
        x.end(0);
        x.list();
        due("by an empty one", x.worth(0), 0);
    }

    @Says(at = "IV", words = "its DRY * price / 1000000, cut;")
    private static void worthIsCut() {
        GrainHouse x = new GrainHouse();
        x.load(0, 0, 1001, 1, 0);
        x.load(0, 0, 40000, 0, 1);
        x.load(0, 0, 1, 0, 2);
        list(x, "price 0 999;");
        due("999999 * 999 / 1000000", x.worth(0), 998);
        due("999 a ton of 40", x.worth(1), 39960);
        due("999000 / 1000000", x.worth(2), 0);
        list(x, "price 0 1000;");
        due("1000000 / 1000000", x.worth(2), 1);
        list(x, "price 0 9999;");
        due("beyond an int on the way", x.worth(1), 399960);
    }

    @Says(at = "IV", words = "less that * (all docks that it is above, together, 100 at most) / 100, cut.")
    private static void docksTogether() {
        GrainHouse x = ton(201);
        list(x, "price 1 1234;dock 200 33;");
        due("985 less 325 of 325.05", x.worth(0), 660);
        list(x, "price 1 1234;dock 200 1;dock 0 2;dock 201 50;");
        due("985 less 29 of 29.55", x.worth(0), 956);
        list(x, "price 1 1234;dock 200 49;dock 0 50;");
        due("985 less 975 of 975.15", x.worth(0), 10);
        list(x, "price 1 1234;dock 200 50;dock 0 50;");
        due("all", x.worth(0), 0);
        list(x, "price 1 1234;dock 200 50;dock 0 50;dock 1 1;");
        due("101 are 100", x.worth(0), 0);
        list(x, "price 1 1234;dock 0 50;dock 1 50;dock 2 50;dock 3 50;dock 4 50;dock 5 50;dock 6 50;dock 7 50;");
        due("400 are 100", x.worth(0), 0);
        GrainHouse y = new GrainHouse();
        y.load(0, 0, 40000, 1, 0);
        list(y, "price 0 9999;dock 0 50;dock 399 50;");
        due("399560 less 199780", y.worth(0), 199780);
    }

    @Says(at = "IV", words = "An ACCOUNT of a FARMER: its LOADS' DRY, WORTH together.")
    private static void accountsAddUp() {
        GrainHouse x = new GrainHouse();
        x.load(3, 0, 999, 0, 0);
        x.load(4, 0, 1, 0, 0);
        x.load(3, 0, 999, 0, 0);
        list(x, "price 0 1;");
        due("dry", x.account(3, 0), 1998000);
        due("worth, each cut by itself", x.account(3, 1), 0);
        list(x, "price 0 2;");
        due("worth, each cut by itself", x.account(3, 1), 2);
        due("dry of the other", x.account(4, 0), 1000);
    }

    @Says(at = "IV", words = "The constants: `NONE = -1`: None.")
    private static void none() {
        due("NONE", GrainHouse.NONE, -1);
        due("it is what a call tells", new GrainHouse().worth(0), GrainHouse.NONE);
    }

    // ---- Promise 24

    @Says(at = "24", words = "Twenty bytes come behind the tape,")
    private static void feedComesBehind() {
        GrainHouse x = ton(0);
        x.feed(four("pric"), four("e 1 "), four("77  "), four("    "), four("    "));
        x.end(10);
        x.feed(four("88;p"), four("rice"), four(" 0 3"), four("    "), four("  ; "));
        due("bytes", x.about(9), 30);
        due("list", x.list(), 2);
        due("7788 a ton", x.worth(0), 7788);
    }

    @Says(at = "24", words = "the highest of a first:")
    private static void feedFromTheHighestByte() {
        GrainHouse x = ton(0);
        x.feed(four("pric"), four("e 1 "), four("9876"), four("; pr"), four("ice "));
        x.end(14);
        due("list", x.list(), 1);
        due("9876 a ton", x.worth(0), 9876);
        for (int i = 0; i < 4; i++) {
            GrainHouse y = new GrainHouse();
            y.feed(0x20202020 ^ 0xff000000 >>> 8 * i, 0, 0, 0, 0);
            y.list();
            due("byte " + i + " of a", y.fault(1), i);
            GrainHouse z = new GrainHouse();
            z.feed(0x20202020, 0x20202020, 0x20202020, 0x20202020, 0x20202020 ^ 0xff000000 >>> 8 * i);
            z.list();
            due("byte " + i + " of e", z.fault(1), 16 + i);
        }
    }

    @Says(at = "24", words = "how many it has.")
    private static void feedTellsTheLength() {
        GrainHouse x = new GrainHouse();
        due("the first", x.feed(MIN, MAX, -1, 0, 1), 20);
        x.end(1);
        due("behind one", x.feed(0, 0, 0, 0, 0), 21);
        x.list();
        due("behind list()", x.feed(0, 0, 0, 0, 0), 20);
    }

    @Says(at = "24", words = "NONE, and none come, if there would be more than 200.")
    private static void feedBeyond200() {
        GrainHouse x = new GrainHouse();
        for (int i = 1; i <= 10; i++) {
            due("feed " + i, x.feed(0, 0, 0, 0, 0), 20 * i);
        }
        due("the 11th", x.feed(0, 0, 0, 0, 0), -1);
        due("bytes", x.about(9), 200);
        x.end(181);
        due("to 201", x.feed(0, 0, 0, 0, 0), -1);
        due("bytes", x.about(9), 181);
        x.end(180);
        due("to 200", x.feed(0, 0, 0, 0, 0), 200);
        GrainHouse y = new GrainHouse();
        write(y, "price 1 1;" + " ".repeat(171));
        due("refused", y.feed(0, 0, 0, 0, 0), -1);
        due("none came", y.list(), 1);
    }

    // ---- Promise 25

    @Says(at = "25", words = "The tape has its first n bytes alone: n.")
    private static void endKeepsTheFirst() {
        GrainHouse x = new GrainHouse();
        due("0 of none", x.end(0), 0);
        write(x, "price 0 70;nothing");
        due("all of it", x.end(18), 18);
        due("bytes", x.about(9), 18);
        due("the first 11", x.end(11), 11);
        due("list", x.list(), 1);
        write(x, "price 0 70;");
        due("one less", x.end(10), 10);
        due("list", x.list(), -1);
        due("the end", x.fault(1), 10);
        write(x, "price 0 70;");
        x.end(9);
        x.list();
        due("a number ends with the tape", x.fault(1), 9);
        write(x, "price 0 70;");
        x.end(4);
        x.list();
        due("so does a word", x.fault(1), 0);
        write(x, "pricex");
        x.end(5);
        x.list();
        due("and a longer one", x.fault(1), 5);
        write(x, "     ?");
        x.end(5);
        due("so do blanks", x.list(), 0);
        write(x, "??");
        due("none", x.end(0), 0);
        due("list", x.list(), 0);
    }

    @Says(at = "25", words = "NONE, and nothing is done, if it has not so many,")
    private static void endBeyondTheTape() {
        GrainHouse x = new GrainHouse();
        due("1 of none", x.end(1), -1);
        x.feed(0, 0, 0, 0, 0);
        due("21 of 20", x.end(21), -1);
        due("MAX of 20", x.end(MAX), -1);
        due("bytes", x.about(9), 20);
        due("20 of 20", x.end(20), 20);
        x.end(5);
        due("6 of 5, though there were 20", x.end(6), -1);
        due("bytes", x.about(9), 5);
    }

    @Says(at = "25", words = "or n is below 0.")
    private static void endBelowNought() {
        GrainHouse x = new GrainHouse();
        due("-1 of none", x.end(-1), -1);
        x.feed(0, 0, 0, 0, 0);
        due("-1", x.end(-1), -1);
        due("MIN", x.end(MIN), -1);
        due("bytes", x.about(9), 20);
    }

    // ---- Promise 26

    @Says(at = "26", words = "The tape (empty then) becomes THE LIST: how many CLAUSES.")
    private static void listEmptiesTheTape() {
        GrainHouse x = ton(400);
        due("an empty tape", x.list(), 0);
        due("two", list(x, "price 1 1000;dock 0 1;"), 2);
        due("the tape", x.about(9), 0);
        due("worth", x.worth(0), 594);
        due("all that may be", list(x, "price0 0;price1 9999;price2 1;price3 2;" + EIGHT), 12);
        due("worth", x.worth(0), 5520);
        due("an empty one becomes THE LIST", x.list(), 0);
        due("worth", x.worth(0), 0);
    }

    @Says(at = "26", words = "NONE: it has a FAULT,")
    private static void listWithAFault() {
        GrainHouse x = new GrainHouse();
        due("fault 1", list(x, "price 1 1"), -1);
        due("the tape is empty too", x.about(9), 0);
        due("fault 2", list(x, "price 1 1;price 1 1;"), -1);
        due("fault 3", list(x, "price 9 1;"), -1);
        due("fault 4", list(x, EIGHT + "dock 9 1;"), -1);
        due("none", list(x, "price 1 1;"), 1);
    }

    @Says(at = "26", words = "the former one stays.")
    private static void theFormerListStays() {
        GrainHouse x = ton(100);
        list(x, "price 1 1000;dock 99 10;");
        due("worth", x.worth(0), 810);
        due("a fault behind whole clauses", list(x, "price 1 5;dock 0 50;price 2 1;?"), -1);
        due("worth", x.worth(0), 810);
        due("a fault within a clause", list(x, "price 1 5"), -1);
        due("worth", x.worth(0), 810);
        due("a fault at once", list(x, "?"), -1);
        due("worth", x.worth(0), 810);
        due("account", x.account(0, 1), 810);
    }

    // ---- Promise 27

    @Says(at = "27", words = "Of the latest list(): 0 its FAULT (0 without),")
    private static void faultOfTheLatest() {
        GrainHouse x = new GrainHouse();
        x.list();
        due("without", x.fault(0), 0);
        String[] texts = {"?", "dock 1 1;dock 1 1;", "dock 401 1;", EIGHT + "dock 9 1;"};
        for (int fault = 1; fault <= 4; fault++) {
            list(x, texts[fault - 1]);
            due("fault", x.fault(0), fault);
        }
        write(x, "price 1 1;");
        due("still of the latest", x.fault(0), 4);
        x.list();
        due("without again", x.fault(0), 0);
        list(x, "?");
        x.list();
        due("without, of an empty tape behind a fault", x.fault(0), 0);
    }

    @Says(at = "27", words = "1 its place (NONE without).")
    private static void placeOfTheLatest() {
        GrainHouse x = new GrainHouse();
        x.list();
        due("without", x.fault(1), -1);
        list(x, "?");
        due("at the first byte", x.fault(1), 0);
        list(x, " ".repeat(199) + "?");
        due("at the last byte", x.fault(1), 199);
        list(x, "price" + " ".repeat(195));
        due("at the end", x.fault(1), 200);
        list(x, "price 1 1;");
        due("without again", x.fault(1), -1);
        list(x, "?");
        x.list();
        due("without, of an empty tape behind a fault", x.fault(1), -1);
    }

    @Says(at = "27", words = "NONE for others,")
    private static void faultOfOthers() {
        GrainHouse x = new GrainHouse();
        list(x, "price 9 1;");
        due("-1", x.fault(-1), -1);
        due("2", x.fault(2), -1);
        due("MIN", x.fault(MIN), -1);
        due("MAX", x.fault(MAX), -1);
    }

    @Says(at = "27", words = "and ahead of any.")
    private static void faultAheadOfAny() {
        GrainHouse x = new GrainHouse();
        due("fault", x.fault(0), -1);
        due("place", x.fault(1), -1);
        write(x, "?");
        due("fault, though there is a tape", x.fault(0), -1);
        due("place, though there is a tape", x.fault(1), -1);
    }

    // ---- Promise 28

    @Says(at = "28", words = "WORTH of a LOAD.")
    private static void worthOfFirstAndLast() {
        GrainHouse x = new GrainHouse();
        list(x, "price 2 9;");
        for (int i = 0; i < 100; i++) {
            x.load(0, i == 0 || i == 99 ? 2 : 1, 1000, 0, i == 0 || i == 99 ? 0 : 1);
        }
        due("the first", x.worth(0), 9);
        due("another", x.worth(1), 0);
        due("the last", x.worth(99), 9);
        x.ship(0, 2000);
        due("though it was shipped", x.worth(99), 9);
    }

    @Says(at = "28", words = "NONE: there is none such.")
    private static void worthOfNone() {
        GrainHouse x = new GrainHouse();
        due("0 of none", x.worth(0), -1);
        x.load(0, 0, 1, 0, 0);
        due("-1", x.worth(-1), -1);
        due("1 of one", x.worth(1), -1);
        due("100", x.worth(100), -1);
        due("MIN", x.worth(MIN), -1);
        due("MAX", x.worth(MAX), -1);
        x.load(0, 1, 1, 0, 0);
        due("a refused one", x.worth(1), -1);
    }

    // ---- Promise 29

    @Says(at = "29", words = "Of a FARMER: 0 DRY of its LOADS together,")
    private static void dryOfAFarmer() {
        GrainHouse x = new GrainHouse();
        due("without loads", x.account(9, 0), 0);
        for (int i = 0; i < 100; i++) {
            x.load(i < 99 ? 9 : 0, 0, 40000, 0, 0);
            x.ship(0, 40000);
        }
        due("beyond an int, though all was shipped", x.account(9, 0), 99L * 40000000);
        due("the other's", x.account(0, 0), 40000000);
    }

    @Says(at = "29", words = "1 their WORTH,")
    private static void worthOfAFarmer() {
        GrainHouse x = new GrainHouse();
        list(x, "price 0 9999;price 1 1000;");
        due("without loads", x.account(9, 1), 0);
        for (int i = 0; i < 100; i++) {
            x.load(i < 99 ? 9 : 0, 0, 40000, 0, 0);
            x.ship(0, 40000);
        }
        due("the most", x.account(9, 1), 99 * 399960);
        due("the other's", x.account(0, 1), 399960);
    }

    @Says(at = "29", words = "2 how many.")
    private static void loadsOfAFarmer() {
        GrainHouse x = new GrainHouse();
        due("none", x.account(0, 2), 0);
        for (int i = 0; i < 101; i++) {
            x.load(i == 50 ? 9 : 0, 0, 1, 0, 0);
        }
        due("99", x.account(0, 2), 99);
        due("1", x.account(9, 2), 1);
    }

    @Says(at = "29", words = "NONE for others.")
    private static void accountOfOthers() {
        GrainHouse x = new GrainHouse();
        x.load(0, 0, 1, 0, 0);
        for (int what = 0; what < 3; what++) {
            due("farmer -1", x.account(-1, what), -1);
            due("farmer 10", x.account(10, what), -1);
            due("farmer MIN", x.account(MIN, what), -1);
            due("farmer MAX", x.account(MAX, what), -1);
        }
        due("what -1", x.account(0, -1), -1);
        due("what 3", x.account(0, 3), -1);
        due("what MIN", x.account(0, MIN), -1);
        due("what MAX", x.account(0, MAX), -1);
    }
}

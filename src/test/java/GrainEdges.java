import java.io.IOException;

/** Bins, loads, legs, moving, drying and shipping: each sentence of the document, at its edges. */
public final class GrainEdges {
    private static final int MIN = Edges.MIN;
    private static final int MAX = Edges.MAX;

    public static void main(String[] args) throws IOException {
        Edges.main(GrainEdges.class, "What it is", "I", "1", "2", "3", "4", "5", "6", "7", "8", "9", "10", "11", "12",
                "30");
    }

    private static void due(String what, long got, long want) {
        Edges.due(what, got, want);
    }

    private static void due(String what, boolean got, boolean want) {
        Edges.due(what, got, want);
    }

    /** Bins 0 and 1 with a leg of 6 minutes between them, and in bin 0 so many kg of kind 2. */
    private static GrainHouse pair(int kg, int moist) {
        GrainHouse x = new GrainHouse();
        x.leg(0, 1, 6);
        x.load(0, 2, kg, moist, 0);
        return x;
    }

    /** From bin 0 by all four junctions to bin 1, each leg of 60 minutes. */
    private static GrainHouse longest() {
        GrainHouse x = new GrainHouse();
        x.leg(0, 8, 60);
        x.leg(8, 9, 60);
        x.leg(9, 10, 60);
        x.leg(10, 11, 60);
        x.leg(11, 1, 60);
        return x;
    }

    private static void dueBin(GrainHouse x, int bin, int kind, int kg, long dry) {
        due("kind of bin " + bin, x.binOf(bin, 0), kind);
        due("kg of bin " + bin, x.binOf(bin, 1), kg);
        due("dry in bin " + bin, x.dryIn(bin), dry);
    }

    // ---- What it is

    @Says(at = "What it is", words = "A house for wet grain: loads with what is dry in them kept to the gram through "
            + "moving, mixing, drying and shipping; bins of one kind alone, legs that must be cleaned between kinds; "
            + "trucks in a rush unloaded so that they wait least; fan hours bought where they are cheap and dry; blends "
            + "as wet as an order lets; farmers' accounts by a price list that close. ==== I.")
    private static void noGramIsLost() {
        GrainHouse x = pair(997, 333);
        x.load(3, 2, 13, 1, 1);
        x.leg(1, 2, 1);
        for (int i = 1; i < 40; i++) {
            x.move(0, 1, i);
            x.dry(1, 2, i + 2, 7 * i % 300);
            x.ship(i % 3, 5);
        }
        due("what came", x.about(8), 997L * 667 + 13 * 999);
        due("what stands and what was shipped", x.about(7) + x.about(6), x.about(8));
        due("kg", x.binOf(0, 1) + x.binOf(1, 1) + x.binOf(2, 1) + x.about(4) + x.about(5), 1010);
    }

    @Says(at = "What it is", words = "An object is used for at most 512 calls after it has been made; what later calls "
            + "answer is free.")
    private static void the512thCallIsAnswered() {
        GrainHouse x = new GrainHouse();
        for (int call = 1; call < 512; call++) {
            int load = x.load(9, 3, 1000, 100, call % 8);
            due("load at call " + call, load, call <= 100 ? call - 1 : -1);
        }
        due("call 512", x.account(9, 0), 90000000);
    }

    // ---- Terms I

    @Says(at = "I", words = "KINDS 0 .. 3.")
    private static void kindsAreFour() {
        GrainHouse x = new GrainHouse();
        due("kind -1", x.load(0, -1, 1, 0, 0), -1);
        due("kind 4", x.load(0, 4, 1, 0, 0), -1);
        due("kind MIN", x.load(0, MIN, 1, 0, 0), -1);
        due("kind MAX", x.load(0, MAX, 1, 0, 0), -1);
        due("kind 0", x.load(0, 0, 1, 0, 0), 0);
        due("kind 3", x.load(0, 3, 1, 0, 1), 1);
        due("kind of bin 0", x.binOf(0, 0), 0);
        due("kind of bin 1", x.binOf(1, 0), 3);
    }

    @Says(at = "I", words = "BINS 0 .. 7,")
    private static void binsAreEight() {
        GrainHouse x = new GrainHouse();
        due("bin -1", x.load(0, 0, 1, 0, -1), -1);
        due("bin 8", x.load(0, 0, 1, 0, 8), -1);
        due("bin MIN", x.load(0, 0, 1, 0, MIN), -1);
        due("bin MAX", x.load(0, 0, 1, 0, MAX), -1);
        due("bin 0", x.load(0, 0, 5, 0, 0), 0);
        due("bin 7", x.load(0, 0, 6, 0, 7), 1);
        due("kg of bin 0", x.binOf(0, 1), 5);
        due("kg of bin 7", x.binOf(7, 1), 6);
    }

    @Says(at = "I", words = "each HOLDS so many kg (1 .. 500000;")
    private static void aBinOfOneKgAndOfTheMost() {
        GrainHouse x = new GrainHouse();
        due("0 kg", x.holds(0, 0), false);
        due("-1 kg", x.holds(0, -1), false);
        due("500001 kg", x.holds(0, 500001), false);
        due("1 kg", x.holds(0, 1), true);
        due("2 kg into it", x.load(0, 0, 2, 0, 0), -1);
        due("1 kg into it", x.load(0, 0, 1, 0, 0), 0);
        due("500000 kg", x.holds(1, 500000), true);
        for (int i = 1; i <= 12; i++) {
            due("40000 kg more", x.load(0, 0, 40000, 0, 1), i);
        }
        due("20001 kg more", x.load(0, 0, 20001, 0, 1), -1);
        due("20000 kg more", x.load(0, 0, 20000, 0, 1), 13);
        due("1 kg more", x.load(0, 0, 1, 0, 1), -1);
        due("kg", x.binOf(1, 1), 500000);
    }

    @Says(at = "I", words = "at first 100000).")
    private static void aBinHolds100000AtFirst() {
        GrainHouse x = new GrainHouse();
        for (int bin = 0; bin < 8; bin++) {
            due("bin " + bin, x.binOf(bin, 3), 100000);
        }
        x.load(0, 0, 40000, 0, 0);
        x.load(0, 0, 40000, 0, 0);
        due("20001 kg more", x.load(0, 0, 20001, 0, 0), -1);
        due("20000 kg more", x.load(0, 0, 20000, 0, 0), 2);
    }

    @Says(at = "I", words = "STUFF: kg, and DRY (grams: of a load kg * (1000 - MOIST),")
    private static void dryOfTheLeastAndTheGreatestLoad() {
        GrainHouse x = new GrainHouse();
        x.load(0, 0, 1, 400, 0);
        x.load(0, 0, 40000, 0, 1);
        x.load(0, 0, 40000, 399, 2);
        dueBin(x, 0, 0, 1, 600);
        dueBin(x, 1, 0, 40000, 40000000);
        dueBin(x, 2, 0, 40000, 24040000);
    }

    @Says(at = "I", words = "MOIST 0 .. 400 thousandths).")
    private static void moistOfALoad() {
        GrainHouse x = new GrainHouse();
        due("moist -1", x.load(0, 0, 10, -1, 0), -1);
        due("moist 401", x.load(0, 0, 10, 401, 0), -1);
        due("moist MIN", x.load(0, 0, 10, MIN, 0), -1);
        due("moist MAX", x.load(0, 0, 10, MAX, 0), -1);
        due("moist 0", x.load(0, 0, 10, 0, 0), 0);
        due("moist 400", x.load(0, 0, 10, 400, 1), 1);
        due("moist in bin 0", x.binOf(0, 2), 0);
        due("moist in bin 1", x.binOf(1, 2), 400);
    }

    @Says(at = "I", words = "MOIST of STUFF: 1000 - DRY / kg (the quotient cut),")
    private static void theQuotientOfMoistIsCut() {
        GrainHouse x = new GrainHouse();
        x.load(0, 0, 999, 123, 0);
        due("876123 in 999", x.binOf(0, 2), 123);
        x.load(0, 0, 1, 124, 0);
        due("876999 in 1000", x.binOf(0, 2), 124);
        x.load(0, 0, 1, 0, 0);
        due("877999 in 1001", x.binOf(0, 2), 123);
    }

    @Says(at = "I", words = "0 at least")
    private static void moistIsNeverBelowNought() {
        GrainHouse x = pair(3, 350);
        due("1950 grams come as one kg", x.dry(0, 1, 3, 0), 1);
        due("moist of 1950 in one kg", x.binOf(1, 2), 0);
        x.load(0, 2, 1, 0, 1);
        due("moist of 2950 in two kg", x.binOf(1, 2), 0);
    }

    @Says(at = "I", words = "(NONE without kg).")
    private static void noMoistWithoutKg() {
        GrainHouse x = pair(5, 0);
        due("of a bin never used", x.binOf(1, 2), -1);
        due("of one that is all dry", x.binOf(0, 2), 0);
        x.ship(0, 4);
        due("of its last kg", x.binOf(0, 2), 0);
        x.ship(0, 1);
        due("of one that was emptied", x.binOf(0, 2), -1);
    }

    @Says(at = "I", words = "A BIN has STUFF of one KIND, or is empty (no kg).")
    private static void aBinIsOfAnotherKindOnceEmpty() {
        GrainHouse x = pair(5, 100);
        due("another kind", x.load(0, 1, 1, 0, 0), -1);
        x.ship(0, 4);
        due("another kind on the last kg", x.load(0, 1, 1, 0, 0), -1);
        x.ship(0, 1);
        due("empty", x.binOf(0, 0), -1);
        due("another kind", x.load(0, 1, 7, 0, 0), 1);
        dueBin(x, 0, 1, 7, 7000);
        x.move(0, 1, 7);
        due("emptied by a move", x.binOf(0, 0), -1);
        due("a third kind", x.load(0, 3, 1, 0, 0), 2);
    }

    @Says(at = "I", words = "TAKEN from a BIN: n of its kg (1 to all):")
    private static void oneKgToAllAreTaken() {
        GrainHouse x = pair(10, 100);
        due("-1 kg", x.ship(0, -1), -1);
        due("0 kg", x.ship(0, 0), -1);
        due("11 kg", x.ship(0, 11), -1);
        due("MAX kg", x.ship(0, MAX), -1);
        due("1 kg", x.ship(0, 1), 900);
        due("10 of 9", x.ship(0, 10), -1);
        due("all 9", x.ship(0, 9), 8100);
        due("1 of none", x.ship(0, 1), -1);
        due("0 of none", x.ship(0, 0), -1);
    }

    @Says(at = "I", words = "with it goes DRY * n / kg, cut")
    private static void dryThatGoesIsCut() {
        GrainHouse x = pair(7, 333);
        due("4669 * 3 / 7", x.ship(0, 3), 2001);
        due("what stays", x.dryIn(0), 2668);
        due("2668 * 3 / 4", x.ship(0, 3), 2001);
        due("what stays", x.dryIn(0), 667);
        GrainHouse y = pair(40000, 1);
        due("39960000 * 39999 / 40000 is beyond an int on the way", y.ship(0, 39999), 39959001);
        GrainHouse z = new GrainHouse();
        z.holds(0, 500000);
        for (int i = 0; i < 12; i++) {
            z.load(0, 0, 40000, 0, 0);
        }
        z.load(0, 0, 20000, 0, 0);
        due("the most that goes", z.ship(0, 499999), 499999000);
    }

    @Says(at = "I", words = "(all of it, if n is all).")
    private static void withAllKgGoesAllDry() {
        GrainHouse x = pair(7, 333);
        x.ship(0, 2);
        due("dry of 5", x.dryIn(0), 3335);
        x.ship(0, 2);
        due("dry of 3", x.dryIn(0), 2001);
        due("all", x.ship(0, 3), 2001);
        due("none stays", x.dryIn(0), 0);
    }

    @Says(at = "I", words = "PUT into a BIN: it must be empty or of that KIND,")
    private static void putByKind() {
        GrainHouse x = pair(100, 300);
        x.leg(0, 2, 6);
        x.leg(0, 3, 6);
        x.load(0, 3, 1, 0, 1);
        x.load(0, 2, 1, 0, 2);
        due("load to another kind", x.load(0, 2, 1, 0, 1), -1);
        due("move to another kind", x.move(0, 1, 10), -1);
        due("dry to another kind", x.dry(0, 1, 10, 0), -1);
        due("load to the kind", x.load(0, 2, 1, 0, 2), 3);
        due("move to the kind", x.move(0, 2, 10), 6);
        due("dry to the kind", x.dry(0, 2, 10, 0), 7);
        due("load to an empty one", x.load(0, 1, 1, 0, 4), 4);
        due("move to an empty one", x.move(0, 3, 10), 6);
        dueBin(x, 3, 2, 10, 7000);
    }

    @Says(at = "I", words = "and have room:")
    private static void putWhereThereIsRoom() {
        GrainHouse x = pair(100, 100);
        x.holds(1, 10);
        due("move of 11 to room for 10", x.move(0, 1, 11), -1);
        due("load of 11", x.load(0, 2, 11, 0, 1), -1);
        due("dry that comes as 11", x.dry(0, 1, 13, 0), -1);
        due("move of 3", x.move(0, 1, 3), 6);
        due("load of 8 to room for 7", x.load(0, 2, 8, 0, 1), -1);
        due("load of 3", x.load(0, 2, 3, 0, 1), 1);
        due("dry that comes as 5 to room for 4", x.dry(0, 1, 6, 0), -1);
        due("dry that comes as 4", x.dry(0, 1, 5, 0), 4);
        due("load to a full one", x.load(0, 2, 1, 0, 1), -1);
        due("move to a full one", x.move(0, 1, 1), -1);
        due("dry to a full one", x.dry(0, 1, 2, 0), -1);
        due("kg", x.binOf(1, 1), 10);
    }

    @Says(at = "I", words = "kg and DRY add up.")
    private static void whatIsPutAddsUp() {
        GrainHouse x = pair(10, 100);
        x.load(0, 2, 20, 200, 0);
        dueBin(x, 0, 2, 30, 25000);
        x.load(0, 2, 1, 0, 1);
        x.move(0, 1, 30);
        dueBin(x, 1, 2, 31, 26000);
    }

    @Says(at = "I", words = "A LOAD (100 at most)")
    private static void loadsAre100() {
        GrainHouse x = new GrainHouse();
        for (int i = 0; i < 100; i++) {
            due("load " + i, x.load(0, 0, 1, 0, 0), i);
        }
        due("the 101st", x.load(0, 0, 1, 0, 0), -1);
        due("the 101st, of another bin", x.load(0, 0, 1, 0, 1), -1);
        dueBin(x, 0, 0, 100, 100000);
        due("all are shipped", x.ship(0, 100), 100000);
        due("a load counts still", x.load(0, 0, 1, 0, 0), -1);
        dueBin(x, 0, -1, 0, 0);
    }

    @Says(at = "I", words = "of a FARMER (0 .. 9),")
    private static void farmersAreTen() {
        GrainHouse x = new GrainHouse();
        due("farmer -1", x.load(-1, 0, 1, 0, 0), -1);
        due("farmer 10", x.load(10, 0, 1, 0, 0), -1);
        due("farmer MIN", x.load(MIN, 0, 1, 0, 0), -1);
        due("farmer MAX", x.load(MAX, 0, 1, 0, 0), -1);
        due("farmer 0", x.load(0, 0, 1, 0, 0), 0);
        due("farmer 9", x.load(9, 0, 2, 0, 0), 1);
        due("dry of farmer 0", x.account(0, 0), 1000);
        due("dry of farmer 9", x.account(9, 0), 2000);
    }

    @Says(at = "I", words = "KIND, kg (1 .. 40000), MOIST comes into a BIN (PUT).")
    private static void kgOfALoad() {
        GrainHouse x = new GrainHouse();
        due("0 kg", x.load(0, 0, 0, 0, 0), -1);
        due("-1 kg", x.load(0, 0, -1, 0, 0), -1);
        due("40001 kg", x.load(0, 0, 40001, 0, 0), -1);
        due("MIN kg", x.load(0, 0, MIN, 0, 0), -1);
        due("MAX kg", x.load(0, 0, MAX, 0, 0), -1);
        due("nothing came", x.binOf(0, 1), 0);
        due("1 kg", x.load(0, 0, 1, 0, 0), 0);
        due("40000 kg", x.load(0, 0, 40000, 0, 0), 1);
        due("they came", x.binOf(0, 1), 40001);
    }

    @Says(at = "I", words = "NODES 0 .. 11:")
    private static void nodesAreTwelve() {
        GrainHouse x = new GrainHouse();
        due("from -1", x.leg(-1, 5, 1), -1);
        due("to -1", x.leg(5, -1, 1), -1);
        due("from 12", x.leg(12, 5, 1), -1);
        due("to 12", x.leg(5, 12, 1), -1);
        due("from MIN", x.leg(MIN, 5, 1), -1);
        due("to MAX", x.leg(5, MAX, 1), -1);
        due("0 to 11", x.leg(0, 11, 1), 0);
        due("11 to 7", x.leg(11, 7, 1), 1);
        due("by 11", x.way(0, 0, 7), 2);
    }

    @Says(at = "I", words = "BIN b is NODE b, 8 .. 11 are junctions.")
    private static void node7IsABinAndNode8AJunction() {
        GrainHouse x = new GrainHouse();
        x.leg(0, 7, 1);
        x.leg(7, 1, 1);
        due("by node 7", x.way(0, 0, 1), -1);
        due("to node 7", x.way(0, 0, 7), 1);
        x.leg(2, 8, 1);
        x.leg(8, 3, 1);
        due("by node 8", x.way(0, 2, 3), 2);
        due("to node 8", x.way(0, 2, 8), -1);
        due("from node 8", x.way(0, 8, 2), -1);
        x.leg(4, 11, 1);
        x.leg(11, 5, 1);
        due("by node 11", x.way(0, 4, 5), 2);
        due("to node 11", x.way(0, 4, 11), -1);
        for (int bin = 0; bin < 7; bin++) {
            GrainHouse y = new GrainHouse();
            y.leg(bin, 8, 1);
            y.leg(8, 7, 1);
            due("bin " + bin + " is node " + bin, y.way(0, bin, 7), 2);
        }
    }

    @Says(at = "I", words = "LEGS (20 at most)")
    private static void legsAre20() {
        GrainHouse x = new GrainHouse();
        for (int i = 0; i < 19; i++) {
            due("leg " + i, x.leg(2, 3, 60), i);
        }
        due("the 20th", x.leg(0, 1, 9), 19);
        due("by it", x.way(0, 0, 1), 9);
        due("its number", x.wayLeg(0, 0, 1, 0), 19);
        due("the 21st", x.leg(0, 1, 3), -1);
        due("the 21st, elsewhere", x.leg(4, 5, 3), -1);
        due("it is not there", x.way(0, 0, 1), 9);
        due("nor there", x.way(0, 4, 5), -1);
    }

    @Says(at = "I", words = "between two NODES, both ways,")
    private static void legsGoBothWays() {
        GrainHouse x = pair(10, 0);
        due("there", x.move(0, 1, 10), 6);
        due("and back", x.move(1, 0, 10), 6);
        x.leg(8, 3, 1);
        x.leg(8, 2, 1);
        due("both from the junction", x.way(0, 2, 3), 2);
        due("back", x.way(0, 3, 2), 2);
        due("the first back", x.wayLeg(0, 3, 2, 0), 1);
    }

    @Says(at = "I", words = "of MINUTES (1 .. 60),")
    private static void minutesOfALeg() {
        GrainHouse x = new GrainHouse();
        due("0", x.leg(0, 1, 0), -1);
        due("-1", x.leg(0, 1, -1), -1);
        due("61", x.leg(0, 1, 61), -1);
        due("MIN", x.leg(0, 1, MIN), -1);
        due("MAX", x.leg(0, 1, MAX), -1);
        due("no way by them", x.way(0, 0, 1), -1);
        due("60", x.leg(0, 1, 60), 0);
        due("by it", x.way(0, 0, 1), 60);
        due("1", x.leg(0, 1, 1), 1);
        due("by it", x.way(0, 0, 1), 1);
    }

    @Says(at = "I", words = "each with the KIND that went by it last (none at first).")
    private static void aNewLegIsCleanForAll() {
        GrainHouse x = new GrainHouse();
        x.leg(0, 1, 6);
        for (int kind = 0; kind < 4; kind++) {
            due("new, for kind " + kind, x.way(kind, 0, 1), 6);
        }
        x.load(0, 0, 10, 0, 0);
        x.move(0, 1, 10);
        for (int kind = 0; kind < 4; kind++) {
            due("behind kind 0, for kind " + kind, x.way(kind, 0, 1), kind == 0 ? 6 : 16);
        }
        x.load(0, 3, 10, 0, 0);
        x.ship(1, 10);
        x.move(0, 1, 10);
        for (int kind = 0; kind < 4; kind++) {
            due("kind 3 was last, for kind " + kind, x.way(kind, 0, 1), kind == 3 ? 6 : 16);
        }
    }

    @Says(at = "I", words = "A WAY from a BIN to another one: LEGS one behind the other, with junctions alone between;")
    private static void waysByJunctionsAlone() {
        GrainHouse x = new GrainHouse();
        x.leg(0, 2, 1);
        x.leg(2, 1, 1);
        due("by a bin", x.way(0, 0, 1), -1);
        x.leg(0, 8, 1);
        x.leg(9, 1, 1);
        due("with a gap", x.way(0, 0, 1), -1);
        x.leg(8, 2, 1);
        x.leg(2, 9, 1);
        due("by two junctions with a bin between", x.way(0, 0, 1), -1);
        due("as far as it", x.way(0, 0, 2), 1);
        GrainHouse y = longest();
        due("by all junctions", y.way(0, 0, 1), 300);
        due("back", y.way(0, 1, 0), 300);
        due("its fifth leg", y.wayLeg(0, 0, 1, 4), 4);
    }

    @Says(at = "I", words = "each costs its MINUTES,")
    private static void legsCostTheirMinutes() {
        GrainHouse x = new GrainHouse();
        x.leg(0, 8, 1);
        x.leg(8, 9, 60);
        x.leg(9, 1, 17);
        due("way", x.way(0, 0, 1), 78);
    }

    @Says(at = "I", words = "and CLEANING more (0 .. 99; at first 10),")
    private static void cleaningOfTheLongestWay() {
        GrainHouse x = longest();
        x.load(0, 0, 10, 0, 0);
        x.move(0, 1, 10);
        due("at first 10 a leg", x.way(1, 0, 1), 350);
        due("-1", x.cleaning(-1), false);
        due("100", x.cleaning(100), false);
        due("it stays", x.way(1, 0, 1), 350);
        due("0", x.cleaning(0), true);
        due("none", x.way(1, 0, 1), 300);
        due("99", x.cleaning(99), true);
        due("the dearest way", x.way(1, 0, 1), 795);
    }

    @Says(at = "I", words = "if another KIND than that which is to go went by it last.")
    private static void onlyLegsOfAnotherKindAreCleaned() {
        GrainHouse x = new GrainHouse();
        x.leg(0, 8, 1);
        x.leg(8, 1, 2);
        x.leg(8, 2, 4);
        x.load(0, 0, 10, 0, 0);
        x.move(0, 1, 5);
        due("the kind that went", x.way(0, 0, 1), 3);
        due("another kind", x.way(1, 0, 1), 23);
        due("another kind by one new leg", x.way(1, 0, 2), 15);
        due("the kind by one new leg", x.way(0, 0, 2), 5);
    }

    @Says(at = "I", words = "THE WAY: the least cost;")
    private static void theWayCostsLeast() {
        GrainHouse x = longest();
        x.leg(0, 8, 1);
        x.leg(8, 9, 1);
        x.leg(9, 10, 1);
        x.leg(10, 11, 1);
        x.leg(11, 1, 1);
        x.leg(0, 1, 6);
        due("five legs of 1 against one of 6", x.way(0, 0, 1), 5);
        due("the first of them", x.wayLeg(0, 0, 1, 0), 5);
        due("the last of them", x.wayLeg(0, 0, 1, 4), 9);
    }

    @Says(at = "I", words = "of like ones the fewest LEGS;")
    private static void theWayOfFewestLegs() {
        GrainHouse x = new GrainHouse();
        x.leg(0, 8, 1);
        x.leg(8, 9, 1);
        x.leg(9, 1, 2);
        x.leg(8, 1, 3);
        due("three legs or two", x.wayLeg(0, 0, 1, 1), 3);
        due("no third", x.wayLeg(0, 0, 1, 2), -1);
        x.leg(0, 1, 4);
        due("or one", x.wayLeg(0, 0, 1, 0), 4);
        due("no second", x.wayLeg(0, 0, 1, 1), -1);
    }

    @Says(at = "I", words = "of these the first by LEGS' numbers.")
    private static void theWayFirstByNumbers() {
        GrainHouse x = new GrainHouse();
        x.leg(9, 1, 5);
        x.leg(0, 8, 5);
        x.leg(0, 9, 5);
        x.leg(8, 1, 5);
        due("1, 3 is ahead of 2, 0", x.wayLeg(0, 0, 1, 0), 1);
        due("and then", x.wayLeg(0, 0, 1, 1), 3);
        due("0, 2 is ahead of 3, 1", x.wayLeg(0, 1, 0, 0), 0);
        due("and then", x.wayLeg(0, 1, 0, 1), 2);
        x.leg(8, 1, 5);
        due("1, 3 is ahead of 1, 4", x.wayLeg(0, 0, 1, 1), 3);
    }

    @Says(at = "I", words = "What is moved goes by it: all its LEGS have that KIND last;")
    private static void allLegsOfTheWayHaveTheKind() {
        GrainHouse x = longest();
        x.leg(8, 2, 1);
        x.load(0, 2, 100, 100, 0);
        due("asked before", x.way(1, 0, 1), 300);
        x.dry(0, 1, 50, 0);
        due("five legs to be cleaned", x.way(1, 0, 1), 350);
        due("one leg to be cleaned, the other was not on it", x.way(1, 0, 2), 71);
    }

    @Says(at = "I", words = "its cost is added to the MINUTES USED.")
    private static void minutesAreAdded() {
        GrainHouse x = pair(100, 100);
        due("at first", x.about(3), 0);
        x.move(0, 1, 50);
        due("a move", x.about(3), 6);
        x.dry(0, 1, 50, 0);
        due("a drying", x.about(3), 12);
        x.ship(1, 95);
        x.load(0, 0, 1, 0, 1);
        x.way(0, 1, 0);
        due("asking", x.about(3), 12);
        x.move(1, 0, 1);
        due("with cleaning", x.about(3), 28);
        x.move(1, 0, 1);
        due("a refused move", x.about(3), 28);
    }

    @Says(at = "I", words = "MOVED: n kg from a BIN to another one by THE WAY.")
    private static void movedFromOneToAnother() {
        GrainHouse x = pair(10, 100);
        due("to itself", x.move(0, 0, 1), -1);
        due("1 kg", x.move(0, 1, 1), 6);
        dueBin(x, 0, 2, 9, 8100);
        dueBin(x, 1, 2, 1, 900);
        due("all", x.move(0, 1, 9), 6);
        dueBin(x, 0, -1, 0, 0);
        dueBin(x, 1, 2, 10, 9000);
    }

    @Says(at = "I", words = "DRIED: n kg so, on the way to MOIST t (0 .. 300,")
    private static void driedTo0AndTo300() {
        GrainHouse x = pair(100, 400);
        due("to -1", x.dry(0, 1, 10, -1), -1);
        due("to 301", x.dry(0, 1, 10, 301), -1);
        due("to MIN", x.dry(0, 1, 10, MIN), -1);
        due("to 1000", x.dry(0, 1, 10, 1000), -1);
        due("to MAX", x.dry(0, 1, 10, MAX), -1);
        due("to 0", x.dry(0, 1, 10, 0), 6);
        due("to 300", x.dry(0, 1, 70, 300), 60);
        dueBin(x, 0, 2, 20, 12000);
        dueBin(x, 1, 2, 66, 48000);
    }

    @Says(at = "I", words = "below the MOIST of the BIN):")
    private static void driedBelowTheMoist() {
        GrainHouse x = pair(999, 123);
        x.load(0, 2, 1, 124, 0);
        due("to 125", x.dry(0, 1, 1000, 125), -1);
        due("to its moist", x.dry(0, 1, 1000, 124), -1);
        due("to one less", x.dry(0, 1, 1000, 123), 999);
        GrainHouse y = pair(10, 0);
        due("what is dry", y.dry(0, 1, 10, 0), -1);
        GrainHouse z = pair(10, 1);
        due("what is all but dry", z.dry(0, 1, 10, 0), 9);
    }

    @Says(at = "I", words = "of the DRY that was taken kg come of DRY / (1000 - t), cut;")
    private static void kgThatComeAreCut() {
        GrainHouse x = pair(200, 250);
        due("75000 / 1000", x.dry(0, 1, 100, 0), 75);
        dueBin(x, 1, 2, 75, 75000);
        due("74250 / 1000", x.dry(0, 1, 99, 0), 74);
        dueBin(x, 1, 2, 149, 149250);
        GrainHouse y = pair(9, 333);
        due("2001 of 6003 and then 2001 / 999", y.dry(0, 1, 3, 1), 2);
    }

    @Says(at = "I", words = "the rest of the n kg is WATER.")
    private static void theRestIsWater() {
        GrainHouse x = pair(200, 250);
        due("at first", x.about(4), 0);
        x.dry(0, 1, 100, 0);
        due("100 less 75", x.about(4), 25);
        x.dry(0, 1, 99, 0);
        due("99 less 74 more", x.about(4), 50);
        x.dry(0, 1, 1, 0);
        due("a refused one", x.about(4), 50);
    }

    @Says(at = "I", words = "SHIPPED: n kg are taken and leave.")
    private static void whatIsShippedLeaves() {
        GrainHouse x = pair(10, 100);
        x.ship(0, 10);
        dueBin(x, 0, -1, 0, 0);
        due("dry in all bins", x.about(7), 0);
        due("no way is used", x.about(3), 0);
    }

    // ---- Promise 1

    @Says(at = "1", words = "Empty BINS,")
    private static void newBinsAreEmpty() {
        GrainHouse x = new GrainHouse();
        for (int bin = 0; bin < 8; bin++) {
            dueBin(x, bin, -1, 0, 0);
            due("nothing to ship", x.ship(bin, 1), -1);
        }
    }

    @Says(at = "1", words = "no LEGS,")
    private static void newHouseHasNoLegs() {
        GrainHouse x = new GrainHouse();
        due("legs", x.about(1), 0);
        due("way", x.way(0, 0, 1), -1);
        due("wayLeg", x.wayLeg(0, 0, 1, 0), -1);
    }

    @Says(at = "1", words = "TRUCKS,")
    private static void newHouseHasNoTrucks() {
        GrainHouse x = new GrainHouse();
        due("trucks", x.about(2), 0);
        due("served", x.served(0, 0), -1);
        due("rush", x.rush(), 0);
        due("gone", x.gone(), 0);
    }

    @Says(at = "1", words = "LOADS;")
    private static void newHouseHasNoLoads() {
        GrainHouse x = new GrainHouse();
        due("loads", x.about(0), 0);
        due("worth", x.worth(0), -1);
        for (int farmer = 0; farmer < 10; farmer++) {
            due("loads of farmer " + farmer, x.account(farmer, 2), 0);
            due("dry of farmer " + farmer, x.account(farmer, 0), 0);
        }
    }

    @Says(at = "1", words = "THE LIST without CLAUSES.")
    private static void newListIsWithoutClauses() {
        GrainHouse x = new GrainHouse();
        for (int kind = 0; kind < 4; kind++) {
            x.load(kind, kind, 40000, 400, kind);
            due("worth of kind " + kind, x.worth(kind), 0);
            due("account of farmer " + kind, x.account(kind, 1), 0);
        }
        due("the tape is empty", x.about(9), 0);
    }

    // ---- Promise 2

    @Says(at = "2", words = "What a BIN HOLDS: true.")
    private static void holdsIsTrue() {
        GrainHouse x = new GrainHouse();
        due("holds(0, 1)", x.holds(0, 1), true);
        due("holds(7, 500000)", x.holds(7, 500000), true);
        due("bin 0", x.binOf(0, 3), 1);
        due("bin 7", x.binOf(7, 3), 500000);
        due("another", x.binOf(1, 3), 100000);
    }

    @Says(at = "2", words = "False for others,")
    private static void holdsOfOthersIsFalse() {
        GrainHouse x = new GrainHouse();
        due("bin -1", x.holds(-1, 5), false);
        due("bin 8", x.holds(8, 5), false);
        due("bin MIN", x.holds(MIN, 5), false);
        due("bin MAX", x.holds(MAX, 5), false);
        due("0 kg", x.holds(0, 0), false);
        due("500001 kg", x.holds(0, 500001), false);
        due("MIN kg", x.holds(0, MIN), false);
        due("MAX kg", x.holds(0, MAX), false);
        due("bin 0 as it was", x.binOf(0, 3), 100000);
    }

    @Says(at = "2", words = "or if it has more.")
    private static void holdsNoLessThanItHas() {
        GrainHouse x = pair(50, 0);
        due("49 of 50", x.holds(0, 49), false);
        due("1 of 50", x.holds(0, 1), false);
        due("as it was", x.binOf(0, 3), 100000);
        due("just as much", x.holds(0, 50), true);
        due("then", x.binOf(0, 3), 50);
        x.ship(0, 50);
        due("1 of none", x.holds(0, 1), true);
    }

    // ---- Promise 3

    @Says(at = "3", words = "A LOAD: its number.")
    private static void loadsAreNumbered() {
        GrainHouse x = new GrainHouse();
        due("the first", x.load(0, 0, 1, 0, 0), 0);
        due("a refused one", x.load(0, 1, 1, 0, 0), -1);
        due("the second", x.load(5, 1, 1, 0, 1), 1);
    }

    @Says(at = "3", words = "NONE for others,")
    private static void loadOfOthers() {
        GrainHouse x = new GrainHouse();
        due("farmer -1", x.load(-1, 0, 1, 0, 0), -1);
        due("farmer 10", x.load(10, 0, 1, 0, 0), -1);
        due("kind -1", x.load(0, -1, 1, 0, 0), -1);
        due("kind 4", x.load(0, 4, 1, 0, 0), -1);
        due("kg 0", x.load(0, 0, 0, 0, 0), -1);
        due("kg 40001", x.load(0, 0, 40001, 0, 0), -1);
        due("moist -1", x.load(0, 0, 1, -1, 0), -1);
        due("moist 401", x.load(0, 0, 1, 401, 0), -1);
        due("bin -1", x.load(0, 0, 1, 0, -1), -1);
        due("bin 8", x.load(0, 0, 1, 0, 8), -1);
        due("loads", x.about(0), 0);
        due("dry in all bins", x.about(7), 0);
    }

    @Says(at = "3", words = "or if it can't be PUT.")
    private static void loadThatCannotBePut() {
        GrainHouse x = new GrainHouse();
        x.holds(0, 10);
        x.load(0, 2, 9, 0, 0);
        due("another kind", x.load(0, 1, 1, 0, 0), -1);
        due("too much", x.load(0, 2, 2, 0, 0), -1);
        dueBin(x, 0, 2, 9, 9000);
        due("loads", x.about(0), 1);
        due("loads of the farmer", x.account(0, 2), 1);
        due("it fills", x.load(0, 2, 1, 0, 0), 1);
    }

    // ---- Promise 4

    @Says(at = "4", words = "A LEG: its number.")
    private static void legsAreNumbered() {
        GrainHouse x = new GrainHouse();
        due("the first", x.leg(0, 1, 60), 0);
        due("a refused one", x.leg(0, 1, 61), -1);
        due("the same again", x.leg(0, 1, 60), 1);
        due("the same from its other end", x.leg(1, 0, 60), 2);
    }

    @Says(at = "4", words = "NONE for others,")
    private static void legOfOthers() {
        GrainHouse x = new GrainHouse();
        due("from -1", x.leg(-1, 0, 1), -1);
        due("from 12", x.leg(12, 0, 1), -1);
        due("to -1", x.leg(0, -1, 1), -1);
        due("to 12", x.leg(0, 12, 1), -1);
        due("0 minutes", x.leg(0, 1, 0), -1);
        due("61 minutes", x.leg(0, 1, 61), -1);
        due("legs", x.about(1), 0);
    }

    @Says(at = "4", words = "one and the same NODE,")
    private static void legOfOneNode() {
        GrainHouse x = new GrainHouse();
        for (int node = 0; node < 12; node++) {
            due("node " + node, x.leg(node, node, 1), -1);
        }
        due("legs", x.about(1), 0);
    }

    @Says(at = "4", words = "or if there are 20.")
    private static void legBehindTheLast() {
        GrainHouse x = new GrainHouse();
        for (int i = 0; i < 20; i++) {
            due("leg " + i, x.leg(i % 12, (i + 1) % 12, 1), i);
        }
        due("one more", x.leg(0, 1, 1), -1);
        due("legs", x.about(1), 20);
    }

    // ---- Promise 5

    @Says(at = "5", words = "CLEANING: true.")
    private static void cleaningIsTrue() {
        GrainHouse x = new GrainHouse();
        due("0", x.cleaning(0), true);
        due("it is 0", x.about(10), 0);
        due("99", x.cleaning(99), true);
        due("it is 99", x.about(10), 99);
    }

    @Says(at = "5", words = "False for others.")
    private static void cleaningOfOthers() {
        GrainHouse x = new GrainHouse();
        due("-1", x.cleaning(-1), false);
        due("100", x.cleaning(100), false);
        due("MIN", x.cleaning(MIN), false);
        due("MAX", x.cleaning(MAX), false);
        due("as it was", x.about(10), 10);
    }

    // ---- Promise 6

    @Says(at = "6", words = "What THE WAY of a KIND from a BIN to another one costs.")
    private static void wayCosts() {
        GrainHouse x = pair(10, 0);
        x.leg(0, 1, 15);
        x.move(0, 1, 10);
        due("kind 2", x.way(2, 0, 1), 6);
        due("kind 3 goes by the other leg", x.way(3, 0, 1), 15);
        due("back", x.way(3, 1, 0), 15);
    }

    @Says(at = "6", words = "NONE: there is none,")
    private static void wayThatIsNot() {
        GrainHouse x = new GrainHouse();
        x.leg(0, 8, 1);
        x.leg(9, 1, 1);
        due("two ends that don't meet", x.way(0, 0, 1), -1);
        due("a bin without a leg", x.way(0, 0, 7), -1);
        x.leg(0, 7, 1);
        for (int bin = 0; bin < 8; bin += 7) {
            due("another way was asked for before", x.way(0, 7 - bin, bin), 1);
            due("and there is none to bin 1", x.way(0, 7 - bin, 1), -1);
            due("nor to bin 2", x.wayLeg(0, 7 - bin, 2, 0), -1);
        }
    }

    @Says(at = "6", words = "others,")
    private static void wayOfOthers() {
        GrainHouse x = longest();
        due("kind -1", x.way(-1, 0, 1), -1);
        due("kind 4", x.way(4, 0, 1), -1);
        due("from -1", x.way(0, -1, 1), -1);
        due("to -1", x.way(0, 0, -1), -1);
        due("from junction 8", x.way(0, 8, 1), -1);
        due("to junction 8", x.way(0, 0, 8), -1);
        due("from 12", x.way(0, 12, 1), -1);
        due("to 12", x.way(0, 0, 12), -1);
        due("MIN", x.way(MIN, MIN, MIN), -1);
        due("MAX", x.way(MAX, MAX, MAX), -1);
        due("from MAX", x.way(0, MAX, 1), -1);
        due("to MIN", x.way(0, 0, MIN), -1);
    }

    @Says(at = "6", words = "the same BIN.")
    private static void wayToTheSameBin() {
        GrainHouse x = longest();
        due("0 to 0", x.way(0, 0, 0), -1);
        due("1 to 1", x.way(0, 1, 1), -1);
        due("7 to 7", x.way(0, 7, 7), -1);
    }

    // ---- Promise 7

    @Says(at = "7", words = "The i-th LEG of THE WAY.")
    private static void wayLegs() {
        GrainHouse x = longest();
        for (int i = 0; i < 5; i++) {
            due("leg " + i, x.wayLeg(0, 0, 1, i), i);
            due("leg " + i + " back", x.wayLeg(0, 1, 0, i), 4 - i);
        }
    }

    @Says(at = "7", words = "NONE if there is none such.")
    private static void wayLegThatIsNot() {
        GrainHouse x = longest();
        due("-1", x.wayLeg(0, 0, 1, -1), -1);
        due("5", x.wayLeg(0, 0, 1, 5), -1);
        due("MIN", x.wayLeg(0, 0, 1, MIN), -1);
        due("MAX", x.wayLeg(0, 0, 1, MAX), -1);
        due("of no way", x.wayLeg(0, 0, 2, 0), -1);
        due("of a bin to itself", x.wayLeg(0, 0, 0, 0), -1);
        due("of kind 4", x.wayLeg(4, 0, 1, 0), -1);
        due("of kind -1", x.wayLeg(-1, 0, 1, 0), -1);
        due("from a junction", x.wayLeg(0, 8, 1, 0), -1);
        due("to a junction", x.wayLeg(0, 0, 8, 0), -1);
        x.leg(2, 3, 1);
        due("the second of one", x.wayLeg(0, 2, 3, 1), -1);
    }

    // ---- Promise 8

    @Says(at = "8", words = "MOVED: what it cost.")
    private static void moveTellsTheCost() {
        GrainHouse x = pair(10, 0);
        due("without cleaning", x.move(0, 1, 10), 6);
        x.load(0, 3, 10, 0, 0);
        x.ship(1, 10);
        due("with cleaning", x.move(0, 1, 10), 16);
        due("and clean for the kind", x.move(1, 0, 10), 6);
    }

    @Says(at = "8", words = "NONE for others,")
    private static void moveOfOthers() {
        GrainHouse x = pair(10, 0);
        due("from -1", x.move(-1, 1, 1), -1);
        due("from 8", x.move(8, 1, 1), -1);
        due("from MAX", x.move(MAX, 1, 1), -1);
        due("to -1", x.move(0, -1, 1), -1);
        due("to 8", x.move(0, 8, 1), -1);
        due("to MIN", x.move(0, MIN, 1), -1);
        due("to itself", x.move(0, 0, 1), -1);
        due("0 kg", x.move(0, 1, 0), -1);
        due("-1 kg", x.move(0, 1, -1), -1);
        due("MIN kg", x.move(0, 1, MIN), -1);
        due("11 of 10 kg", x.move(0, 1, 11), -1);
        due("MAX kg", x.move(0, 1, MAX), -1);
        due("from an empty one", x.move(1, 0, 1), -1);
        due("0 kg from an empty one", x.move(1, 0, 0), -1);
    }

    @Says(at = "8", words = "no WAY,")
    private static void moveWithoutAWay() {
        GrainHouse x = pair(10, 0);
        x.leg(1, 2, 1);
        due("a bin between", x.move(0, 2, 1), -1);
        due("no leg", x.move(0, 7, 1), -1);
        dueBin(x, 0, 2, 10, 10000);
        dueBin(x, 7, -1, 0, 0);
    }

    @Says(at = "8", words = "or if it can't be PUT:")
    private static void moveThatCannotBePut() {
        GrainHouse x = pair(10, 0);
        x.load(0, 3, 1, 0, 1);
        due("another kind", x.move(0, 1, 1), -1);
        x.ship(1, 1);
        x.holds(1, 4);
        due("too much", x.move(0, 1, 5), -1);
        due("just as much", x.move(0, 1, 4), 6);
        due("full", x.move(0, 1, 1), -1);
    }

    @Says(at = "8", words = "nothing is done.")
    private static void refusedMoveDoesNothing() {
        GrainHouse x = pair(10, 0);
        x.leg(0, 2, 3);
        x.load(0, 3, 1, 0, 1);
        x.holds(2, 4);
        x.move(0, 1, 1);
        x.move(0, 2, 5);
        x.move(0, 2, 11);
        x.move(0, 3, 1);
        dueBin(x, 0, 2, 10, 10000);
        dueBin(x, 1, 3, 1, 1000);
        dueBin(x, 2, -1, 0, 0);
        due("minutes used", x.about(3), 0);
        due("no leg to be cleaned", x.way(1, 0, 1), 6);
        due("nor the other", x.way(1, 0, 2), 3);
    }

    // ---- Promise 9

    @Says(at = "9", words = "DRIED: how many kg came.")
    private static void dryTellsKg() {
        GrainHouse x = pair(40000, 400);
        due("1 kg at least", x.dry(0, 1, 2, 0), 1);
        due("the most", x.dry(0, 1, 39998, 300), 34284);
        due("they are there", x.binOf(1, 1), 34285);
        due("all DRY with them", x.dryIn(1), 24000000);
    }

    @Says(at = "9", words = "NONE likewise,")
    private static void dryIsRefusedLikeAMove() {
        GrainHouse x = pair(100, 200);
        x.leg(1, 2, 1);
        due("from -1", x.dry(-1, 1, 10, 0), -1);
        due("from 8", x.dry(8, 1, 10, 0), -1);
        due("from MIN", x.dry(MIN, 1, 10, 0), -1);
        due("to -1", x.dry(0, -1, 10, 0), -1);
        due("to 8", x.dry(0, 8, 10, 0), -1);
        due("to MAX", x.dry(0, MAX, 10, 0), -1);
        due("to itself", x.dry(0, 0, 10, 0), -1);
        due("0 kg", x.dry(0, 1, 0, 0), -1);
        due("-10 kg", x.dry(0, 1, -10, 0), -1);
        due("101 of 100 kg", x.dry(0, 1, 101, 0), -1);
        due("MAX kg", x.dry(0, 1, MAX, 0), -1);
        due("from an empty one", x.dry(1, 0, 1, 0), -1);
        due("moist -1", x.dry(0, 1, 10, -1), -1);
        due("moist 301", x.dry(0, 1, 10, 301), -1);
        due("its own moist", x.dry(0, 1, 10, 200), -1);
        due("no way", x.dry(0, 2, 10, 0), -1);
        x.load(0, 3, 1, 0, 1);
        due("another kind", x.dry(0, 1, 10, 0), -1);
        x.ship(1, 1);
        x.holds(1, 7);
        due("no room", x.dry(0, 1, 10, 0), -1);
        dueBin(x, 0, 2, 100, 80000);
        dueBin(x, 1, -1, 0, 0);
        due("minutes used", x.about(3), 0);
        due("water", x.about(4), 0);
        due("no leg to be cleaned", x.way(1, 0, 1), 6);
        x.holds(1, 8);
        due("room for those that come", x.dry(0, 1, 10, 0), 8);
    }

    @Says(at = "9", words = "or no kg would come.")
    private static void dryThatBringsNoKg() {
        GrainHouse x = pair(100, 1);
        due("999 grams", x.dry(0, 1, 1, 0), -1);
        dueBin(x, 0, 2, 100, 99900);
        due("minutes used", x.about(3), 0);
        due("no leg to be cleaned", x.way(1, 0, 1), 6);
        due("1998 grams", x.dry(0, 1, 2, 0), 1);
    }

    // ---- Promise 10

    @Says(at = "10", words = "SHIPPED: its DRY.")
    private static void shipTellsDry() {
        GrainHouse x = pair(3, 400);
        due("1 kg", x.ship(0, 1), 600);
        due("the rest", x.ship(0, 2), 1200);
    }

    @Says(at = "10", words = "NONE for others.")
    private static void shipOfOthers() {
        GrainHouse x = pair(3, 400);
        due("bin -1", x.ship(-1, 1), -1);
        due("bin 8", x.ship(8, 1), -1);
        due("bin MIN", x.ship(MIN, 1), -1);
        due("bin MAX", x.ship(MAX, 1), -1);
        due("an empty bin", x.ship(1, 1), -1);
        due("0 kg", x.ship(0, 0), -1);
        due("-1 kg", x.ship(0, -1), -1);
        due("4 of 3 kg", x.ship(0, 4), -1);
        due("MIN kg", x.ship(0, MIN), -1);
        due("MAX kg", x.ship(0, MAX), -1);
        dueBin(x, 0, 2, 3, 1800);
        due("kg shipped", x.about(5), 0);
        due("dry shipped", x.about(6), 0);
    }

    // ---- Promises 11 and 12

    @Says(at = "11", words = "Of a BIN: 0 its KIND (NONE: empty),")
    private static void kindOfABin() {
        GrainHouse x = new GrainHouse();
        due("empty", x.binOf(0, 0), -1);
        x.load(0, 0, 2, 0, 0);
        due("kind 0", x.binOf(0, 0), 0);
        x.ship(0, 1);
        due("of the last kg", x.binOf(0, 0), 0);
        x.ship(0, 1);
        due("emptied", x.binOf(0, 0), -1);
        x.load(0, 3, 2, 0, 7);
        due("kind 3", x.binOf(7, 0), 3);
    }

    @Says(at = "11", words = "1 kg,")
    private static void kgOfABin() {
        GrainHouse x = new GrainHouse();
        due("empty", x.binOf(0, 1), 0);
        x.load(0, 0, 40000, 0, 0);
        due("loaded", x.binOf(0, 1), 40000);
        x.ship(0, 40000);
        due("emptied", x.binOf(0, 1), 0);
    }

    @Says(at = "11", words = "2 MOIST (NONE),")
    private static void moistOfABin() {
        GrainHouse x = new GrainHouse();
        due("empty", x.binOf(0, 2), -1);
        x.load(0, 0, 1, 400, 0);
        due("400", x.binOf(0, 2), 400);
        x.ship(0, 1);
        due("emptied", x.binOf(0, 2), -1);
        x.load(0, 0, 1, 0, 0);
        due("0", x.binOf(0, 2), 0);
    }

    @Says(at = "11", words = "3 what it HOLDS.")
    private static void whatABinHolds() {
        GrainHouse x = pair(10, 0);
        due("at first", x.binOf(0, 3), 100000);
        x.holds(0, 10);
        due("then, though full", x.binOf(0, 3), 10);
    }

    @Says(at = "11", words = "NONE for others.")
    private static void binOfOthers() {
        GrainHouse x = pair(10, 0);
        for (int what = 0; what < 4; what++) {
            due("bin -1, " + what, x.binOf(-1, what), -1);
            due("bin 8, " + what, x.binOf(8, what), -1);
            due("bin MIN, " + what, x.binOf(MIN, what), -1);
            due("bin MAX, " + what, x.binOf(MAX, what), -1);
        }
        due("what -1", x.binOf(0, -1), -1);
        due("what 4", x.binOf(0, 4), -1);
        due("what MIN", x.binOf(0, MIN), -1);
        due("what MAX", x.binOf(0, MAX), -1);
    }

    @Says(at = "12", words = "DRY in a BIN.")
    private static void dryInABin() {
        GrainHouse x = pair(10, 400);
        due("bin 0", x.dryIn(0), 6000);
        due("an empty one", x.dryIn(1), 0);
        due("the last", x.dryIn(7), 0);
        x.ship(0, 10);
        due("emptied", x.dryIn(0), 0);
    }

    @Says(at = "12", words = "NONE for others.")
    private static void dryInOthers() {
        GrainHouse x = pair(10, 400);
        due("bin -1", x.dryIn(-1), -1);
        due("bin 8", x.dryIn(8), -1);
        due("bin MIN", x.dryIn(MIN), -1);
        due("bin MAX", x.dryIn(MAX), -1);
    }

    // ---- Promise 30

    @Says(at = "30", words = "0 LOADS, 1 LEGS, 2 TRUCKS,")
    private static void aboutCounts() {
        GrainHouse x = new GrainHouse();
        for (int i = 0; i < 101; i++) {
            x.load(0, 0, 1, 0, 0);
            x.leg(0, 1, 1);
            x.truck(0, 0, 1);
        }
        due("loads", x.about(0), 100);
        due("legs", x.about(1), 20);
        due("trucks", x.about(2), 7);
        x.ship(0, 100);
        x.gone();
        due("loads that were shipped", x.about(0), 100);
        due("trucks that are gone", x.about(2), 0);
    }

    @Says(at = "30", words = "3 MINUTES USED,")
    private static void aboutMinutes() {
        GrainHouse x = longest();
        x.load(0, 0, 1, 0, 0);
        for (int i = 1; i <= 100; i++) {
            x.move(i % 2 == 1 ? 0 : 1, i % 2 == 1 ? 1 : 0, 1);
        }
        due("100 times the longest way", x.about(3), 30000);
    }

    @Says(at = "30", words = "4 kg of WATER,")
    private static void aboutWater() {
        GrainHouse x = pair(40000, 400);
        due("at first", x.about(4), 0);
        x.dry(0, 1, 40000, 0);
        due("16000 of 40000", x.about(4), 16000);
        x.ship(1, 24000);
        due("it stays", x.about(4), 16000);
    }

    @Says(at = "30", words = "5 kg SHIPPED,")
    private static void aboutKgShipped() {
        GrainHouse x = pair(10, 400);
        due("at first", x.about(5), 0);
        x.ship(0, 1);
        x.ship(0, 10);
        x.ship(0, 9);
        due("all", x.about(5), 10);
    }

    @Says(at = "30", words = "6 DRY SHIPPED, 7 DRY in all BINS, 8 DRY of all LOADS,")
    private static void aboutDryBeyondAnInt() {
        GrainHouse x = new GrainHouse();
        for (int bin = 0; bin < 8; bin++) {
            x.holds(bin, 500000);
            for (int i = 0; i < 12; i++) {
                x.load(0, 0, 40000, 0, bin);
            }
        }
        for (int bin = 4; bin < 8; bin++) {
            x.load(0, 0, 20000, 0, bin);
        }
        due("shipped", x.about(6), 0);
        due("in all bins", x.about(7), 3920000000L);
        due("of all 100 loads", x.about(8), 3920000000L);
        for (int bin = 0; bin < 8; bin++) {
            x.ship(bin, bin < 4 ? 480000 : 500000);
        }
        due("shipped then", x.about(6), 3920000000L);
        due("in all bins then", x.about(7), 0);
        due("of all loads then", x.about(8), 3920000000L);
    }

    @Says(at = "30", words = "9 bytes of the tape,")
    private static void aboutTape() {
        GrainHouse x = new GrainHouse();
        due("at first", x.about(9), 0);
        for (int i = 0; i < 11; i++) {
            x.feed(0, 0, 0, 0, 0);
        }
        due("full", x.about(9), 200);
        x.end(1);
        due("its first", x.about(9), 1);
        x.list();
        due("empty then", x.about(9), 0);
    }

    @Says(at = "30", words = "10 CLEANING, 11 UNLOAD, 12 CHANGE, 13 POWER.")
    private static void aboutWhatWasSet() {
        GrainHouse x = new GrainHouse();
        int[] first = {10, 10, 5, 2};
        int[] then = {99, 60, 59, 8};
        for (int i = 0; i < 4; i++) {
            due("at first, " + (10 + i), x.about(10 + i), first[i]);
        }
        x.cleaning(99);
        x.pit(60, 59);
        x.needs(-1, 8, 0);
        for (int i = 0; i < 4; i++) {
            due("then, " + (10 + i), x.about(10 + i), then[i]);
        }
    }

    @Says(at = "30", words = "NONE for others.")
    private static void aboutOthers() {
        GrainHouse x = new GrainHouse();
        due("-1", x.about(-1), -1);
        due("14", x.about(14), -1);
        due("MIN", x.about(MIN), -1);
        due("MAX", x.about(MAX), -1);
        due("256", x.about(256), -1);
    }
}

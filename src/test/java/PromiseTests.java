/** Each promise of the document by itself: what is ordinary, the edges that it names, and wrong inputs. */
public final class PromiseTests {
    private static int wrong = 0;
    private static int promise = 0;

    public static void main(String[] args) {
        promise1NewObject();
        promise2Holds();
        promise3Load();
        promise3LoadLimit();
        promise4Leg();
        promise5Cleaning();
        promise6Way();
        promise6WayByJunctionsAlone();
        promise7WayLeg();
        promise8Move();
        promise8MoveByKinds();
        promise9Dry();
        promise10Ship();
        promise11BinOf();
        promise12DryIn();
        promise13Truck();
        promise14Pit();
        promise15Rush();
        promise16Served();
        promise17Gone();
        promise18Hour();
        promise19Needs();
        promise20Fans();
        promise21FansOf();
        promise21FansOfFull();
        promise21FansOfLike();
        promise22Blend();
        promise22BlendOthers();
        promise23Blended();
        promise24Feed();
        promise25End();
        promise26List();
        promise27Fault();
        promise27FaultOfTwo();
        promise28Worth();
        promise29Account();
        promise30About();
        allTogether();
        System.out.println(wrong == 0 ? "all promises are kept" : wrong + " answers are not as due");
        if (wrong != 0) {
            System.exit(1);
        }
    }

    private static void due(String call, long got, long want) {
        if (got != want) {
            wrong++;
            System.out.println("promise " + promise + ": " + call + " answered " + got + ", due is " + want);
        }
    }

    private static void due(String call, boolean got, boolean want) {
        due(call, got ? 1 : 0, want ? 1 : 0);
    }

    private static GrainHouse house(int itsPromise) {
        promise = itsPromise;
        return new GrainHouse();
    }

    private static int four(String text) {
        return TapeWriter.four(text, 0);
    }

    private static void write(GrainHouse x, String text) {
        int due = (int) x.about(9) + text.length();
        due("end() behind " + text, TapeWriter.write(x, text), due);
    }

    private static int list(GrainHouse x, String text) {
        write(x, text);
        return x.list();
    }

    private static void faulty(String text, int fault, int place) {
        GrainHouse x = house(27);
        due("list() of " + text, list(x, text), -1);
        due("fault(0) of " + text, x.fault(0), fault);
        due("fault(1) of " + text, x.fault(1), place);
        due("about(9) behind " + text, x.about(9), 0);
    }

    private static void promise1NewObject() {
        GrainHouse x = house(1);
        due("NONE", GrainHouse.NONE, -1);
        for (int bin = 0; bin < 8; bin++) {
            due("binOf(bin, 0)", x.binOf(bin, 0), -1);
            due("binOf(bin, 1)", x.binOf(bin, 1), 0);
            due("binOf(bin, 2)", x.binOf(bin, 2), -1);
            due("binOf(bin, 3)", x.binOf(bin, 3), 100000);
            due("dryIn(bin)", x.dryIn(bin), 0);
            due("fansOf(bin)", x.fansOf(bin), 0);
            due("blended(bin)", x.blended(bin), -1);
        }
        long[] about = {0, 0, 0, 0, 0, 0, 0, 0, 0, 0, 10, 10, 5, 2};
        for (int what = 0; what < about.length; what++) {
            due("about(" + what + ")", x.about(what), about[what]);
        }
        due("way(0, 0, 1)", x.way(0, 0, 1), -1);
        due("worth(0)", x.worth(0), -1);
        due("rush()", x.rush(), 0);
        due("fans()", x.fans(), 0);
        due("fault(0)", x.fault(0), -1);
        due("load()", x.load(0, 0, 1000, 0, 0), 0);
        due("worth(0) without clauses", x.worth(0), 0);
        due("another house has none of it", new GrainHouse().dryIn(0), 0);
    }

    private static void promise2Holds() {
        GrainHouse x = house(2);
        due("holds(-1, 5)", x.holds(-1, 5), false);
        due("holds(8, 5)", x.holds(8, 5), false);
        due("holds(0, 0)", x.holds(0, 0), false);
        due("holds(0, 500001)", x.holds(0, 500001), false);
        due("holds(MIN, MIN)", x.holds(Integer.MIN_VALUE, Integer.MIN_VALUE), false);
        due("binOf(0, 3) as it was", x.binOf(0, 3), 100000);
        due("holds(0, 1)", x.holds(0, 1), true);
        due("binOf(0, 3)", x.binOf(0, 3), 1);
        due("binOf(1, 3)", x.binOf(1, 3), 100000);
        due("holds(7, 500000)", x.holds(7, 500000), true);
        due("binOf(7, 3)", x.binOf(7, 3), 500000);
        due("load of 2 where 1 goes", x.load(0, 0, 2, 0, 0), -1);
        due("load of 1", x.load(0, 0, 1, 0, 0), 0);
        due("load of 1 more", x.load(0, 0, 1, 0, 0), -1);
        due("holds(0, 9)", x.holds(0, 9), true);
        due("load of 8 more", x.load(0, 0, 8, 0, 0), 1);
        due("holds(0, 8)", x.holds(0, 8), false);
        due("binOf(0, 3) stays", x.binOf(0, 3), 9);
        due("holds(0, 9)", x.holds(0, 9), true);
    }

    private static void promise3Load() {
        GrainHouse x = house(3);
        due("farmer -1", x.load(-1, 0, 1, 0, 0), -1);
        due("farmer 10", x.load(10, 0, 1, 0, 0), -1);
        due("kind -1", x.load(0, -1, 1, 0, 0), -1);
        due("kind 4", x.load(0, 4, 1, 0, 0), -1);
        due("kg 0", x.load(0, 0, 0, 0, 0), -1);
        due("kg 40001", x.load(0, 0, 40001, 0, 0), -1);
        due("moist -1", x.load(0, 0, 1, -1, 0), -1);
        due("moist 401", x.load(0, 0, 1, 401, 0), -1);
        due("bin -1", x.load(0, 0, 1, 0, -1), -1);
        due("bin 8", x.load(0, 0, 1, 0, 8), -1);
        due("none came", x.about(0), 0);
        due("bin 0 is empty", x.binOf(0, 1), 0);
        due("the greatest", x.load(9, 3, 40000, 400, 7), 0);
        due("dryIn(7)", x.dryIn(7), 24000000);
        due("the least", x.load(0, 0, 1, 0, 0), 1);
        due("dryIn(0)", x.dryIn(0), 1000);
        due("another kind", x.load(0, 1, 1, 0, 0), -1);
        due("the same kind", x.load(0, 0, 2, 250, 0), 2);
        due("dryIn(0)", x.dryIn(0), 2500);
        due("binOf(0, 1)", x.binOf(0, 1), 3);
        due("40000 more", x.load(1, 3, 40000, 0, 7), 3);
        due("no room for 20001", x.load(1, 3, 20001, 0, 7), -1);
        due("room for 20000", x.load(1, 3, 20000, 0, 7), 4);
        due("ship all", x.ship(7, 100000), 84000000);
        due("an empty bin takes another kind", x.load(1, 2, 5, 0, 7), 5);
        due("binOf(7, 0)", x.binOf(7, 0), 2);
    }

    private static void promise3LoadLimit() {
        GrainHouse x = house(3);
        for (int i = 0; i < 100; i++) {
            due("load " + i, x.load(i % 10, 0, 1, 0, 0), i);
        }
        due("the 101st", x.load(0, 0, 1, 0, 0), -1);
        due("binOf(0, 1)", x.binOf(0, 1), 100);
        due("about(0)", x.about(0), 100);
        due("account(9, 2)", x.account(9, 2), 10);
        due("account(9, 0)", x.account(9, 0), 10000);
        due("account(0, 1)", x.account(0, 1), 0);
        due("about(8)", x.about(8), 100000);
    }

    private static void promise4Leg() {
        GrainHouse x = house(4);
        due("leg(-1, 0, 1)", x.leg(-1, 0, 1), -1);
        due("leg(0, 12, 1)", x.leg(0, 12, 1), -1);
        due("leg(12, 0, 1)", x.leg(12, 0, 1), -1);
        due("leg(0, -1, 1)", x.leg(0, -1, 1), -1);
        due("leg(3, 3, 1)", x.leg(3, 3, 1), -1);
        due("leg(0, 1, 0)", x.leg(0, 1, 0), -1);
        due("leg(0, 1, 61)", x.leg(0, 1, 61), -1);
        due("about(1)", x.about(1), 0);
        due("leg(0, 1, 60)", x.leg(0, 1, 60), 0);
        due("leg(11, 10, 1)", x.leg(11, 10, 1), 1);
        due("the same two again", x.leg(1, 0, 1), 2);
        for (int i = 3; i < 20; i++) {
            due("leg " + i, x.leg(2, 8, 5), i);
        }
        due("the 21st", x.leg(2, 9, 5), -1);
        due("about(1)", x.about(1), 20);
        due("way(0, 0, 1)", x.way(0, 0, 1), 1);
        due("way(0, 1, 0)", x.way(0, 1, 0), 1);
    }

    private static void promise5Cleaning() {
        GrainHouse x = house(5);
        due("cleaning(-1)", x.cleaning(-1), false);
        due("cleaning(100)", x.cleaning(100), false);
        due("about(10)", x.about(10), 10);
        x.leg(0, 1, 4);
        x.load(0, 2, 100, 0, 0);
        due("way of another kind on a new leg", x.way(1, 0, 1), 4);
        due("move(0, 1, 50)", x.move(0, 1, 50), 4);
        due("way of the kind", x.way(2, 0, 1), 4);
        due("way of another kind", x.way(1, 0, 1), 14);
        due("cleaning(99)", x.cleaning(99), true);
        due("about(10)", x.about(10), 99);
        due("way of another kind", x.way(1, 1, 0), 103);
        due("cleaning(0)", x.cleaning(0), true);
        due("way of another kind", x.way(1, 0, 1), 4);
    }

    private static void promise6Way() {
        GrainHouse x = house(6);
        x.leg(0, 8, 3);
        x.leg(8, 9, 3);
        x.leg(9, 1, 3);
        due("way(0, 0, 1)", x.way(0, 0, 1), 9);
        due("way(0, 1, 0)", x.way(0, 1, 0), 9);
        due("way(-1, 0, 1)", x.way(-1, 0, 1), -1);
        due("way(4, 0, 1)", x.way(4, 0, 1), -1);
        due("way(0, -1, 1)", x.way(0, -1, 1), -1);
        due("way(0, 0, 8)", x.way(0, 0, 8), -1);
        due("way(0, 8, 1)", x.way(0, 8, 1), -1);
        due("way(0, 0, 0)", x.way(0, 0, 0), -1);
        due("way(0, 0, 2)", x.way(0, 0, 2), -1);
        x.leg(0, 1, 10);
        due("the longer way is cheaper", x.way(0, 0, 1), 9);
        x.load(0, 3, 10, 0, 0);
        due("move(0, 1, 1)", x.move(0, 1, 1), 9);
        due("another kind goes straight", x.way(0, 0, 1), 10);
        due("the kind goes as it went", x.way(3, 0, 1), 9);
        due("nothing is done by asking", x.about(3), 9);
    }

    private static void promise6WayByJunctionsAlone() {
        GrainHouse x = house(6);
        x.leg(0, 1, 1);
        x.leg(1, 2, 1);
        due("not by way of a bin", x.way(0, 0, 2), -1);
        x.leg(0, 8, 9);
        x.leg(8, 9, 9);
        x.leg(9, 10, 9);
        x.leg(10, 11, 9);
        due("not yet", x.way(0, 0, 2), -1);
        x.leg(11, 2, 9);
        due("by all junctions", x.way(0, 0, 2), 45);
        due("its last leg", x.wayLeg(0, 0, 2, 4), 6);
        due("behind it", x.wayLeg(0, 0, 2, 5), -1);
        due("back", x.wayLeg(0, 2, 0, 0), 6);
    }

    private static void promise7WayLeg() {
        GrainHouse x = house(7);
        x.leg(8, 1, 5);
        x.leg(0, 8, 5);
        x.leg(0, 9, 5);
        x.leg(9, 1, 5);
        due("the first by numbers from a", x.wayLeg(0, 0, 1, 0), 1);
        due("then", x.wayLeg(0, 0, 1, 1), 0);
        due("from the other side", x.wayLeg(0, 1, 0, 0), 0);
        due("then", x.wayLeg(0, 1, 0, 1), 1);
        due("i -1", x.wayLeg(0, 0, 1, -1), -1);
        due("i 2", x.wayLeg(0, 0, 1, 2), -1);
        due("i MAX", x.wayLeg(0, 0, 1, Integer.MAX_VALUE), -1);
        due("no way", x.wayLeg(0, 0, 2, 0), -1);
        due("the same bin", x.wayLeg(0, 0, 0, 0), -1);
        due("kind 4", x.wayLeg(4, 0, 1, 0), -1);
        due("a junction", x.wayLeg(0, 0, 8, 0), -1);
        x.leg(0, 1, 10);
        due("fewer legs of like cost", x.wayLeg(0, 0, 1, 0), 4);
        due("and no second", x.wayLeg(0, 0, 1, 1), -1);
        x.leg(1, 0, 10);
        due("the lower of two like legs", x.wayLeg(0, 0, 1, 0), 4);
        x.leg(0, 1, 9);
        due("the cheaper", x.wayLeg(0, 0, 1, 0), 6);
    }

    private static void promise8Move() {
        GrainHouse x = house(8);
        x.leg(0, 1, 7);
        x.leg(0, 2, 7);
        x.load(0, 0, 7, 333, 0);
        x.load(0, 1, 10, 0, 2);
        due("bin -1", x.move(-1, 1, 1), -1);
        due("bin 8", x.move(0, 8, 1), -1);
        due("the same bin", x.move(0, 0, 1), -1);
        due("kg 0", x.move(0, 1, 0), -1);
        due("kg -1", x.move(0, 1, -1), -1);
        due("more than there is", x.move(0, 1, 8), -1);
        due("an empty bin", x.move(1, 0, 1), -1);
        due("no way", x.move(0, 3, 1), -1);
        due("another kind there", x.move(0, 2, 1), -1);
        due("dryIn(0) as it was", x.dryIn(0), 4669);
        due("about(3)", x.about(3), 0);
        due("no leg was gone by", x.way(1, 0, 2), 7);
        due("move(0, 1, 3)", x.move(0, 1, 3), 7);
        due("4669 * 3 / 7, cut", x.dryIn(1), 2001);
        due("what stays", x.dryIn(0), 2668);
        due("binOf(0, 1)", x.binOf(0, 1), 4);
        due("about(3)", x.about(3), 7);
        due("move(0, 1, 4)", x.move(0, 1, 4), 7);
        due("all of it", x.dryIn(1), 4669);
        due("dryIn(0)", x.dryIn(0), 0);
        due("binOf(0, 0)", x.binOf(0, 0), -1);
        due("about(3)", x.about(3), 14);
        x.holds(0, 5);
        due("no room for 6", x.move(1, 0, 6), -1);
        due("room for 5", x.move(1, 0, 5), 7);
        due("none for 1 more", x.move(1, 0, 1), -1);
    }

    private static void promise8MoveByKinds() {
        GrainHouse x = house(8);
        x.leg(0, 8, 2);
        x.leg(8, 1, 3);
        x.leg(8, 2, 4);
        x.load(0, 0, 10, 0, 0);
        x.load(0, 1, 10, 0, 3);
        x.leg(3, 8, 5);
        due("the first", x.move(0, 1, 5), 5);
        due("one leg to be cleaned: 4 + 10 less", x.move(3, 2, 5), 9);
        due("both clean for kind 0", x.move(0, 1, 1), 5);
        due("one leg went with 1", x.way(0, 0, 2), 16);
        due("by it", x.move(0, 2, 1), -1);
        due("both to be cleaned", x.way(1, 0, 1), 25);
        x.ship(2, 5);
        due("2 and 4 and 10", x.move(0, 2, 1), 16);
        due("now it is of kind 0", x.way(0, 0, 2), 6);
        due("and not of kind 1", x.way(1, 3, 2), 19);
        due("about(3)", x.about(3), 35);
    }

    private static void promise9Dry() {
        GrainHouse x = house(9);
        x.leg(0, 1, 6);
        x.load(0, 2, 1000, 250, 0);
        due("moist -1", x.dry(0, 1, 10, -1), -1);
        due("moist 301", x.dry(0, 1, 10, 301), -1);
        due("moist 250 is not below", x.dry(0, 1, 10, 250), -1);
        due("kg 0", x.dry(0, 1, 0, 100), -1);
        due("kg 1001", x.dry(0, 1, 1001, 100), -1);
        due("bin 8", x.dry(0, 8, 10, 100), -1);
        due("bin -1", x.dry(-1, 0, 10, 100), -1);
        due("the same bin", x.dry(0, 0, 10, 100), -1);
        due("no way", x.dry(0, 2, 10, 100), -1);
        due("an empty bin", x.dry(1, 0, 1, 0), -1);
        due("no kg would come", x.dry(0, 1, 1, 100), -1);
        due("nothing was done", x.dryIn(0), 750000);
        due("about(3)", x.about(3), 0);
        due("about(4)", x.about(4), 0);
        due("75000 / 900", x.dry(0, 1, 100, 100), 83);
        due("dryIn(1)", x.dryIn(1), 75000);
        due("binOf(1, 1)", x.binOf(1, 1), 83);
        due("1000 - 903", x.binOf(1, 2), 97);
        due("about(4)", x.about(4), 17);
        due("about(3)", x.about(3), 6);
        due("binOf(0, 1)", x.binOf(0, 1), 900);
        due("moist 249", x.dry(0, 1, 100, 249), 99);
        due("the leg went with 2", x.way(1, 0, 1), 16);
        x.holds(1, 191);
        due("9 have room of 10 taken", x.dry(0, 1, 10, 200), 9);
        due("no room", x.dry(0, 1, 10, 200), -1);
        x.holds(2, 1);
        x.leg(0, 2, 1);
        x.load(0, 2, 1, 0, 2);
        due("no room at all", x.dry(0, 2, 10, 200), -1);
        due("about(4)", x.about(4), 19);
        GrainHouse y = house(9);
        y.leg(0, 1, 6);
        y.load(0, 2, 3, 350, 0);
        due("1950 / 1000", y.dry(0, 1, 3, 0), 1);
        due("1950 in a kg is moist 0", y.binOf(1, 2), 0);
        due("dryIn(1)", y.dryIn(1), 1950);
        due("moist 0 is dried no more", y.dry(1, 0, 1, 0), -1);
        y.load(0, 1, 3, 350, 0);
        due("another kind there", y.dry(0, 1, 3, 0), -1);
        y.leg(2, 1, 1);
        y.load(0, 2, 1000, 400, 2);
        due("to 301", y.dry(2, 1, 1000, 301), -1);
        due("to 300", y.dry(2, 1, 1000, 300), 857);
        due("the last hundred", y.about(4), 145);
    }

    private static void promise10Ship() {
        GrainHouse x = house(10);
        x.load(0, 1, 7, 333, 5);
        due("bin -1", x.ship(-1, 1), -1);
        due("bin 8", x.ship(8, 1), -1);
        due("kg 0", x.ship(5, 0), -1);
        due("kg 8", x.ship(5, 8), -1);
        due("an empty bin", x.ship(0, 1), -1);
        due("about(5)", x.about(5), 0);
        due("4669 * 2 / 7", x.ship(5, 2), 1334);
        due("dryIn(5)", x.dryIn(5), 3335);
        due("binOf(5, 1)", x.binOf(5, 1), 5);
        due("all of it", x.ship(5, 5), 3335);
        due("about(5)", x.about(5), 7);
        due("about(6)", x.about(6), 4669);
        due("about(3): no minutes", x.about(3), 0);
        due("about(8): loads stay", x.about(8), 4669);
        x.holds(6, 500000);
        for (int i = 0; i < 12; i++) {
            x.load(0, 0, 40000, 1, 6);
        }
        due("beyond an int", x.ship(6, 479999), 479519001);
        due("the last kg", x.ship(6, 1), 999);
    }

    private static void promise11BinOf() {
        GrainHouse x = house(11);
        x.holds(3, 4000);
        x.load(0, 3, 999, 123, 3);
        due("kind", x.binOf(3, 0), 3);
        due("kg", x.binOf(3, 1), 999);
        due("moist", x.binOf(3, 2), 123);
        due("holds", x.binOf(3, 3), 4000);
        due("what 4", x.binOf(3, 4), -1);
        due("what -1", x.binOf(3, -1), -1);
        due("bin -1", x.binOf(-1, 3), -1);
        due("bin 8", x.binOf(8, 3), -1);
        x.load(0, 3, 1, 124, 3);
        due("the quotient is cut: 1000 - 876", x.binOf(3, 2), 124);
        x.ship(3, 1000);
        due("kind of an empty one", x.binOf(3, 0), -1);
        due("kg of it", x.binOf(3, 1), 0);
        due("moist of it", x.binOf(3, 2), -1);
        due("holds still", x.binOf(3, 3), 4000);
    }

    private static void promise12DryIn() {
        GrainHouse x = house(12);
        due("bin -1", x.dryIn(-1), -1);
        due("bin 8", x.dryIn(8), -1);
        due("empty", x.dryIn(7), 0);
        x.load(0, 0, 40000, 0, 7);
        due("dryIn(7)", x.dryIn(7), 40000000);
        x.load(0, 0, 3, 400, 7);
        due("dryIn(7)", x.dryIn(7), 40001800);
    }

    private static void promise13Truck() {
        GrainHouse x = house(13);
        due("minute -1", x.truck(-1, 0, 1), -1);
        due("minute 1000", x.truck(1000, 0, 1), -1);
        due("kind -1", x.truck(0, -1, 1), -1);
        due("kind 4", x.truck(0, 4, 1), -1);
        due("weight 0", x.truck(0, 0, 0), -1);
        due("weight 10", x.truck(0, 0, 10), -1);
        due("about(2)", x.about(2), 0);
        due("the greatest", x.truck(999, 3, 9), 0);
        due("the least", x.truck(0, 0, 1), 1);
        for (int i = 2; i < 7; i++) {
            due("truck " + i, x.truck(500, 1, 1), i);
        }
        due("the 8th", x.truck(0, 0, 1), -1);
        due("about(2)", x.about(2), 7);
        due("a change ahead of waits of 15, 25, 35, 45", x.rush(), 120);
        due("the last", x.served(6, 0), 0);
        due("empty at", x.served(6, 1), 1014);
    }

    private static void promise14Pit() {
        GrainHouse x = house(14);
        due("unload 0", x.pit(0, 5), false);
        due("unload 61", x.pit(61, 5), false);
        due("change -1", x.pit(20, -1), false);
        due("change 61", x.pit(20, 61), false);
        due("about(11)", x.about(11), 10);
        due("about(12)", x.about(12), 5);
        x.truck(0, 0, 1);
        x.truck(0, 1, 1);
        due("rush()", x.rush(), 10);
        due("served(1, 1)", x.served(1, 1), 25);
        due("pit(60, 60)", x.pit(60, 60), true);
        due("rush()", x.rush(), 60);
        due("served(1, 1)", x.served(1, 1), 180);
        due("pit(1, 0)", x.pit(1, 0), true);
        due("rush()", x.rush(), 1);
        due("served(1, 1)", x.served(1, 1), 2);
        due("about(11)", x.about(11), 1);
        due("about(12)", x.about(12), 0);
    }

    private static void promise15Rush() {
        GrainHouse x = house(15);
        due("no trucks", x.rush(), 0);
        x.truck(100, 0, 1);
        due("one never waits", x.rush(), 0);
        x.truck(101, 0, 9);
        due("it is better to wait for the heavy one? 9 * 9 or 11", x.rush(), 11);
        due("the heavy one first", x.served(0, 0), 1);
        due("it begins at its minute", x.served(0, 1), 111);
        x.truck(99, 1, 1);
        due("0 waits 11, 2 waits 22", x.rush(), 33);
        due("served(2, 0)", x.served(2, 0), 2);
        due("with a change", x.served(2, 1), 136);
        GrainHouse y = house(15);
        y.truck(0, 0, 1);
        y.truck(3, 1, 1);
        due("wait is to the begin of the change", y.rush(), 7);
        due("and it is empty behind it", y.served(1, 1), 25);
        y.truck(500, 0, 1);
        due("a change for one that comes late is no wait", y.rush(), 7);
        due("but takes its time", y.served(2, 1), 515);
    }

    private static void promise16Served() {
        GrainHouse x = house(16);
        due("none", x.served(0, 0), -1);
        x.truck(5, 2, 1);
        x.truck(5, 2, 1);
        x.truck(5, 2, 1);
        for (int i = 0; i < 3; i++) {
            due("of like ones the first by trucks", x.served(i, 0), i);
            due("empty at", x.served(i, 1), 15 + 10 * i);
        }
        due("i -1", x.served(-1, 0), -1);
        due("i 3", x.served(3, 0), -1);
        due("i MAX", x.served(Integer.MAX_VALUE, 1), -1);
        due("what 2", x.served(0, 2), -1);
        due("what -1", x.served(0, -1), -1);
        x.truck(5, 2, 2);
        due("the heavy one is ahead", x.served(0, 0), 3);
        due("then", x.served(1, 0), 0);
        due("the last", x.served(3, 0), 2);
        GrainHouse y = house(16);
        y.truck(0, 0, 1);
        y.truck(0, 1, 1);
        y.truck(0, 0, 1);
        y.truck(0, 1, 1);
        due("10 + 20 + 35", y.rush(), 65);
        int[] order = {0, 2, 1, 3};
        for (int i = 0; i < 4; i++) {
            due("kinds stay together", y.served(i, 0), order[i]);
        }
    }

    private static void promise17Gone() {
        GrainHouse x = house(17);
        due("none", x.gone(), 0);
        x.pit(7, 3);
        x.truck(0, 0, 1);
        x.truck(0, 0, 1);
        due("rush()", x.rush(), 7);
        due("gone()", x.gone(), 2);
        due("rush()", x.rush(), 0);
        due("served(0, 0)", x.served(0, 0), -1);
        due("about(2)", x.about(2), 0);
        due("about(11) stays", x.about(11), 7);
        due("about(12) stays", x.about(12), 3);
        due("gone()", x.gone(), 0);
        due("numbers begin anew", x.truck(9, 1, 1), 0);
        due("truck", x.truck(9, 1, 5), 1);
        due("served(0, 0)", x.served(0, 0), 1);
        due("rush()", x.rush(), 7);
    }

    private static void promise18Hour() {
        GrainHouse x = house(18);
        x.needs(0, 1, 12);
        due("all hours are like", x.fansOf(0), 1);
        due("h -1", x.hour(-1, true, 0), false);
        due("h 12", x.hour(12, true, 0), false);
        due("cost -1", x.hour(5, false, -1), false);
        due("cost 100", x.hour(0, false, 100), false);
        due("nothing was changed", x.fansOf(0), 1);
        due("fans()", x.fans(), 1);
        due("hour(11, true, 0)", x.hour(11, true, 0), true);
        due("the cheapest", x.fansOf(0), 2048);
        due("fans()", x.fans(), 0);
        due("hour(11, false, 0)", x.hour(11, false, 0), true);
        due("wet now", x.fansOf(0), 1);
        for (int h = 0; h < 11; h++) {
            due("hour(h, false, 0)", x.hour(h, false, 0), true);
        }
        due("no dry hour", x.fans(), -1);
        due("hour(11, true, 99)", x.hour(11, true, 99), true);
        due("fans()", x.fans(), 99);
    }

    private static void promise19Needs() {
        GrainHouse x = house(19);
        due("bin -2", x.needs(-2, 1, 1), false);
        due("bin 8", x.needs(8, 1, 1), false);
        due("hours -1", x.needs(0, -1, 1), false);
        due("hours 13", x.needs(0, 13, 12), false);
        due("ahead -1", x.needs(0, 1, -1), false);
        due("ahead 13", x.needs(0, 1, 13), false);
        due("power 0", x.needs(-1, 0, 5), false);
        due("power 9", x.needs(-1, 9, 5), false);
        due("about(13)", x.about(13), 2);
        due("fans()", x.fans(), 0);
        due("needs(0, 12, 12)", x.needs(0, 12, 12), true);
        due("all hours", x.fansOf(0), 4095);
        due("fans()", x.fans(), 12);
        due("needs(7, 3, 3)", x.needs(7, 3, 3), true);
        due("its hours", x.fansOf(7), 7);
        due("power 1", x.needs(-1, 1, -99), true);
        due("about(13)", x.about(13), 1);
        due("too little power", x.fans(), -1);
        due("power 8", x.needs(-1, 8, Integer.MAX_VALUE), true);
        due("fans()", x.fans(), 15);
        due("more hours than there are", x.needs(7, 4, 3), true);
        due("fans()", x.fans(), -1);
        due("needs(7, 0, 0)", x.needs(7, 0, 0), true);
        due("fans()", x.fans(), 12);
        due("1 ahead of hour 0", x.needs(7, 1, 0), true);
        due("fans()", x.fans(), -1);
        due("1 ahead of hour 1", x.needs(7, 1, 1), true);
        due("fansOf(7)", x.fansOf(7), 1);
    }

    private static void promise20Fans() {
        GrainHouse x = house(20);
        x.needs(-1, 1, 0);
        x.hour(0, true, 1);
        x.hour(1, true, 2);
        x.hour(2, true, 50);
        for (int h = 3; h < 12; h++) {
            x.hour(h, false, 0);
        }
        x.needs(0, 1, 12);
        due("the cheapest hour", x.fans(), 1);
        x.needs(1, 1, 1);
        due("bin 0 gives way", x.fans(), 3);
        due("fansOf(0)", x.fansOf(0), 2);
        x.needs(2, 1, 2);
        due("and again", x.fans(), 53);
        due("fansOf(0)", x.fansOf(0), 4);
        due("fansOf(2)", x.fansOf(2), 2);
        x.needs(3, 1, 12);
        due("there is none", x.fans(), -1);
        x.needs(-1, 2, 0);
        due("1 + 1 + 2 + 2", x.fans(), 6);
        due("asking changes nothing", x.fans(), 6);
    }

    private static void promise21FansOf() {
        GrainHouse x = house(21);
        due("bin -1", x.fansOf(-1), -1);
        due("bin 8", x.fansOf(8), -1);
        x.needs(0, 2, 12);
        x.needs(1, 2, 12);
        x.needs(2, 2, 12);
        due("the first hours", x.fansOf(0), 3);
        due("they have power for two", x.fansOf(1), 3);
        due("the next", x.fansOf(2), 12);
        due("without a need", x.fansOf(3), 0);
        x.hour(0, true, 0);
        due("an hour for nothing is no hour more", x.fansOf(0), 3);
        x.needs(2, 1, 1);
        due("bin 1 gives hour 0 to bin 2", x.fansOf(1), 6);
        due("bin 2 in hour 0", x.fansOf(2), 1);
        due("bin 0 stays", x.fansOf(0), 3);
        x.needs(3, 1, 0);
        due("without a plan", x.fansOf(0), -1);
        due("without a plan", x.fansOf(4), -1);
    }

    private static void promise21FansOfFull() {
        GrainHouse x = house(21);
        x.needs(-1, 1, 0);
        for (int h = 4; h < 12; h++) {
            x.hour(h, false, 0);
        }
        x.needs(0, 2, 4);
        x.needs(1, 1, 2);
        x.needs(2, 1, 3);
        due("fans()", x.fans(), 4);
        due("hour 0 and the first that others leave", x.fansOf(0), 9);
        due("fansOf(1)", x.fansOf(1), 2);
        due("fansOf(2)", x.fansOf(2), 4);
        x.hour(0, true, 9);
        due("fans()", x.fans(), 12);
        due("the same hours at another cost", x.fansOf(0), 9);
        x.hour(4, true, 8);
        x.needs(0, 2, 5);
        due("hour 0 is spared", x.fans(), 11);
        due("fansOf(0)", x.fansOf(0), 24);
    }

    /** Bin 0 is the first with hours 0 and 1, though 0 and 2 with another bin in hour 0 cost as much. */
    private static void promise21FansOfLike() {
        GrainHouse x = house(21);
        for (int h = 2; h < 12; h++) {
            x.hour(h, h == 2, 0);
        }
        x.needs(0, 2, 3);
        x.needs(1, 1, 3);
        x.needs(2, 1, 3);
        due("fans()", x.fans(), 2);
        due("fansOf(0)", x.fansOf(0), 3);
        due("fansOf(1)", x.fansOf(1), 4);
        due("fansOf(2)", x.fansOf(2), 4);
        x.needs(3, 1, 3);
        due("fans()", x.fans(), 3);
        due("fansOf(0)", x.fansOf(0), 3);
        due("fansOf(1)", x.fansOf(1), 1);
        due("fansOf(3)", x.fansOf(3), 4);
    }

    private static void promise22Blend() {
        GrainHouse x = house(22);
        x.load(0, 1, 10000, 300, 0);
        x.load(0, 1, 10000, 100, 1);
        x.load(0, 1, 3999, 0, 2);
        due("as wet as may be", x.blend(1, 7, 10, 200), 8000000);
        due("the most of bin 0", x.blended(0), 6);
        due("then of bin 1", x.blended(1), 2);
        due("the rest of bin 2", x.blended(2), 2);
        due("moist 199 is a step drier", x.blend(1, 7, 10, 199), 8100000);
        due("moist 1000 lets all", x.blend(1, 7, 10, 1000), 7000000);
        due("blended(0)", x.blended(0), 10);
        due("more than bin 0 has", x.blend(1, 7, 11, 1000), 7900000);
        due("blended(1)", x.blended(1), 1);
        due("bin 2 has 3 tons", x.blend(1, 4, 4, 0), -1);
        due("blend(1, 4, 3, 0)", x.blend(1, 4, 3, 0), 3000000);
        due("moist 0 of all", x.blend(1, 7, 4, 0), -1);
        due("20 tons", x.blend(1, 3, 20, 200), 16000000);
        due("blended(0)", x.blended(0), 10);
        due("20 tons of it", x.blend(1, 3, 20, 199), -1);
        due("nothing is taken", x.dryIn(0), 7000000);
        GrainHouse y = house(22);
        y.load(0, 0, 3001, 333, 0);
        due("3001 kg: 2001667 * 1000 / 3001 cut", y.blend(0, 1, 1, 1000), 667000);
        y.load(0, 0, 3001, 332, 0);
        due("of 4006335 in 6002", y.blend(0, 1, 1, 333), 667500);
        due("the quotient is cut, so it is 333", y.blend(0, 1, 1, 332), -1);
        GrainHouse z = house(22);
        for (int bin = 2; bin < 6; bin++) {
            z.load(0, 3, 1000, 600 - 100 * bin, bin);
        }
        due("of four", z.blend(3, 60, 4, 1000), 3000000);
        z.load(0, 3, 20000, 100, 7);
        z.load(0, 3, 20000, 100, 6);
        due("all of the lower", z.blend(3, 192, 20, 100), 18000000);
        due("blended(6)", z.blended(6), 20);
        due("the wettest, and the rest of the lower of like ones", z.blend(3, 216, 20, 100 + 20), 17700000);
        due("blended(3)", z.blended(3), 1);
        due("blended(4)", z.blended(4), 1);
        due("blended(6)", z.blended(6), 18);
        due("blended(7)", z.blended(7), 0);
        z.ship(2, 999);
        due("five have it, be it one kg", z.blend(3, 31 * 4, 1, 1000), -1);
    }

    private static void promise22BlendOthers() {
        GrainHouse x = house(22);
        due("empty bins", x.blend(0, 255, 1, 1000), -1);
        for (int bin = 0; bin < 5; bin++) {
            x.load(0, 0, 999 + bin, 100, bin);
        }
        x.load(0, 1, 5000, 100, 5);
        x.load(0, 1, 20000, 100, 5);
        due("kind -1", x.blend(-1, 15, 1, 1000), -1);
        due("kind 4", x.blend(4, 15, 1, 1000), -1);
        due("set -1", x.blend(1, -1, 1, 1000), -1);
        due("set 256", x.blend(1, 256, 1, 1000), -1);
        due("set 256 + 32", x.blend(1, 256 + 32, 1, 1000), -1);
        due("q 0", x.blend(0, 15, 0, 1000), -1);
        due("q 21", x.blend(1, 32, 21, 1000), -1);
        due("q 20", x.blend(1, 32, 20, 1000), 18000000);
        due("moist -1", x.blend(0, 15, 1, -1), -1);
        due("moist 1001", x.blend(0, 15, 1, 1001), -1);
        due("none of them has it", x.blend(0, 32 + 64, 1, 1000), -1);
        due("set 0", x.blend(0, 0, 1, 1000), -1);
        due("five have it", x.blend(0, 31, 1, 1000), -1);
        due("four have it", x.blend(0, 30, 4, 1000), 3600000);
        due("those without don't count", x.blend(0, 15 + 32 + 64 + 128, 3, 1000), 2700000);
        due("999 kg are no ton", x.blended(0), 0);
        due("but are a bin that has it", x.blend(0, 255, 1, 1000), -1);
        due("only 3 tons", x.blend(0, 15, 4, 1000), -1);
        due("by kind", x.blend(1, 255, 5, 1000), 4500000);
        GrainHouse y = house(22);
        y.leg(0, 1, 1);
        y.load(0, 0, 1334, 249, 0);
        due("500917 / 1000", y.dry(0, 1, 667, 0), 500);
        due("and again", y.dry(0, 1, 667, 0), 500);
        due("a ton of more than its weight is of moist 0", y.blend(0, 2, 1, 0), 1001834);
        due("and not of moist -1", y.blend(0, 2, 1, -1), -1);
    }

    private static void promise23Blended() {
        GrainHouse x = house(23);
        due("ahead of any", x.blended(0), -1);
        x.blend(0, 1, 1, 1000);
        due("that told none", x.blended(0), -1);
        x.load(0, 0, 2000, 100, 6);
        x.load(0, 0, 2000, 100, 7);
        due("blend()", x.blend(0, 255, 3, 100), 2700000);
        due("bin -1", x.blended(-1), -1);
        due("bin 8", x.blended(8), -1);
        due("bin 0", x.blended(0), 0);
        due("the most of the lowest", x.blended(6), 2);
        due("bin 7", x.blended(7), 1);
        due("too dry an order", x.blend(0, 255, 3, 99), -1);
        due("the latest that told", x.blended(6), 2);
        x.ship(6, 2000);
        due("as it was then", x.blended(6), 2);
        due("blend()", x.blend(0, 255, 2, 100), 1800000);
        due("bin 6", x.blended(6), 0);
        due("bin 7", x.blended(7), 2);
    }

    private static void promise24Feed() {
        GrainHouse x = house(24);
        due("feed", x.feed(four("dock"), four("9  1"), four(";doc"), four("k9 2"), four(";@@@")), 20);
        due("end(17)", x.end(17), 17);
        due("list()", x.list(), -1);
        due("the highest byte is first", x.fault(0), 2);
        due("its place", x.fault(1), 13);
        for (int i = 1; i <= 10; i++) {
            due("feed", x.feed(-1, 0, 0, 0, 0), 20 * i);
        }
        due("more than 200", x.feed(0, 0, 0, 0, 0), -1);
        due("about(9)", x.about(9), 200);
        due("end(181)", x.end(181), 181);
        due("201", x.feed(0, 0, 0, 0, 0), -1);
        due("about(9)", x.about(9), 181);
        due("end(180)", x.end(180), 180);
        due("200", x.feed(0, 0, 0, 0, 0), 200);
        due("end(0)", x.end(0), 0);
        due("a part of a text", list(x, "price 0 "), -1);
        write(x, "price 0 ");
        due("the rest", list(x, "5 ;"), 1);
    }

    private static void promise25End() {
        GrainHouse x = house(25);
        due("end(0)", x.end(0), 0);
        due("end(1)", x.end(1), -1);
        due("end(-1)", x.end(-1), -1);
        x.feed(0, 0, 0, 0, 0);
        due("end(21)", x.end(21), -1);
        due("end(-1)", x.end(-1), -1);
        due("end(MIN)", x.end(Integer.MIN_VALUE), -1);
        due("about(9)", x.about(9), 20);
        due("end(20)", x.end(20), 20);
        due("end(3)", x.end(3), 3);
        due("about(9)", x.about(9), 3);
        due("end(4)", x.end(4), -1);
        due("end(0)", x.end(0), 0);
        write(x, "pricex");
        x.end(5);
        due("a word ends with the tape", x.list(), -1);
        due("its place", x.fault(1), 5);
        write(x, "price 1 10");
        x.end(9);
        due("so does a number", x.list(), -1);
        due("its place", x.fault(1), 9);
        write(x, "price 0 70;nothing");
        x.end(11);
        due("the first bytes alone", x.list(), 1);
    }

    private static void promise26List() {
        GrainHouse x = house(26);
        x.load(0, 1, 1000, 400, 0);
        due("an empty tape", x.list(), 0);
        due("blanks", list(x, "     "), 0);
        due("price", list(x, "price 1 100;"), 1);
        due("worth(0)", x.worth(0), 60);
        due("the tape is empty", x.about(9), 0);
        due("a fault", list(x, "price 1 200;price"), -1);
        due("the former stays", x.worth(0), 60);
        due("the tape is empty too", x.about(9), 0);
        due("without blanks", list(x, "price1 1000;dock399 50;dock 0 1;"), 3);
        due("600 less 51 of 100", x.worth(0), 294);
        due("with many, and noughts", list(x, "  price   0001   0500  ;  "), 1);
        due("docks are gone", x.worth(0), 300);
        due("all that may be", list(x, "price0 0;price1 9999;price2 1;price3 2;dock0 1;dock1 1;dock2 1;dock3 1;"
                + "dock4 1;dock5 1;dock400 50;dock399 50;"), 12);
        due("5999 less 56 of 100", x.worth(0), 2640);
        due("an empty one again", x.list(), 0);
        due("worth(0)", x.worth(0), 0);
        String full = "price 1 100;" + " ".repeat(187) + ";";
        due("all 200 bytes", list(x, full), -1);
        due("its place", x.fault(1), 199);
    }

    private static void promise27Fault() {
        GrainHouse x = house(27);
        due("ahead of any", x.fault(0), -1);
        due("ahead of any", x.fault(1), -1);
        x.list();
        due("without", x.fault(0), 0);
        due("without", x.fault(1), -1);
        due("what 2", x.fault(2), -1);
        due("what -1", x.fault(-1), -1);
        faulty("price", 1, 5);
        faulty("price  ", 1, 7);
        faulty("price 1", 1, 7);
        faulty("price 1 1", 1, 9);
        faulty(" dock 1 1 ", 1, 10);
        faulty("Price 1 1;", 1, 0);
        faulty("prices 1 1;", 1, 0);
        faulty("pric 1 1;", 1, 0);
        faulty(" ;", 1, 1);
        faulty("7", 1, 0);
        faulty("price ;", 1, 6);
        faulty("price dock", 1, 6);
        faulty("price 1 ;", 1, 8);
        faulty("price 1 1 1;", 1, 10);
        faulty("price 1 1x;", 1, 9);
        faulty("price 1 1;;", 1, 10);
        faulty("price 1 -1;", 1, 8);
        faulty("price 1,1;", 1, 7);
        faulty("price\t1 1;", 1, 5);
        faulty("price 1 1;\u0000", 1, 10);
        faulty("\u00ff", 1, 0);
        faulty("price 1 1; price 1 1;", 2, 17);
        faulty("price 1 1;price 001 1;", 2, 16);
        faulty("dock 5 1;dock 5 2;", 2, 14);
        faulty("price 4 1;", 3, 6);
        faulty("price11;", 3, 5);
        faulty("price 1 10000;", 3, 8);
        faulty("price 1 4294967296;", 3, 8);
        faulty("price 18446744073709551617 1;", 3, 6);
        faulty("dock 401 1;", 3, 5);
        faulty("dock 400 0;", 3, 9);
        faulty("dock 400 51;", 3, 9);
    }

    private static void promise27FaultOfTwo() {
        String eight = "dock1 1;dock2 1;dock3 1;dock4 1;dock5 1;dock6 1;dock7 1;dock8 1;";
        faulty(eight + "dock9 1;", 4, 64);
        faulty(eight + "price 0 1; dock", 4, 75);
        faulty(eight + "dockx9 1;", 1, 64);
        faulty(eight + "dock 1 99;", 4, 64);
        faulty("dock 1 99;x", 3, 7);
        faulty("price 9 1;price", 3, 6);
        faulty("x price 9", 1, 0);
        faulty("dock 5 1;price 5 1;", 3, 15);
        GrainHouse x = house(27);
        due("eight docks may be", list(x, eight), 8);
        due("without", x.fault(0), 0);
        due("price and dock of one number", list(x, "price 3 1;dock 3 1;"), 2);
        due("a fault", list(x, "?"), -1);
        due("fault(0)", x.fault(0), 1);
        due("what 2", x.fault(2), -1);
        due("no fault", list(x, ""), 0);
        due("of the latest", x.fault(0), 0);
        due("of the latest", x.fault(1), -1);
    }

    private static void promise28Worth() {
        GrainHouse x = house(28);
        x.load(0, 0, 1001, 1, 0);
        x.load(0, 1, 40000, 0, 1);
        x.load(0, 2, 1000, 200, 2);
        x.load(0, 2, 1000, 201, 2);
        due("load -1", x.worth(-1), -1);
        due("load 4", x.worth(4), -1);
        due("without a price", x.worth(0), 0);
        list(x, "price 0 999;price 1 9999;price 2 1234;dock 200 33;");
        due("999999 * 999 / 1000000, cut", x.worth(0), 998);
        due("the dearest", x.worth(1), 399960);
        due("not above 200", x.worth(2), 987);
        due("985 less 325", x.worth(3), 660);
        list(x, "price 2 1234;dock 0 1;dock 1 50;dock 200 49;dock 201 50;");
        due("987 less 503: docks together are 51", x.worth(2), 484);
        due("100 of 100", x.worth(3), 0);
        list(x, "price 2 1234;dock 0 50;dock 1 50;dock 2 50;");
        due("100 at most", x.worth(3), 0);
        due("a price of 0 by the list of now", x.worth(1), 0);
        x.ship(2, 2000);
        list(x, "price 2 5;");
        due("a load stays when it is shipped", x.worth(2), 4);
    }

    private static void promise29Account() {
        GrainHouse x = house(29);
        x.load(3, 0, 1000, 100, 0);
        x.load(9, 0, 500, 300, 0);
        x.load(3, 1, 999, 100, 1);
        x.load(3, 0, 9999, 0, 1);
        due("account(3, 0)", x.account(3, 0), 1799100);
        due("account(9, 0)", x.account(9, 0), 350000);
        due("account(0, 0)", x.account(0, 0), 0);
        due("account(3, 1)", x.account(3, 1), 0);
        due("account(3, 2)", x.account(3, 2), 2);
        due("account(0, 2)", x.account(0, 2), 0);
        list(x, "price 0 11;price 1 11;dock 200 10;");
        due("9 and 9, each cut", x.account(3, 1), 18);
        due("3 less 0", x.account(9, 1), 3);
        due("farmer -1", x.account(-1, 0), -1);
        due("farmer 10", x.account(10, 0), -1);
        due("what 3", x.account(3, 3), -1);
        due("what -1", x.account(3, -1), -1);
        GrainHouse y = house(29);
        for (int bin = 0; bin < 8; bin++) {
            y.holds(bin, 500000);
            for (int i = 0; i < 12; i++) {
                y.load(0, 0, 40000, 0, bin);
            }
        }
        due("beyond an int", y.account(0, 0), 3840000000L);
        due("about(7)", y.about(7), 3840000000L);
        due("about(8)", y.about(8), 3840000000L);
        list(y, "price 0 9999;");
        due("account(0, 1)", y.account(0, 1), 38396160);
        for (int bin = 0; bin < 8; bin++) {
            due("ship", y.ship(bin, 480000), 480000000);
        }
        due("about(6)", y.about(6), 3840000000L);
    }

    private static void promise30About() {
        GrainHouse x = house(30);
        x.load(0, 0, 1000, 200, 0);
        x.load(1, 0, 1000, 100, 0);
        x.leg(0, 1, 9);
        x.truck(0, 0, 1);
        x.truck(0, 0, 1);
        x.truck(0, 0, 1);
        x.move(0, 1, 200);
        x.dry(0, 1, 100, 100);
        x.ship(0, 300);
        x.feed(0, 0, 0, 0, 0);
        x.cleaning(44);
        x.pit(33, 22);
        x.needs(-1, 5, 0);
        long[] due = {2, 1, 3, 18, 6, 300, 255000, 1445000, 1700000, 20, 44, 33, 22, 5};
        for (int what = 0; what < due.length; what++) {
            due("about(" + what + ")", x.about(what), due[what]);
        }
        due("about(-1)", x.about(-1), -1);
        due("about(14)", x.about(14), -1);
        due("about(MAX)", x.about(Integer.MAX_VALUE), -1);
        due("about(MIN)", x.about(Integer.MIN_VALUE), -1);
    }

    /** What is dry is kept to the gram: what came is what stands in the bins and what was shipped. */
    private static void allTogether() {
        GrainHouse x = house(30);
        x.holds(0, 500000);
        for (int bin = 1; bin < 8; bin++) {
            x.leg(0, bin, bin);
        }
        for (int i = 0; i < 60; i++) {
            x.load(i % 10, 0, 1000 + 37 * i, i * 7 % 401, 0);
            x.move(0, 1 + i % 7, 17 + i);
            x.dry(1 + i % 7, 0, 7 + i, i % 150);
            x.ship(i % 8, 11 + i);
        }
        due("dry in bins and shipped", x.about(7) + x.about(6), x.about(8));
        long kg = x.about(4) + x.about(5);
        for (int bin = 0; bin < 8; bin++) {
            kg += x.binOf(bin, 1);
        }
        due("kg in bins, shipped and water", kg, 60 * 1000 + 37 * 59 * 60 / 2);
    }
}

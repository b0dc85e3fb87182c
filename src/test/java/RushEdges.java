import java.io.IOException;

/** Trucks and the pit: each sentence of the document, at its edges. */
public final class RushEdges {
    private static final int MIN = Edges.MIN;
    private static final int MAX = Edges.MAX;

    public static void main(String[] args) throws IOException {
        Edges.main(RushEdges.class, "II", "13", "14", "15", "16", "17");
    }

    private static void due(String what, long got, long want) {
        Edges.due(what, got, want);
    }

    private static void due(String what, boolean got, boolean want) {
        Edges.due(what, got, want);
    }

    /** Trucks of minute 0 and weight 1, one of each of these kinds. */
    private static GrainHouse ofKinds(int... kinds) {
        GrainHouse x = new GrainHouse();
        for (int kind : kinds) {
            x.truck(0, kind, 1);
        }
        return x;
    }

    private static void dueOrder(GrainHouse x, int... trucks) {
        for (int i = 0; i < trucks.length; i++) {
            due("truck served " + i, x.served(i, 0), trucks[i]);
        }
        due("behind the last", x.served(trucks.length, 0), -1);
    }

    private static void dueEmpty(GrainHouse x, int... minutes) {
        for (int i = 0; i < minutes.length; i++) {
            due("empty, served " + i, x.served(i, 1), minutes[i]);
        }
        due("behind the last", x.served(minutes.length, 1), -1);
    }

    // ---- Terms II

    @Says(at = "II", words = "TRUCKS 0 .. 6 of a RUSH:")
    private static void trucksAreSeven() {
        GrainHouse x = new GrainHouse();
        for (int i = 0; i < 7; i++) {
            due("truck " + i, x.truck(0, 0, 1), i);
        }
        due("the 8th", x.truck(0, 0, 1), -1);
        due("10 + 20 + .. + 60", x.rush(), 210);
        dueOrder(x, 0, 1, 2, 3, 4, 5, 6);
        dueEmpty(x, 10, 20, 30, 40, 50, 60, 70);
    }

    @Says(at = "II", words = "a minute (0 .. 999),")
    private static void minuteOfATruck() {
        GrainHouse x = new GrainHouse();
        due("-1", x.truck(-1, 0, 1), -1);
        due("1000", x.truck(1000, 0, 1), -1);
        due("MIN", x.truck(MIN, 0, 1), -1);
        due("MAX", x.truck(MAX, 0, 1), -1);
        due("999", x.truck(999, 0, 1), 0);
        due("0", x.truck(0, 0, 1), 1);
        dueOrder(x, 1, 0);
        dueEmpty(x, 10, 1009);
    }

    @Says(at = "II", words = "a KIND,")
    private static void kindOfATruck() {
        GrainHouse x = new GrainHouse();
        due("-1", x.truck(0, -1, 1), -1);
        due("4", x.truck(0, 4, 1), -1);
        due("MIN", x.truck(0, MIN, 1), -1);
        due("MAX", x.truck(0, MAX, 1), -1);
        due("0", x.truck(0, 0, 1), 0);
        due("3", x.truck(0, 3, 1), 1);
        dueEmpty(x, 10, 25);
    }

    @Says(at = "II", words = "a WEIGHT (1 .. 9).")
    private static void weightOfATruck() {
        GrainHouse x = new GrainHouse();
        due("0", x.truck(0, 0, 0), -1);
        due("-1", x.truck(0, 0, -1), -1);
        due("10", x.truck(0, 0, 10), -1);
        due("MIN", x.truck(0, 0, MIN), -1);
        due("MAX", x.truck(0, 0, MAX), -1);
        due("1", x.truck(0, 0, 1), 0);
        due("9", x.truck(0, 0, 9), 1);
        due("the light one waits", x.rush(), 10);
        dueOrder(x, 1, 0);
    }

    @Says(at = "II", words = "One pit: each takes UNLOAD minutes (1 .. 60; at first 10),")
    private static void unloadMinutes() {
        GrainHouse x = ofKinds(0, 0);
        dueEmpty(x, 10, 20);
        due("0", x.pit(0, 5), false);
        due("-1", x.pit(-1, 5), false);
        due("61", x.pit(61, 5), false);
        dueEmpty(x, 10, 20);
        due("1", x.pit(1, 5), true);
        dueEmpty(x, 1, 2);
        due("60", x.pit(60, 5), true);
        dueEmpty(x, 60, 120);
        due("one waits for the other", x.rush(), 60);
    }

    @Says(at = "II", words = "and CHANGE more (0 .. 60; at first 5),")
    private static void changeMinutes() {
        GrainHouse x = ofKinds(0, 1);
        dueEmpty(x, 10, 25);
        due("-1", x.pit(10, -1), false);
        due("61", x.pit(10, 61), false);
        dueEmpty(x, 10, 25);
        due("0", x.pit(10, 0), true);
        dueEmpty(x, 10, 20);
        due("60", x.pit(10, 60), true);
        dueEmpty(x, 10, 80);
    }

    @Says(at = "II", words = "if the one ahead of it was of another KIND (not the first);")
    private static void changeBetweenKindsAlone() {
        for (int kind = 0; kind < 4; kind++) {
            dueEmpty(ofKinds(kind), 10);
            dueEmpty(ofKinds(kind, kind), 10, 20);
        }
        GrainHouse x = new GrainHouse();
        x.truck(0, 0, 1);
        x.truck(100, 1, 1);
        x.truck(200, 0, 1);
        x.truck(300, 0, 1);
        dueEmpty(x, 10, 115, 215, 310);
        x.gone();
        x.truck(0, 3, 1);
        dueEmpty(x, 10);
    }

    @Says(at = "II", words = "none begins ahead of its minute.")
    private static void noneBeginsAheadOfItsMinute() {
        GrainHouse x = new GrainHouse();
        x.truck(999, 0, 9);
        dueEmpty(x, 1009);
        x.truck(7, 1, 1);
        due("no waits", x.rush(), 0);
        dueEmpty(x, 17, 1014);
        x.truck(16, 1, 1);
        due("one minute", x.rush(), 1);
        dueEmpty(x, 17, 27, 1014);
        GrainHouse y = new GrainHouse();
        y.truck(0, 0, 1);
        y.truck(12, 1, 1);
        dueEmpty(y, 10, 27);
    }

    @Says(at = "II", words = "WAIT: from its minute to its begin (of CHANGE, if there is one),")
    private static void waitEndsAtTheChange() {
        GrainHouse x = new GrainHouse();
        x.truck(0, 0, 1);
        x.truck(3, 1, 1);
        due("from 3 to 10", x.rush(), 7);
        x.pit(10, 60);
        due("however long the change", x.rush(), 7);
        GrainHouse y = new GrainHouse();
        y.truck(0, 0, 1);
        y.truck(10, 0, 1);
        due("none", y.rush(), 0);
    }

    @Says(at = "II", words = "times WEIGHT.")
    private static void waitTimesWeight() {
        GrainHouse x = new GrainHouse();
        x.truck(0, 0, 9);
        x.truck(0, 0, 9);
        due("10 by 9", x.rush(), 90);
        x.truck(0, 0, 2);
        due("and 20 by 2", x.rush(), 130);
    }

    @Says(at = "II", words = "THE ORDER: the least WAITS together;")
    private static void theOrderOfLeastWaits() {
        GrainHouse x = new GrainHouse();
        x.truck(100, 0, 1);
        x.truck(101, 0, 9);
        due("the pit stays free for the heavy one", x.rush(), 11);
        dueOrder(x, 1, 0);
        x.gone();
        x.truck(0, 0, 1);
        x.truck(3, 0, 2);
        due("13 by 1 is one less than 7 by 2", x.rush(), 13);
        dueOrder(x, 1, 0);
        GrainHouse y = ofKinds(0, 1, 0, 1);
        due("kinds stay together", y.rush(), 65);
        dueOrder(y, 0, 2, 1, 3);
        GrainHouse z = new GrainHouse();
        for (int weight = 1; weight <= 7; weight++) {
            z.truck(0, 0, weight);
        }
        due("60 + 100 + 120 + 120 + 100 + 60", z.rush(), 560);
        dueOrder(z, 6, 5, 4, 3, 2, 1, 0);
    }

    @Says(at = "II", words = "of like ones the first by TRUCKS.")
    private static void theOrderFirstByTrucks() {
        GrainHouse x = new GrainHouse();
        x.truck(5, 0, 3);
        x.truck(0, 0, 1);
        due("15 by 1 or 5 by 3", x.rush(), 15);
        dueOrder(x, 0, 1);
        dueEmpty(x, 15, 25);
        dueOrder(ofKinds(3, 2, 1, 0), 0, 1, 2, 3);
        dueOrder(ofKinds(1, 0, 0, 1), 0, 3, 1, 2);
    }

    // ---- Promise 13

    @Says(at = "13", words = "A TRUCK: its number.")
    private static void trucksAreNumbered() {
        GrainHouse x = new GrainHouse();
        due("the first", x.truck(999, 3, 9), 0);
        due("a refused one", x.truck(999, 3, 10), -1);
        due("the second", x.truck(0, 0, 1), 1);
        x.gone();
        due("of another rush", x.truck(0, 0, 1), 0);
    }

    @Says(at = "13", words = "NONE for others,")
    private static void truckOfOthers() {
        GrainHouse x = new GrainHouse();
        due("minute -1", x.truck(-1, 0, 1), -1);
        due("minute 1000", x.truck(1000, 0, 1), -1);
        due("kind -1", x.truck(0, -1, 1), -1);
        due("kind 4", x.truck(0, 4, 1), -1);
        due("weight 0", x.truck(0, 0, 0), -1);
        due("weight 10", x.truck(0, 0, 10), -1);
        due("trucks", x.about(2), 0);
    }

    @Says(at = "13", words = "or if there are 7.")
    private static void truckBehindTheLast() {
        GrainHouse x = ofKinds(0, 0, 0, 0, 0, 0);
        due("the 7th", x.truck(0, 0, 1), 6);
        due("the 8th", x.truck(0, 0, 1), -1);
        due("trucks", x.about(2), 7);
        due("waits of seven", x.rush(), 210);
        due("the 8th again", x.truck(0, 0, 1), -1);
    }

    // ---- Promise 14

    @Says(at = "14", words = "UNLOAD, CHANGE: true.")
    private static void pitIsTrue() {
        GrainHouse x = new GrainHouse();
        due("the least", x.pit(1, 0), true);
        due("unload", x.about(11), 1);
        due("change", x.about(12), 0);
        due("the greatest", x.pit(60, 60), true);
        due("unload", x.about(11), 60);
        due("change", x.about(12), 60);
    }

    @Says(at = "14", words = "False, changing nothing, for others.")
    private static void pitOfOthers() {
        GrainHouse x = ofKinds(0, 1);
        due("unload 0", x.pit(0, 7), false);
        due("unload 61", x.pit(61, 7), false);
        due("unload MIN", x.pit(MIN, 7), false);
        due("unload MAX", x.pit(MAX, 7), false);
        due("change -1", x.pit(7, -1), false);
        due("change 61", x.pit(7, 61), false);
        due("change MIN", x.pit(7, MIN), false);
        due("change MAX", x.pit(7, MAX), false);
        due("unload", x.about(11), 10);
        due("change", x.about(12), 5);
        dueEmpty(x, 10, 25);
    }

    // ---- Promise 15

    @Says(at = "15", words = "WAITS of THE ORDER together.")
    private static void rushFromNoneToTheMost() {
        GrainHouse x = new GrainHouse();
        due("none", x.rush(), 0);
        x.truck(500, 2, 9);
        due("one", x.rush(), 0);
        x.gone();
        x.pit(60, 60);
        for (int i = 0; i < 7; i++) {
            x.truck(0, i % 4, 9);
        }
        due("9 by 60, 120, 240, 300, 420 and 480", x.rush(), 14580);
        dueOrder(x, 0, 4, 1, 5, 2, 6, 3);
    }

    // ---- Promise 16

    @Says(at = "16", words = "Of the i-th in THE ORDER: 0 the TRUCK, 1 the minute at which it is empty.")
    private static void servedWithoutARushAheadOfIt() {
        GrainHouse x = ofKinds(2, 1, 2);
        due("truck", x.served(1, 0), 2);
        due("empty", x.served(2, 1), 35);
        x.truck(0, 1, 9);
        dueOrder(x, 3, 1, 0, 2);
        dueEmpty(x, 10, 20, 35, 45);
        x.pit(1, 1);
        dueEmpty(x, 1, 2, 4, 5);
    }

    @Says(at = "16", words = "NONE if there is none such.")
    private static void servedThatIsNot() {
        GrainHouse x = new GrainHouse();
        due("of none, truck", x.served(0, 0), -1);
        due("of none, minute", x.served(0, 1), -1);
        x.truck(0, 0, 1);
        x.truck(0, 0, 1);
        for (int what = 0; what < 2; what++) {
            due("-1", x.served(-1, what), -1);
            due("2", x.served(2, what), -1);
            due("7", x.served(7, what), -1);
            due("MIN", x.served(MIN, what), -1);
            due("MAX", x.served(MAX, what), -1);
        }
        due("what -1", x.served(0, -1), -1);
        due("what 2", x.served(0, 2), -1);
        due("what MIN", x.served(0, MIN), -1);
        due("what MAX", x.served(0, MAX), -1);
        x.gone();
        due("gone", x.served(0, 0), -1);
    }

    // ---- Promise 17

    @Says(at = "17", words = "No TRUCKS any more: how many there were.")
    private static void goneFromNoneAndFromAll() {
        GrainHouse x = new GrainHouse();
        due("none", x.gone(), 0);
        x.pit(20, 7);
        for (int i = 0; i < 7; i++) {
            x.truck(0, 0, 1);
        }
        due("waits", x.rush(), 420);
        due("all", x.gone(), 7);
        due("none again", x.gone(), 0);
        due("waits of none", x.rush(), 0);
        due("trucks", x.about(2), 0);
        due("unload stays", x.about(11), 20);
        due("change stays", x.about(12), 7);
        for (int i = 0; i < 7; i++) {
            due("truck " + i + " of another rush", x.truck(0, 0, 1), i);
        }
        due("waits of another rush", x.rush(), 420);
    }
}

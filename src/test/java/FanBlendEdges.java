import java.io.IOException;

/** Fans and blends: each sentence of the document, at its edges. */
public final class FanBlendEdges {
    private static final int MIN = Edges.MIN;
    private static final int MAX = Edges.MAX;

    public static void main(String[] args) throws IOException {
        Edges.main(FanBlendEdges.class, "III", "18", "19", "20", "21", "22", "23");
    }

    private static void due(String what, long got, long want) {
        Edges.due(what, got, want);
    }

    private static void due(String what, boolean got, boolean want) {
        Edges.due(what, got, want);
    }

    /** A house in which these hours (bits) alone are dry, at a cost of 1. */
    private static GrainHouse dryIn(int hours) {
        GrainHouse x = new GrainHouse();
        for (int h = 0; h < 12; h++) {
            x.hour(h, (hours >> h & 1) == 1, 1);
        }
        return x;
    }

    /** Bins 0, 1, .. with so many tons of kind 1, of moist 100, 200, .. */
    private static GrainHouse tons(int... tons) {
        GrainHouse x = new GrainHouse();
        for (int bin = 0; bin < tons.length; bin++) {
            x.load(0, 1, 1000 * tons[bin], 100 * (bin + 1), bin);
        }
        return x;
    }

    private static void dueBlend(GrainHouse x, int... tons) {
        for (int bin = 0; bin < 8; bin++) {
            due("tons of bin " + bin, x.blended(bin), bin < tons.length ? tons[bin] : 0);
        }
    }

    private static void duePlan(GrainHouse x, int cost, int... hours) {
        due("costs", x.fans(), cost);
        for (int bin = 0; bin < 8; bin++) {
            due("hours of bin " + bin, x.fansOf(bin), bin < hours.length ? hours[bin] : 0);
        }
    }

    private static void dueNoPlan(GrainHouse x) {
        due("costs without a plan", x.fans(), -1);
        for (int bin = 0; bin < 8; bin++) {
            due("hours of bin " + bin + " without a plan", x.fansOf(bin), -1);
        }
    }

    // ---- Terms III: fans

    @Says(at = "III", words = "FANS: HOURS 0 .. 11,")
    private static void hoursAreTwelve() {
        GrainHouse x = new GrainHouse();
        due("hour -1", x.hour(-1, false, 1), false);
        due("hour 12", x.hour(12, false, 1), false);
        x.needs(0, 12, 12);
        duePlan(x, 12, 4095);
        due("hour 0", x.hour(0, false, 1), true);
        due("hour 11", x.hour(11, false, 1), true);
        dueNoPlan(x);
        x.needs(0, 10, 12);
        duePlan(x, 10, 2046);
    }

    @Says(at = "III", words = "each dry or not (at first dry),")
    private static void wetHoursAreNotUsed() {
        GrainHouse x = new GrainHouse();
        x.needs(0, 12, 12);
        duePlan(x, 12, 4095);
        x.hour(5, false, 0);
        dueNoPlan(x);
        x.needs(0, 11, 12);
        duePlan(x, 11, 4095 - 32);
        x.hour(5, true, 1);
        x.needs(0, 12, 12);
        duePlan(x, 12, 4095);
    }

    @Says(at = "III", words = "with a COST (0 .. 99; at first 1).")
    private static void costOfAnHour() {
        GrainHouse x = new GrainHouse();
        x.needs(0, 12, 12);
        due("at first", x.fans(), 12);
        due("-1", x.hour(3, true, -1), false);
        due("100", x.hour(3, true, 100), false);
        due("as it was", x.fans(), 12);
        due("0", x.hour(3, true, 0), true);
        due("then", x.fans(), 11);
        due("99", x.hour(3, true, 99), true);
        due("then", x.fans(), 110);
        x.needs(-1, 8, 0);
        for (int i = 0; i < 12; i++) {
            x.hour(i, true, 99);
            x.needs(i % 8, 12, 12);
        }
        due("the dearest plan", x.fans(), 9504);
    }

    @Says(at = "III", words = "NEEDS of a BIN: so many different dry HOURS (0 .. 12)")
    private static void differentHours() {
        GrainHouse x = new GrainHouse();
        due("-1", x.needs(0, -1, 12), false);
        due("13", x.needs(0, 13, 12), false);
        due("0", x.needs(0, 0, 12), true);
        duePlan(x, 0);
        due("12", x.needs(0, 12, 12), true);
        duePlan(x, 12, 4095);
        due("two ahead of hour 1", x.needs(0, 2, 1), true);
        dueNoPlan(x);
        x.needs(-1, 8, 0);
        dueNoPlan(x);
        due("two ahead of hour 2", x.needs(0, 2, 2), true);
        duePlan(x, 2, 3);
        x.hour(1, false, 1);
        dueNoPlan(x);
    }

    @Says(at = "III", words = "ahead of an HOUR (0 .. 12;")
    private static void aheadOfAnHour() {
        GrainHouse x = dryIn(1 << 11 | 1);
        due("-1", x.needs(0, 1, -1), false);
        due("13", x.needs(0, 1, 13), false);
        due("of hour 0", x.needs(0, 1, 0), true);
        dueNoPlan(x);
        due("none of hour 0", x.needs(0, 0, 0), true);
        duePlan(x, 0);
        due("of hour 1", x.needs(0, 1, 1), true);
        duePlan(x, 1, 1);
        due("two of hour 11", x.needs(0, 2, 11), true);
        dueNoPlan(x);
        due("two of hour 12", x.needs(0, 2, 12), true);
        duePlan(x, 2, 1 << 11 | 1);
    }

    @Says(at = "III", words = "at first 0 ahead of 12).")
    private static void noNeedsAtFirst() {
        duePlan(new GrainHouse(), 0);
        duePlan(dryIn(0), 0);
    }

    @Says(at = "III", words = "In an HOUR POWER BINS at most (1 .. 8; at first 2).")
    private static void powerInAnHour() {
        GrainHouse x = new GrainHouse();
        x.needs(0, 1, 1);
        x.needs(1, 1, 1);
        duePlan(x, 2, 1, 1);
        x.needs(2, 1, 1);
        dueNoPlan(x);
        due("power 0", x.needs(-1, 0, 1), false);
        due("power 9", x.needs(-1, 9, 1), false);
        dueNoPlan(x);
        due("power 3", x.needs(-1, 3, 1), true);
        duePlan(x, 3, 1, 1, 1);
        due("power 1", x.needs(-1, 1, 1), true);
        dueNoPlan(x);
        for (int bin = 0; bin < 8; bin++) {
            x.needs(bin, 1, 1);
        }
        due("power 7", x.needs(-1, 7, 1), true);
        dueNoPlan(x);
        due("power 8", x.needs(-1, 8, 1), true);
        duePlan(x, 8, 1, 1, 1, 1, 1, 1, 1, 1);
    }

    @Says(at = "III", words = "THE PLAN: HOURS for all BINS as they NEED,")
    private static void aPlanIsForAll() {
        GrainHouse x = new GrainHouse();
        for (int h = 0; h < 12; h++) {
            x.hour(h, true, 0);
        }
        x.needs(7, 1, 12);
        duePlan(x, 0, 0, 0, 0, 0, 0, 0, 0, 1);
        x.needs(0, 3, 2);
        dueNoPlan(x);
        x.needs(0, 2, 2);
        duePlan(x, 0, 3, 0, 0, 0, 0, 0, 0, 1);
    }

    @Says(at = "III", words = "the COSTS together the least;")
    private static void thePlanOfLeastCosts() {
        GrainHouse x = dryIn(7);
        x.needs(-1, 1, 0);
        x.hour(1, true, 2);
        x.hour(2, true, 50);
        x.needs(0, 1, 12);
        duePlan(x, 1, 1);
        x.needs(1, 1, 1);
        duePlan(x, 3, 2, 1);
        x.needs(2, 1, 2);
        duePlan(x, 53, 4, 1, 2);
        x.hour(2, true, 0);
        x.needs(2, 0, 0);
        duePlan(x, 1, 4, 1);
    }

    @Says(at = "III", words = "of like ones the first by BIN 0's HOUR 0 (on is ahead of off), its HOUR 1, .., BIN 1's "
            + "HOUR 0, and so on.")
    private static void theFirstOfLikePlans() {
        GrainHouse x = dryIn(15);
        x.needs(-1, 1, 0);
        x.needs(0, 2, 12);
        x.needs(1, 2, 12);
        duePlan(x, 4, 3, 12);
        x.needs(1, 2, 3);
        duePlan(x, 4, 9, 6);
        x.needs(1, 2, 2);
        duePlan(x, 4, 12, 3);
        x.needs(-1, 2, 0);
        duePlan(x, 4, 3, 3);
        GrainHouse y = new GrainHouse();
        y.needs(-1, 1, 0);
        for (int bin = 0; bin < 8; bin++) {
            y.needs(bin, 1, 12);
        }
        duePlan(y, 8, 1, 2, 4, 8, 16, 32, 64, 128);
        y.needs(7, 1, 1);
        duePlan(y, 8, 2, 4, 8, 16, 32, 64, 128, 1);
        GrainHouse z = dryIn(7);
        z.hour(2, true, 0);
        z.needs(0, 2, 3);
        z.needs(1, 1, 3);
        z.needs(2, 1, 3);
        duePlan(z, 2, 3, 4, 4);
        z.needs(3, 1, 3);
        duePlan(z, 3, 3, 1, 4, 4);
        GrainHouse free = dryIn(0);
        for (int h = 0; h < 4; h++) {
            free.hour(h, true, 0);
        }
        free.needs(-1, 1, 0);
        free.needs(0, 2, 12);
        free.needs(1, 2, 3);
        duePlan(free, 0, 9, 6);
        free.needs(1, 1, 1);
        duePlan(free, 0, 6, 1);
        free.needs(2, 1, 3);
        duePlan(free, 0, 10, 1, 4);
    }

    // ---- Terms III: blends

    @Says(at = "III", words = "A BLEND of a KIND: whole tons (1000 kg),")
    private static void wholeTons() {
        GrainHouse x = new GrainHouse();
        x.load(0, 1, 999, 100, 0);
        due("999 kg", x.blend(1, 1, 1, 1000), -1);
        x.load(0, 1, 1, 100, 0);
        due("1000 kg", x.blend(1, 1, 1, 1000), 900000);
        x.load(0, 1, 999, 100, 0);
        due("1999 kg", x.blend(1, 1, 2, 1000), -1);
        x.load(0, 1, 999, 100, 1);
        due("not of two bins either", x.blend(1, 3, 2, 1000), -1);
        due("of another kind", x.blend(0, 1, 1, 1000), -1);
    }

    @Says(at = "III", words = "q together (1 .. 20),")
    private static void tonsTogether() {
        GrainHouse x = tons(21);
        due("0", x.blend(1, 1, 0, 1000), -1);
        due("-1", x.blend(1, 1, -1, 1000), -1);
        due("21", x.blend(1, 1, 21, 1000), -1);
        due("MIN", x.blend(1, 1, MIN, 1000), -1);
        due("MAX", x.blend(1, 1, MAX, 1000), -1);
        due("1", x.blend(1, 1, 1, 1000), 900000);
        dueBlend(x, 1);
        due("20", x.blend(1, 1, 20, 1000), 18000000);
        dueBlend(x, 20);
    }

    @Says(at = "III", words = "from up to four BINS of a set that have it")
    private static void fourBins() {
        GrainHouse x = new GrainHouse();
        for (int bin = 0; bin < 5; bin++) {
            x.load(0, bin == 2 ? 0 : 1, 1000, 100, bin);
        }
        due("all four", x.blend(1, 31, 4, 1000), 3600000);
        dueBlend(x, 1, 1, 0, 1, 1);
        due("three of the set", x.blend(1, 1 + 8 + 16, 4, 1000), -1);
        due("three", x.blend(1, 1 + 8 + 16, 3, 1000), 2700000);
        dueBlend(x, 1, 0, 0, 1, 1);
        due("one", x.blend(1, 16, 1, 1000), 900000);
        dueBlend(x, 0, 0, 0, 0, 1);
    }

    @Says(at = "III", words = "(each no more than it has),")
    private static void noMoreThanABinHas() {
        GrainHouse x = new GrainHouse();
        x.load(0, 1, 3999, 400, 0);
        x.load(0, 1, 4000, 100, 1);
        due("3 of bin 0 though it is wetter", x.blend(1, 3, 4, 1000), 3 * 600000 + 900000);
        dueBlend(x, 3, 1);
        due("all 7", x.blend(1, 3, 7, 1000), 3 * 600000 + 4 * 900000);
        dueBlend(x, 3, 4);
        due("8", x.blend(1, 3, 8, 1000), -1);
        x.load(0, 1, 1, 400, 0);
        due("8 then", x.blend(1, 3, 8, 1000), 6000000);
    }

    @Says(at = "III", words = "of MOIST m at most:")
    private static void moistAtMost() {
        GrainHouse x = tons(10, 10);
        due("its own moist", x.blend(1, 1, 1, 100), 900000);
        due("one less", x.blend(1, 1, 1, 99), -1);
        due("half of each", x.blend(1, 3, 2, 150), 1700000);
        dueBlend(x, 1, 1);
        due("one less", x.blend(1, 3, 2, 149), 1800000);
        dueBlend(x, 2);
        due("as wet as bin 1", x.blend(1, 3, 2, 200), 1600000);
        dueBlend(x, 0, 2);
        x.load(0, 1, 9, 101, 0);
        due("a little more than 100 is 101", x.blend(1, 1, 1, 100), -1);
        due("899999 of a ton", x.blend(1, 1, 1, 101), 899999);
    }

    @Says(at = "III", words = "reckoned as if TAKEN (each by itself).")
    private static void reckonedAsTaken() {
        GrainHouse x = new GrainHouse();
        for (int bin = 0; bin < 2; bin++) {
            x.load(0, 1, 1000, 0, bin);
            x.load(0, 1, 2, 400, bin);
        }
        due("1001200 * 1000 / 1002, cut", x.blend(1, 1, 1, 1000), 999201);
        due("each cut", x.blend(1, 3, 2, 1000), 1998402);
        GrainHouse y = new GrainHouse();
        y.load(0, 1, 2000, 0, 0);
        y.load(0, 1, 4, 400, 0);
        due("2002400 * 2000 / 2004, cut once", y.blend(1, 1, 2, 1000), 1998403);
        due("nothing is taken", y.dryIn(0), 2002400);
        due("nothing is taken", y.binOf(0, 1), 2004);
        GrainHouse z = new GrainHouse();
        z.leg(0, 1, 1);
        z.load(0, 1, 1334, 249, 0);
        z.dry(0, 1, 667, 0);
        z.dry(0, 1, 667, 0);
        due("1001834 in a ton is of moist 0", z.blend(1, 2, 1, 0), 1001834);
    }

    @Says(at = "III", words = "THE BEST: the wettest (the least DRY of all together),")
    private static void theWettest() {
        GrainHouse x = tons(20, 20, 20, 20);
        due("all of the wettest", x.blend(1, 15, 20, 1000), 12000000);
        dueBlend(x, 0, 0, 0, 20);
        due("not wetter than 399", x.blend(1, 15, 20, 399), 12100000);
        dueBlend(x, 0, 0, 1, 19);
        due("not wetter than 100", x.blend(1, 15, 20, 100), 18000000);
        dueBlend(x, 20);
    }

    @Says(at = "III", words = "of like ones that with the most of the lowest BIN, then the next.")
    private static void theMostOfTheLowest() {
        GrainHouse x = new GrainHouse();
        for (int bin = 4; bin < 8; bin++) {
            x.load(0, 1, 2000, 100, bin);
        }
        due("of like bins", x.blend(1, 240, 5, 100), 4500000);
        dueBlend(x, 0, 0, 0, 0, 2, 2, 1, 0);
        GrainHouse y = tons(9, 9, 9);
        due("1 and 1 of bins 0 and 2, not 2 of bin 1", y.blend(1, 7, 2, 200), 1600000);
        dueBlend(y, 1, 0, 1);
        due("2, 0, 2 and not 1, 2, 1 nor 0, 4, 0", y.blend(1, 7, 4, 200), 3200000);
        dueBlend(y, 2, 0, 2);
        y.ship(0, 8000);
        due("1, 2, 1 and not 0, 4, 0", y.blend(1, 7, 4, 200), 3200000);
        dueBlend(y, 1, 2, 1);
    }

    // ---- Promise 18

    @Says(at = "18", words = "An HOUR is dry or not, its COST: true.")
    private static void hourIsTrue() {
        GrainHouse x = new GrainHouse();
        x.needs(0, 1, 12);
        due("hour 0, wet", x.hour(0, false, 0), true);
        duePlan(x, 1, 2);
        due("hour 11, for nothing", x.hour(11, true, 0), true);
        duePlan(x, 0, 2048);
        due("hour 11, the dearest", x.hour(11, true, 99), true);
        duePlan(x, 1, 2);
        due("hour 0, dry again", x.hour(0, true, 1), true);
        duePlan(x, 1, 1);
    }

    @Says(at = "18", words = "False for others.")
    private static void hourOfOthers() {
        GrainHouse x = new GrainHouse();
        x.needs(0, 12, 12);
        due("hour -1", x.hour(-1, false, 0), false);
        due("hour 12", x.hour(12, false, 0), false);
        due("hour MIN", x.hour(MIN, false, 0), false);
        due("hour MAX", x.hour(MAX, false, 0), false);
        due("cost -1", x.hour(0, false, -1), false);
        due("cost 100", x.hour(0, false, 100), false);
        due("cost MIN", x.hour(0, false, MIN), false);
        due("cost MAX", x.hour(0, false, MAX), false);
        duePlan(x, 12, 4095);
    }

    // ---- Promise 19

    @Says(at = "19", words = "NEEDS of a BIN;")
    private static void needsOfTheFirstAndTheLastBin() {
        GrainHouse x = new GrainHouse();
        due("bin 0", x.needs(0, 12, 12), true);
        due("bin 7", x.needs(7, 3, 3), true);
        duePlan(x, 15, 4095, 0, 0, 0, 0, 0, 0, 7);
        due("bin 0 then", x.needs(0, 1, 12), true);
        duePlan(x, 4, 1, 0, 0, 0, 0, 0, 0, 7);
        due("bin 7, none", x.needs(7, 0, 0), true);
        duePlan(x, 1, 1);
    }

    @Says(at = "19", words = "POWER (bin NONE: as hours tells, ahead doesn't count): true.")
    private static void powerWhateverAheadIs() {
        GrainHouse x = new GrainHouse();
        due("1", x.needs(-1, 1, 13), true);
        due("power", x.about(13), 1);
        due("8", x.needs(-1, 8, -1), true);
        due("power", x.about(13), 8);
        due("5", x.needs(-1, 5, MIN), true);
        due("power", x.about(13), 5);
        due("6", x.needs(-1, 6, MAX), true);
        due("power", x.about(13), 6);
        duePlan(x, 0);
    }

    @Says(at = "19", words = "False for others.")
    private static void needsOfOthers() {
        GrainHouse x = new GrainHouse();
        x.needs(0, 2, 2);
        due("bin -2", x.needs(-2, 1, 1), false);
        due("bin 8", x.needs(8, 1, 1), false);
        due("bin MIN", x.needs(MIN, 1, 1), false);
        due("bin MAX", x.needs(MAX, 1, 1), false);
        due("hours -1", x.needs(0, -1, 12), false);
        due("hours 13", x.needs(0, 13, 12), false);
        due("hours MIN", x.needs(0, MIN, 12), false);
        due("hours MAX", x.needs(0, MAX, 12), false);
        due("ahead -1", x.needs(0, 1, -1), false);
        due("ahead 13", x.needs(0, 1, 13), false);
        due("ahead MIN", x.needs(0, 1, MIN), false);
        due("ahead MAX", x.needs(0, 1, MAX), false);
        due("power 0", x.needs(-1, 0, 0), false);
        due("power 9", x.needs(-1, 9, 0), false);
        due("power MIN", x.needs(-1, MIN, 0), false);
        due("power MAX", x.needs(-1, MAX, 0), false);
        due("power as it was", x.about(13), 2);
        duePlan(x, 2, 3);
    }

    // ---- Promises 20 and 21

    @Says(at = "20", words = "COSTS of THE PLAN.")
    private static void fansFromNothingToTheMost() {
        GrainHouse x = new GrainHouse();
        due("no needs", x.fans(), 0);
        x.needs(-1, 8, 0);
        for (int i = 0; i < 12; i++) {
            x.needs(i % 8, 12, 12);
            x.hour(i, true, 0);
        }
        due("all for nothing", x.fans(), 0);
        x.hour(11, true, 99);
        due("8 by 99", x.fans(), 792);
        due("asked again", x.fans(), 792);
    }

    @Says(at = "20", words = "NONE: there is none.")
    private static void fansWithoutAPlan() {
        GrainHouse x = new GrainHouse();
        x.needs(0, 1, 0);
        due("no hour is ahead of hour 0", x.fans(), -1);
        x.needs(0, 12, 12);
        x.needs(1, 12, 12);
        due("all power", x.fans(), 24);
        x.needs(2, 1, 12);
        due("no power is left", x.fans(), -1);
        x.needs(2, 0, 12);
        x.hour(6, false, 1);
        due("one hour too few", x.fans(), -1);
        x.hour(6, true, 1);
        due("enough again", x.fans(), 24);
    }

    @Says(at = "21", words = "HOURS of a BIN in THE PLAN (a set of bits).")
    private static void fansOfFirstAndLastHour() {
        GrainHouse x = dryIn(1 << 11 | 1);
        x.needs(7, 1, 12);
        due("hour 0 is bit 0", x.fansOf(7), 1);
        x.needs(7, 2, 12);
        due("hour 11 is bit 11", x.fansOf(7), 2049);
        due("a bin without needs", x.fansOf(0), 0);
        x.needs(7, 1, 12);
        x.hour(11, true, 0);
        due("not asked for its cost before", x.fansOf(7), 2048);
    }

    @Says(at = "21", words = "NONE for others,")
    private static void fansOfOthers() {
        GrainHouse x = new GrainHouse();
        due("bin -1", x.fansOf(-1), -1);
        due("bin 8", x.fansOf(8), -1);
        due("bin MIN", x.fansOf(MIN), -1);
        due("bin MAX", x.fansOf(MAX), -1);
    }

    @Says(at = "21", words = "and without.")
    private static void fansOfWithoutAPlan() {
        GrainHouse x = new GrainHouse();
        x.needs(0, 1, 12);
        due("with a plan", x.fansOf(0), 1);
        x.needs(7, 1, 0);
        dueNoPlan(x);
        x.needs(7, 1, 1);
        duePlan(x, 2, 1, 0, 0, 0, 0, 0, 0, 1);
    }

    // ---- Promise 22

    @Says(at = "22", words = "DRY of THE BEST BLEND (set 0 .. 255, moist 0 .. 1000), all together.")
    private static void blendOfWholeSets() {
        GrainHouse x = new GrainHouse();
        x.load(0, 0, 20000, 0, 0);
        x.load(0, 0, 20000, 400, 7);
        due("set 255", x.blend(0, 255, 20, 1000), 12000000);
        dueBlend(x, 0, 0, 0, 0, 0, 0, 0, 20);
        due("moist 0", x.blend(0, 255, 20, 0), 20000000);
        dueBlend(x, 20);
        due("set 128", x.blend(0, 128, 1, 1000), 600000);
        due("set 127", x.blend(0, 127, 1, 1000), 1000000);
        due("all together", x.blend(0, 129, 2, 200), 1600000);
    }

    @Says(at = "22", words = "NONE: others,")
    private static void blendOfOthers() {
        GrainHouse x = tons(20);
        due("kind -1", x.blend(-1, 1, 1, 1000), -1);
        due("kind 4", x.blend(4, 1, 1, 1000), -1);
        due("kind MAX", x.blend(MAX, 1, 1, 1000), -1);
        due("set -1", x.blend(1, -1, 1, 1000), -1);
        due("set 256", x.blend(1, 256, 1, 1000), -1);
        due("set 257", x.blend(1, 257, 1, 1000), -1);
        due("set MIN + 1", x.blend(1, MIN + 1, 1, 1000), -1);
        due("set MAX", x.blend(1, MAX, 1, 1000), -1);
        due("q 0", x.blend(1, 1, 0, 1000), -1);
        due("q 21", x.blend(1, 1, 21, 1000), -1);
        due("moist -1", x.blend(1, 1, 1, -1), -1);
        due("moist 1001", x.blend(1, 1, 1, 1001), -1);
        due("moist MIN", x.blend(1, 1, 1, MIN), -1);
        due("moist MAX", x.blend(1, 1, 1, MAX), -1);
        due("none was told", x.blended(0), -1);
        GrainHouse y = new GrainHouse();
        y.leg(0, 1, 1);
        y.load(0, 1, 1334, 249, 0);
        y.dry(0, 1, 667, 0);
        y.dry(0, 1, 667, 0);
        due("moist -1, though a ton has more than 1001 kg of dry", y.blend(1, 2, 1, -1), -1);
    }

    @Says(at = "22", words = "none of the BINS has the KIND,")
    private static void blendOfAKindThatIsNotThere() {
        GrainHouse x = new GrainHouse();
        due("empty bins", x.blend(0, 255, 1, 1000), -1);
        x.load(0, 1, 1000, 0, 3);
        due("another kind", x.blend(0, 255, 1, 1000), -1);
        due("not in the set", x.blend(1, 255 - 8, 1, 1000), -1);
        due("set 0", x.blend(1, 0, 1, 1000), -1);
        due("in the set", x.blend(1, 8, 1, 1000), 1000000);
        x.ship(3, 1000);
        due("no longer", x.blend(1, 8, 1, 1000), -1);
    }

    @Says(at = "22", words = "more than four in the set that have it,")
    private static void blendOfFive() {
        GrainHouse x = tons(1, 1, 1, 1);
        due("four", x.blend(1, 255, 1, 1000), 600000);
        x.load(0, 1, 1, 0, 7);
        due("a fifth of one kg", x.blend(1, 255, 1, 1000), -1);
        due("a fifth that is not in the set", x.blend(1, 127, 1, 1000), 600000);
        due("four of five", x.blend(1, 255 - 8, 1, 1000), 700000);
        x.ship(7, 1);
        due("a fifth that was emptied", x.blend(1, 255, 1, 1000), 600000);
        x.load(0, 2, 1000, 0, 7);
        due("a fifth of another kind", x.blend(1, 255, 1, 1000), 600000);
        GrainHouse y = tons(1, 1, 1, 1);
        for (int bin = 4; bin < 8; bin++) {
            y.load(0, 1, 1000, 0, bin);
        }
        due("all eight", y.blend(1, 255, 1, 1000), -1);
    }

    @Says(at = "22", words = "or there is none such.")
    private static void blendThatIsNot() {
        GrainHouse x = tons(3, 3);
        due("6 tons", x.blend(1, 3, 6, 150), 5100000);
        due("too many tons", x.blend(1, 3, 7, 1000), -1);
        due("too wet", x.blend(1, 3, 6, 149), -1);
        due("too wet by far", x.blend(1, 3, 1, 0), -1);
        due("3 dry ones", x.blend(1, 3, 3, 100), 2700000);
        due("4 are too wet", x.blend(1, 3, 4, 100), -1);
        GrainHouse y = tons(3, 3, 3, 3);
        due("all 12 of four bins", y.blend(1, 15, 12, 250), 9000000);
        due("too wet", y.blend(1, 15, 12, 249), -1);
        due("13", y.blend(1, 15, 13, 1000), -1);
        due("one that is too wet", y.blend(1, 15, 1, 99), -1);
    }

    // ---- Promise 23

    @Says(at = "23", words = "Tons of a BIN in the latest blend() that told a DRY.")
    private static void blendedIsOfTheLatestThatTold() {
        GrainHouse x = tons(3, 3);
        x.blend(1, 3, 4, 1000);
        dueBlend(x, 1, 3);
        x.blend(1, 3, 7, 1000);
        x.blend(1, 3, 1, 0);
        x.blend(0, 3, 1, 1000);
        x.blend(1, 3, 21, 1000);
        dueBlend(x, 1, 3);
        x.ship(0, 3000);
        dueBlend(x, 1, 3);
        x.blend(1, 2, 2, 1000);
        dueBlend(x, 0, 2);
    }

    @Says(at = "23", words = "NONE for others,")
    private static void blendedOfOthers() {
        GrainHouse x = tons(3, 3);
        x.blend(1, 3, 4, 1000);
        due("bin -1", x.blended(-1), -1);
        due("bin 8", x.blended(8), -1);
        due("bin MIN", x.blended(MIN), -1);
        due("bin MAX", x.blended(MAX), -1);
        due("a bin that gave none", x.blended(7), 0);
    }

    @Says(at = "23", words = "and ahead of any.")
    private static void blendedAheadOfAny() {
        GrainHouse x = tons(3);
        for (int bin = 0; bin < 8; bin++) {
            due("bin " + bin, x.blended(bin), -1);
        }
        x.blend(1, 1, 4, 1000);
        for (int bin = 0; bin < 8; bin++) {
            due("bin " + bin + " behind one that told none", x.blended(bin), -1);
        }
    }
}

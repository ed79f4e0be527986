/** The part Terms, sentence by sentence: each boundary that one names, at it and on both sides of it. */
final class TermsEdgesTest {
    private static final Check CHECK = new Check("TermsEdgesTest");

    public static void main(String[] args) {
        usedFor512Calls();
        atMostTenPieces();
        nothingAtFirst();
        portageHasSnowAlone();
        halfOfTheWhiteIce();
        bearsAsDoublesInThisOrder();
        hundredOfSnow();
        sixtyThousandOnAPortage();
        dayEndsByMinutes();
        coldIsNoneAtFirst();
        coldAsItIsThen();
        coldAboveAndBelowNothing();
        waterThatFreezes();
        growthIsRoundedDown();
        riverGrowsLess();
        cracksByCold();
        cracksWithoutIce();
        meltsInOrder();
        knownMeltsToo();
        atMostSixteenVehicles();
        waveEdges();
        minutesAreRoundedUp();
        leavesInItsMinute();
        wearIsRoundedDown();
        unloadedAtBothEnds();
        dayReasonEdges();
        lightEdges();
        gapEdges();
        narrowInBothDirections();
        weightEdges();
        breakingEdges();
        brokenFromEachState();
        brokenOnTheSecondPiece();
        firstNumbersFirst();
        stockHasNoEnd();
        moreThanOrdered();
        CHECK.end();
    }

    private static int where(Icehighway road, int vehicle) {
        return road.ofVehicle(vehicle, 0);
    }

    private static void day(Icehighway road, int cold) {
        road.weather(cold);
        road.pass(1440);
    }

    private static Icehighway one(int kind) {
        Icehighway road = new Icehighway();
        road.piece(kind, 600, 999);
        return road;
    }

    /** A lake or river, drilled and open, which bears so much, WHOLE; a day begins, its cold is 0. */
    private static Icehighway bearing6723(int kind) {
        Icehighway road = one(kind);
        if (kind == Icehighway.LAKE) {
            day(road, 50);
            day(road, 12);
        } else {
            day(road, 51);
            day(road, 6);
            day(road, 10);
            melt(road, road.told(0, 0) - 410);
        }
        road.weather(0);
        road.drill(0);
        road.open(0, Icehighway.FULL);
        road.gap(0);
        return road;
    }

    /** So much of the black ice away, by days of thaw and just so much snow. */
    private static void melt(Icehighway road, int less) {
        if (less > 0) {
            road.snow(6 * 20 - less);
            day(road, -20);
        }
    }

    // "An object is used for at most 512 calls after it has been made"

    private static void usedFor512Calls() {
        Icehighway road = one(Icehighway.LAKE);
        road.vehicle(500, 60000, 1);
        int calls = 2;
        int loads = 0;
        while (calls + 3 <= 510) {
            loads++;
            CHECK.same("load " + loads, road.load(0, 1, 60000), 60500);
            road.go(0);
            road.turn(0);
            calls += 3;
        }
        CHECK.same("as many loads as fit", loads, 169);
        CHECK.same("call 510", road.kilosAnew(1), 0);
        CHECK.same("call 511", road.load(0, 1, 1), 501);
        CHECK.same("call 512", road.kilosAnew(1), 1);
    }

    // "Pieces are numbered from 0, at most 10"

    private static void atMostTenPieces() {
        Icehighway road = new Icehighway();
        for (int i = 0; i < 10; i++) {
            CHECK.outside(road, "no piece " + i + " yet", () -> road.plough(Check.pieces(road)));
            CHECK.same("piece " + i, road.piece(i % 3, 100, 100), i);
        }
        CHECK.untimely(road, "an eleventh", () -> road.piece(0, 100, 100));
        CHECK.same("the last is there", road.told(9, 6), 100);
        CHECK.outside(road, "piece 10", () -> road.told(10, 6));
        CHECK.same("snow on ten", road.snow(1), 10);
        road.vehicle(500, 0, 300);
        road.snow(500);
        road.weather(39);
        for (int i = 0; i < 10; i++) {
            road.open(i, Icehighway.FULL);
        }
        for (int d = 0; d < 90; d++) {
            road.pass(1440);
        }
        for (int i = 0; i < 10; i++) {
            road.drill(i);
        }
        road.go(0);
        road.pass(10);
        CHECK.same("on the tenth", road.ofVehicle(0, 4), 9);
        CHECK.same("it is on it", where(road, 0), Icehighway.ON);
        road.pass(1);
        CHECK.same("behind the tenth", road.ofVehicle(0, 4), 10);
        CHECK.same("at the mine", where(road, 0), Icehighway.MINE);
    }

    // "each in millimetres, 0 at first", "CLOSED 0 at first", "known is 0.0 at first", "100 at first"

    private static void nothingAtFirst() {
        for (int kind = 0; kind <= 2; kind++) {
            Icehighway road = one(kind);
            int[] due = {0, 0, 0, 0, Icehighway.WHOLE, Icehighway.CLOSED, 100, 0};
            for (int what = 0; what < due.length; what++) {
                CHECK.same("at first, told " + what, road.told(0, what), due[what]);
            }
            CHECK.same("known at first", road.thickness(0, true), 0.0);
            CHECK.same("thick at first", road.thickness(0, false), 0.0);
            CHECK.same("bears at first, as is known", road.bears(0, true), 0);
            CHECK.same("bears at first, really", road.bears(0, false), 0);
        }
    }

    // "a portage has snow alone"

    private static void portageHasSnowAlone() {
        Icehighway road = one(Icehighway.PORTAGE);
        road.snow(5);
        day(road, 60);
        CHECK.untimely(road, "flooded", () -> road.flood(0, 1));
        CHECK.same("drilled", road.drill(0), 0.0);
        for (int what = 0; what <= 2; what++) {
            CHECK.same("of a portage " + what, road.told(0, what), 0);
        }
        CHECK.same("snow stays", road.told(0, 3), 5);
        CHECK.same("not cracked", road.told(0, 4), Icehighway.WHOLE);
        day(road, -1);
        CHECK.same("snow melts, no further", road.told(0, 3), 0);
        CHECK.same("known", road.thickness(0, true), 0.0);
        CHECK.same("whole", road.told(0, 4), Icehighway.WHOLE);
    }

    // "black + 0.5 * white"

    private static void halfOfTheWhiteIce() {
        Icehighway road = one(Icehighway.LAKE);
        day(road, 10);
        road.flood(0, 3);
        road.snow(500);
        day(road, 1);
        CHECK.same("2 of white", road.thickness(0, false), 81.0);
        day(road, 1);
        CHECK.same("3 of white", road.thickness(0, false), 81.5);
        CHECK.same("3 of white, drilled", road.drill(0), 81.5);
        CHECK.same("0.04 by 81.5 by 81.5 is 265.69", road.bears(0, true), 265);
    }

    // "0.04 times the thickness times the thickness, times 1.0 .. 0.75 .. 0.5, as doubles in this order"

    private static void bearsAsDoublesInThisOrder() {
        Icehighway whole = one(Icehighway.LAKE);
        day(whole, 50);
        day(whole, 12);
        CHECK.same("healed", whole.told(0, 4), Icehighway.WHOLE);
        CHECK.same("410, whole", whole.drill(0), 410.0);
        CHECK.same("410 bears 6723, not 6724", whole.bears(0, false), 6723);
        CHECK.same("410 bears 6723, as is known", whole.bears(0, true), 6723);
        Icehighway dry = one(Icehighway.LAKE);
        day(dry, 51);
        day(dry, 3);
        CHECK.same("dry", dry.told(0, 4), Icehighway.DRY);
        CHECK.same("410, dry", dry.drill(0), 410.0);
        CHECK.same("410 bears 5042, not 5043", dry.bears(0, false), 5042);
        CHECK.same("410 bears 5042, as is known", dry.bears(0, true), 5042);
        Icehighway wet = one(Icehighway.LAKE);
        day(wet, 52);
        wet.drill(0);
        day(wet, -1);
        CHECK.same("wet", wet.told(0, 4), Icehighway.WET);
        CHECK.same("410, wet", wet.thickness(0, false), 410.0);
        CHECK.same("410 bears 3361, not 3362", wet.bears(0, false), 3361);
        CHECK.same("410 bears 3361, as is known", wet.bears(0, true), 3361);
    }

    // "A portage bears 60000, if it has 100 of snow at least, otherwise 0, as is known and really"

    private static void hundredOfSnow() {
        Icehighway road = one(Icehighway.PORTAGE);
        int[] snow = {0, 1, 99, 100, 101, 600};
        int[] due = {0, 0, 0, 60000, 60000, 60000};
        for (int i = 0; i < snow.length; i++) {
            if (snow[i] > road.told(0, 3)) {
                road.snow(snow[i] - road.told(0, 3));
            }
            CHECK.same("known with " + snow[i], road.bears(0, true), due[i]);
            CHECK.same("really with " + snow[i], road.bears(0, false), due[i]);
        }
        road.plough(0);
        CHECK.same("ploughed", road.bears(0, false), 0);
    }

    private static void sixtyThousandOnAPortage() {
        Icehighway road = Check.land(600);
        road.vehicle(40000, 20001, 100);
        road.load(0, 0, 20001);
        road.go(0);
        CHECK.same("60001", road.why(0), 6);
        road.turn(0);
        road.load(0, 0, 20000);
        road.go(0);
        CHECK.same("60000", road.why(0), 0);
        road.pass(1);
        CHECK.same("60000 does not break through", where(road, 0), Icehighway.ON);
        road.plough(0);
        road.pass(1);
        CHECK.same("nor later, without snow", where(road, 0), Icehighway.MINE);
    }

    // "a day has 1440", "when a minute divisible by 1440 comes"

    private static void dayEndsByMinutes() {
        Icehighway road = one(Icehighway.LAKE);
        road.weather(5);
        road.pass(1);
        CHECK.same("not at the start", road.told(0, 0), 0);
        road.pass(1438);
        CHECK.same("1439", road.told(0, 0), 0);
        road.pass(1);
        CHECK.same("1440", road.told(0, 0), 40);
        road.pass(1);
        CHECK.same("1441", road.told(0, 0), 40);
        road.pass(1438);
        CHECK.same("2879", road.told(0, 0), 40);
        road.pass(1);
        CHECK.same("2880: 2000 by 90", road.told(0, 0), 62);
        Icehighway long3000 = one(Icehighway.LAKE);
        long3000.weather(5);
        long3000.pass(3000);
        CHECK.same("two ends in one pass", long3000.told(0, 0), 62);
        Icehighway three = one(Icehighway.LAKE);
        three.pass(1439);
        three.weather(5);
        three.pass(2882);
        CHECK.same("three ends, from 1439 to 4321", three.told(0, 0), 62 + 2000 / 112);
    }

    // "a cold, in degrees below freezing, -20 to 60, 0 at first"

    private static void coldIsNoneAtFirst() {
        Icehighway road = one(Icehighway.LAKE);
        road.snow(9);
        road.pass(3000);
        CHECK.same("no ice", road.told(0, 0), 0);
        CHECK.same("no melting", road.told(0, 3), 9);
        CHECK.same("the cold", road.weather(0), 0);
    }

    // "as it was told last", "by the cold as it is then"

    private static void coldAsItIsThen() {
        Icehighway road = one(Icehighway.LAKE);
        road.weather(60);
        road.pass(1439);
        road.weather(-20);
        road.weather(2);
        road.pass(1);
        CHECK.same("by 2 alone", road.told(0, 0), 16);
        road.weather(60);
        CHECK.same("not anew within the day", road.told(0, 0), 16);
        Icehighway refused = one(Icehighway.LAKE);
        refused.weather(3);
        CHECK.unfit(refused, "61", () -> refused.weather(61));
        CHECK.unfit(refused, "-21", () -> refused.weather(-21));
        refused.pass(1440);
        CHECK.same("what was refused is not told", refused.told(0, 0), 24);
    }

    // "above 0, on each water piece", "below 0, on each piece"

    private static void coldAboveAndBelowNothing() {
        Icehighway road = one(Icehighway.LAKE);
        road.piece(Icehighway.RIVER, 600, 999);
        road.piece(Icehighway.PORTAGE, 600, 999);
        day(road, 1);
        CHECK.same("1 freezes a lake", road.told(0, 0), 8);
        CHECK.same("1 freezes a river", road.told(1, 0), 6);
        CHECK.same("1 freezes no portage", road.told(2, 0), 0);
        road.flood(0, 9);
        road.snow(10);
        day(road, 0);
        CHECK.same("0 freezes no water", road.told(0, 2), 9);
        CHECK.same("0 grows nothing", road.told(1, 0), 6);
        for (int p = 0; p < 3; p++) {
            CHECK.same("0 melts nothing on " + p, road.told(p, 3), 10);
        }
        day(road, -1);
        for (int p = 0; p < 3; p++) {
            CHECK.same("-1 melts 6 on " + p, road.told(p, 3), 4);
        }
        day(road, -20);
        CHECK.same("-20: 4 of the snow, all of the ice", road.told(0, 0), 0);
        CHECK.same("water does not melt away", road.told(0, 2), 9);
    }

    // "as much as 2 for each degree, at most what is there", "if no water is left"

    private static void waterThatFreezes() {
        int[] water = {1, 39, 40, 41, 100};
        for (int w : water) {
            Icehighway road = one(Icehighway.LAKE);
            day(road, 30);
            road.flood(0, w);
            day(road, 20);
            int frozen = w < 40 ? w : 40;
            CHECK.same("white of " + w, road.told(0, 1), frozen);
            CHECK.same("left of " + w, road.told(0, 2), w - frozen);
            int grown = w <= 40 ? 8000 / (240 + frozen + 50) : 0;
            CHECK.same("black below " + w, road.told(0, 0), 240 + grown);
        }
        Icehighway most = one(Icehighway.LAKE);
        day(most, 30);
        for (int i = 0; i < 5; i++) {
            most.flood(0, 100);
        }
        day(most, 60);
        CHECK.same("120 at once", most.told(0, 1), 120);
        CHECK.same("380 left", most.told(0, 2), 380);
    }

    // "divided by black ice, white ice, 4 times the snow and 50, all together, rounded down"

    private static void growthIsRoundedDown() {
        int[] snow = {0, 1, 12, 13, 87, 88, 500};
        for (int s : snow) {
            Icehighway road = one(Icehighway.LAKE);
            if (s > 0) {
                road.snow(s);
            }
            day(road, 1);
            CHECK.same("400 by 50 and 4 by " + s, road.told(0, 0), 400 / (50 + 4 * s));
        }
        Icehighway road = one(Icehighway.LAKE);
        day(road, 60);
        CHECK.same("24000 by 50", road.told(0, 0), 480);
        road.snow(500);
        day(road, 6);
        CHECK.same("2400 by 2530 is none", road.told(0, 0), 480);
        day(road, 7);
        CHECK.same("2800 by 2530 is 1", road.told(0, 0), 481);
    }

    // "a river's by 2 less, but not below 0"

    private static void riverGrowsLess() {
        // Snow of so much lets a lake grow by 0, 1, 2, 3 in a cold of 1.
        int[] snow = {100, 87, 37, 20};
        int[] lake = {0, 1, 2, 3};
        int[] river = {0, 0, 0, 1};
        for (int i = 0; i < snow.length; i++) {
            Icehighway road = one(Icehighway.LAKE);
            road.piece(Icehighway.RIVER, 600, 999);
            road.snow(snow[i]);
            day(road, 1);
            CHECK.same("a lake grows by", road.told(0, 0), lake[i]);
            CHECK.same("a river grows by", road.told(1, 0), river[i]);
        }
    }

    // "with a cold of 40 or more, a WHOLE one is cracked DRY; with one from 10 to 39 a WET one is DRY, a DRY one
    // WHOLE", "A DRY one is WET then"

    private static void cracksWithoutIce() {
        int[] colds = {39, 40};
        for (int cold : colds) {
            Icehighway road = one(Icehighway.LAKE);
            for (int i = 0; i < 8; i++) {
                road.snow(500);
            }
            day(road, cold);
            CHECK.same("400 by " + cold + " by 16050 is none", road.told(0, 0), 0);
            CHECK.same("cracked by " + cold, road.told(0, 4), cold == 40 ? Icehighway.DRY : Icehighway.WHOLE);
        }
    }

    private static void cracksByCold() {
        int[] colds = {60, 41, 40, 39, 38, 11, 10, 9, 1, 0, -1, -20};
        int[] ofWhole = {1, 1, 1, 0, 0, 0, 0, 0, 0, 0, 0, 0};
        int[] ofDry = {1, 1, 1, 0, 0, 0, 0, 1, 1, 1, 2, 2};
        int[] ofWet = {2, 2, 2, 1, 1, 1, 1, 2, 2, 2, 2, 2};
        int[][] due = {ofWhole, ofDry, ofWet};
        for (int kind = Icehighway.LAKE; kind <= Icehighway.RIVER; kind++) {
            for (int from = Icehighway.WHOLE; from <= Icehighway.WET; from++) {
                for (int i = 0; i < colds.length; i++) {
                    Icehighway road = cracked(kind, from);
                    day(road, colds[i]);
                    CHECK.same("from " + from + " by " + colds[i], road.told(0, 4), due[from][i]);
                }
            }
        }
    }

    private static Icehighway cracked(int kind, int how) {
        Icehighway road = one(kind);
        day(road, how == Icehighway.WHOLE ? 39 : 60);
        if (how == Icehighway.WET) {
            day(road, -1);
        }
        return road;
    }

    // "6 for each degree melts: of the snow, then of the white ice, then of the black ice, as far as there is
    // something"

    private static void meltsInOrder() {
        // A day of -1 melts 6 of: snow, white ice, black ice.
        int[][] before = {{7, 4}, {6, 4}, {5, 4}, {2, 4}, {1, 4}, {0, 6}, {0, 5}, {0, 0}, {6, 0}};
        int[][] after = {
            {1, 4, 0}, {0, 4, 0}, {0, 3, 0}, {0, 0, 0}, {0, 0, 1}, {0, 0, 0}, {0, 0, 1}, {0, 0, 6}, {0, 0, 0}};
        for (int i = 0; i < before.length; i++) {
            Icehighway road = one(Icehighway.LAKE);
            day(road, 10);
            if (before[i][1] > 0) {
                road.flood(0, before[i][1]);
                day(road, 10);
            }
            int black = road.told(0, 0);
            if (before[i][0] > 0) {
                road.snow(before[i][0]);
            }
            day(road, -1);
            CHECK.same("snow, case " + i, road.told(0, 3), after[i][0]);
            CHECK.same("white, case " + i, road.told(0, 1), after[i][1]);
            CHECK.same("black less, case " + i, black - road.told(0, 0), after[i][2]);
        }
        Icehighway thin = one(Icehighway.RIVER);
        day(thin, 1);
        CHECK.same("6 of black", thin.told(0, 0), 6);
        day(thin, -1);
        CHECK.same("just all", thin.told(0, 0), 0);
        day(thin, -1);
        CHECK.same("there is nothing", thin.told(0, 0), 0);
        Icehighway few = one(Icehighway.RIVER);
        few.snow(20);
        day(few, 1);
        few.plough(0);
        day(few, -20);
        CHECK.same("1 of black, by 120", few.told(0, 0), 0);
    }

    // "the thickness that is known becomes less by the black ice and half of the white ice that melts, but not below
    // 0.0"

    private static void knownMeltsToo() {
        Icehighway road = one(Icehighway.LAKE);
        day(road, 3);
        CHECK.same("24", road.drill(0), 24.0);
        day(road, 10);
        CHECK.same("24 and 4000 by 74", road.told(0, 0), 78);
        road.snow(6);
        day(road, -1);
        CHECK.same("snow alone", road.thickness(0, true), 24.0);
        day(road, -3);
        CHECK.same("6", road.thickness(0, true), 6.0);
        day(road, -1);
        CHECK.same("just 0.0", road.thickness(0, true), 0.0);
        day(road, -1);
        CHECK.same("not below 0.0", road.thickness(0, true), 0.0);
        CHECK.same("it has more", road.thickness(0, false), 48.0);
        Icehighway white = one(Icehighway.LAKE);
        day(white, 1);
        white.drill(0);
        white.flood(0, 17);
        day(white, 10);
        CHECK.same("17 of white", white.told(0, 1), 17);
        day(white, -2);
        CHECK.same("8 less the half of 12", white.thickness(0, true), 2.0);
        CHECK.same("5 of white are left", white.told(0, 1), 5);
        day(white, -1);
        CHECK.same("half of 5, and 1, are more than 2", white.thickness(0, true), 0.0);
        Icehighway less = one(Icehighway.RIVER);
        day(less, 2);
        CHECK.same("14", less.drill(0), 14.0);
        day(less, -20);
        CHECK.same("by what melts alone, not by 120", less.thickness(0, true), 0.0);
        CHECK.same("drilled at nothing", less.drill(0), 0.0);
    }

    // "Vehicles are numbered from 0, at most 16"

    private static void atMostSixteenVehicles() {
        Icehighway road = Check.land(600);
        for (int i = 0; i < 16; i++) {
            CHECK.same("vehicle " + i, road.vehicle(500, 1, 100), i);
        }
        CHECK.untimely(road, "a 17th", () -> road.vehicle(500, 1, 100));
        CHECK.outside(road, "vehicle 16", () -> road.go(16));
        road.gap(0);
        for (int i = 0; i < 16; i++) {
            CHECK.same("go " + i, road.go(i), true);
        }
        road.pass(1);
        CHECK.same("all are on it", road.told(0, 7), 16);
        road.pass(1);
        CHECK.same("the last is at the mine", where(road, 15), Icehighway.MINE);
        CHECK.same("none is on it", road.told(0, 7), 0);
    }

    // "above 0.8 * 98.0 * depth and below 1.2 * 98.0 * depth, as doubles"

    private static void waveEdges() {
        // Depths at which a square is just 0.8 or 1.2 times 98.0 times the depth.
        int[][] lower = {{10, 28}, {40, 56}, {90, 84}, {160, 112}, {250, 140}, {490, 196}, {640, 224}, {810, 252}};
        for (int[] edge : lower) {
            CHECK.same("just the lower edge, " + edge[0], speedAt(0, edge[0], edge[1]), edge[1]);
            CHECK.same("1 above it, " + edge[0], speedAt(1, edge[0], edge[1] + 1), edge[1]);
            CHECK.same("1 below it, " + edge[0], speedAt(0, edge[0], edge[1] - 1), edge[1] - 1);
        }
        int[][] upper = {{15, 42, 34}, {60, 84, 68}, {135, 126, 102}, {240, 168, 137}, {735, 294, 240}};
        for (int[] edge : upper) {
            CHECK.same("just the upper edge, " + edge[0], speedAt(0, edge[0], edge[1]), edge[1]);
            CHECK.same("1 above it, " + edge[0], speedAt(1, edge[0], edge[1] + 1), edge[1] + 1);
            CHECK.same("1 below it, " + edge[0], speedAt(0, edge[0], edge[1] - 1), edge[2]);
            CHECK.same("a portage, " + edge[0], speedAt(2, edge[0], edge[1] - 1), edge[1] - 1);
        }
        CHECK.same("depth 1, 8", speedAt(0, 1, 8), 8);
        CHECK.same("depth 1, 9", speedAt(0, 1, 9), 8);
        CHECK.same("depth 1, 10", speedAt(0, 1, 10), 8);
        CHECK.same("depth 1, 11", speedAt(0, 1, 11), 11);
    }

    /** By the vehicle's own speed once, by the limit once. */
    private static int speedAt(int kind, int depth, int speed) {
        Icehighway road = new Icehighway();
        road.piece(kind, 600, depth);
        road.limit(0, 300);
        road.vehicle(500, 0, speed);
        road.vehicle(500, 0, 300);
        int own = road.speed(0, 0);
        road.limit(0, speed);
        CHECK.same("by the limit as by its own", road.speed(1, 0), own);
        return own;
    }

    // "for the metres divided by 6 times the speed, rounded up, in minutes"

    private static void minutesAreRoundedUp() {
        int[] metres = {1, 299, 300, 301, 599, 600, 601, 19999, 20000};
        int[] due = {1, 1, 1, 2, 2, 2, 3, 67, 67};
        for (int i = 0; i < metres.length; i++) {
            Icehighway road = Check.land(metres[i]);
            road.vehicle(500, 0, 50);
            CHECK.same("minutes", road.minutes(0, 0), due[i]);
            CHECK.same("minutes anew", road.minutesAnew(0, 0), due[i]);
            road.go(0);
            road.pass(1);
            CHECK.same("the minute", road.ofVehicle(0, 6), 1 + due[i]);
        }
    }

    // "one whose minutes on a piece are over leaves it"

    private static void leavesInItsMinute() {
        Icehighway road = Check.land(20000);
        road.vehicle(500, 0, 1);
        road.go(0);
        road.pass(1);
        CHECK.same("the slowest", road.ofVehicle(0, 6), 3335);
        road.pass(3000);
        road.pass(333);
        CHECK.same("minute 3334", where(road, 0), Icehighway.ON);
        CHECK.same("still counted", road.told(0, 7), 1);
        road.pass(1);
        CHECK.same("minute 3335", where(road, 0), Icehighway.MINE);
        CHECK.same("its minute", road.ofVehicle(0, 6), Icehighway.NONE);
    }

    // "its black ice is less by the weight divided by 20000, rounded down, but not below 0"

    private static void wearIsRoundedDown() {
        int[] weights = {500, 19999, 20000, 39999, 40000, 59999, 60000, 100000};
        int[] due = {0, 0, 1, 1, 2, 2, 3, 5};
        for (int i = 0; i < weights.length; i++) {
            Icehighway road = one(Icehighway.LAKE);
            road.weather(39);
            for (int d = 0; d < 110; d++) {
                road.pass(1440);
            }
            road.weather(0);
            road.drill(0);
            road.open(0, Icehighway.FULL);
            int black = road.told(0, 0);
            road.vehicle(Math.min(weights[i], 40000), 60000, 100);
            if (weights[i] > 40000) {
                road.load(0, 0, weights[i] - 40000);
            }
            road.go(0);
            road.pass(1);
            CHECK.same("on it", where(road, 0), Icehighway.ON);
            CHECK.same("none while on it", road.told(0, 0), black);
            road.pass(1);
            CHECK.same("over it", where(road, 0), Icehighway.MINE);
            CHECK.same("wear of " + weights[i], black - road.told(0, 0), due[i]);
            CHECK.same("known is left", road.thickness(0, true), (double) black);
        }
    }

    // "behind the last piece it is at the mine, or at the base, where its load is unloaded, in both"

    private static void unloadedAtBothEnds() {
        Icehighway road = Check.land(600);
        road.piece(Icehighway.PORTAGE, 600, 1);
        road.snow(100);
        road.vehicle(500, 9, 100);
        road.load(0, 2, 9);
        road.go(0);
        road.pass(2);
        CHECK.same("between two", where(road, 0), Icehighway.RAMP);
        CHECK.same("not unloaded there", road.ofVehicle(0, 2), 9);
        CHECK.same("one behind", road.ofVehicle(0, 4), 1);
        road.turn(0);
        road.gap(0);
        road.pass(2);
        CHECK.same("at the base", where(road, 0), Icehighway.BASE);
        CHECK.same("unloaded at the base", road.ofVehicle(0, 2), 0);
        CHECK.same("none out", road.kilos(2, 0), 0);
        CHECK.same("none at the mine", road.kilos(2, 1), 0);
        CHECK.same("it can be loaded anew", road.load(0, 1, 8), 508);
        road.open(1, Icehighway.FULL);
        road.go(0);
        road.pass(3);
        CHECK.same("at the mine", where(road, 0), Icehighway.MINE);
        CHECK.same("unloaded at the mine", road.ofVehicle(0, 2), 0);
        CHECK.same("its goods", road.ofVehicle(0, 3), Icehighway.NONE);
        CHECK.same("at the mine, the kilos", road.kilos(1, 1), 8);
    }

    // "it is a water piece, the cold is below 0, and the minute of the day is 480 to 1199"

    private static void dayReasonEdges() {
        int[] minutes = {0, 1, 479, 480, 481, 1198, 1199, 1200, 1439};
        int[] due = {0, 0, 0, 2, 2, 2, 2, 0, 0};
        for (int kind = Icehighway.LAKE; kind <= Icehighway.PORTAGE; kind++) {
            Icehighway road = kind == Icehighway.PORTAGE ? Check.land(600) : bearing6723(kind);
            road.gap(0);
            road.open(0, Icehighway.CLOSED);
            road.pass(1440 - road.minute() % 1440);
            road.vehicle(500, 0, 100);
            road.go(0);
            road.weather(-1);
            for (int i = 0; i < minutes.length; i++) {
                if (i > 0) {
                    road.pass(minutes[i] - minutes[i - 1]);
                }
                road.open(0, Icehighway.FULL);
                int thaws = kind == Icehighway.PORTAGE ? 0 : due[i];
                CHECK.same("kind " + kind + ", minute " + minutes[i], road.why(0), thaws);
                road.weather(0);
                CHECK.same("kind " + kind + ", cold 0", road.why(0), 0);
                road.weather(-1);
                road.open(0, Icehighway.CLOSED);
            }
        }
    }

    // "it is LIGHT, and the weight above 5000"

    private static void lightEdges() {
        for (int kind = Icehighway.LAKE; kind <= Icehighway.PORTAGE; kind++) {
            Icehighway road = kind == Icehighway.PORTAGE ? Check.land(600) : bearing6723(kind);
            road.open(0, Icehighway.LIGHT);
            road.vehicle(4000, 1001, 100);
            int[] loads = {999, 1000, 1001};
            int[] due = {0, 0, 3};
            for (int i = 0; i < loads.length; i++) {
                road.load(0, 0, loads[i]);
                road.go(0);
                CHECK.same("kind " + kind + ", 4000 and " + loads[i], road.why(0), due[i]);
                road.turn(0);
            }
        }
    }

    // "less than so many minutes ago as the gap tells, 5 at first"

    private static void gapEdges() {
        int[] gaps = {0, 1, 2, 5, 119, 120};
        for (int gap : gaps) {
            Icehighway road = Check.land(20000);
            if (gap != 5) {
                road.gap(gap);
            }
            road.vehicle(500, 0, 100);
            road.vehicle(500, 0, 100);
            road.go(0);
            road.pass(1);
            road.go(1);
            CHECK.same("0 ago, gap " + gap, road.why(1), gap > 0 ? 4 : 0);
            if (gap > 1) {
                road.pass(gap - 1);
                CHECK.same("1 less than the gap " + gap, road.why(1), 4);
                CHECK.same("stands at the gap " + gap, where(road, 1), Icehighway.RAMP);
            }
            road.pass(1);
            CHECK.same("just the gap " + gap, where(road, 1), Icehighway.ON);
        }
    }

    // "it is a river or a portage, and one that goes the other way is on it"

    private static void narrowInBothDirections() {
        for (int kind = Icehighway.LAKE; kind <= Icehighway.PORTAGE; kind++) {
            int due = kind == Icehighway.LAKE ? 0 : 5;
            Icehighway road = kind == Icehighway.PORTAGE ? Check.land(600) : bearing6723(kind);
            road.gap(0);
            road.vehicle(500, 0, 100);
            road.vehicle(500, 0, 50);
            road.vehicle(500, 0, 100);
            road.go(0);
            road.pass(2);
            CHECK.same("one is at the mine", where(road, 0), Icehighway.MINE);
            road.go(1);
            road.pass(1);
            CHECK.same("one goes to the mine", where(road, 1), Icehighway.ON);
            road.go(0);
            road.go(2);
            CHECK.same("kind " + kind + ", against it", road.why(0), due);
            CHECK.same("kind " + kind + ", with it", road.why(2), 0);
            road.turn(2);
            road.pass(1);
            CHECK.same("it stands or comes", where(road, 0), due == 5 ? Icehighway.RAMP : Icehighway.ON);
            road.pass(1);
            CHECK.same("the one is over", where(road, 1), Icehighway.MINE);
            // Of the lesser number, it looked ahead of the other's leaving.
            CHECK.same("too early, or home", where(road, 0), due == 5 ? Icehighway.RAMP : Icehighway.BASE);
            CHECK.same("nothing is against it now", road.why(0), due == 5 ? 0 : Icehighway.NONE);
            road.pass(1);
            road.go(2);
            CHECK.same("kind " + kind + ", against one to the base", road.why(2), due);
        }
    }

    // "the weight and the weights of all that are on it, together, are above what it bears, as is known"

    private static void weightEdges() {
        for (int kind = Icehighway.LAKE; kind <= Icehighway.RIVER; kind++) {
            Icehighway road = bearing6723(kind);
            CHECK.same("bears", road.bears(0, true), 6723);
            road.vehicle(6000, 724, 100);
            int[] loads = {722, 723, 724};
            int[] due = {0, 0, 6};
            for (int i = 0; i < loads.length; i++) {
                road.load(0, 0, loads[i]);
                road.go(0);
                CHECK.same("6000 and " + loads[i], road.why(0), due[i]);
                road.turn(0);
            }
            road.vehicle(3000, 0, 50);
            road.vehicle(3223, 0, 50);
            road.vehicle(500, 1, 50);
            road.go(1);
            road.go(2);
            road.pass(1);
            CHECK.same("two are on it", road.told(0, 7), 2);
            road.go(3);
            CHECK.same("three weigh just what it bears", road.why(3), 0);
            road.turn(3);
            road.load(3, 0, 1);
            road.go(3);
            CHECK.same("three weigh 1 more", road.why(3), 6);
            road.pass(1);
            CHECK.same("it stands", where(road, 3), Icehighway.RAMP);
        }
    }

    // "If these weights are above what it bears really, the vehicle that came breaks through"

    private static void breakingEdges() {
        for (int more = 0; more <= 1; more++) {
            Icehighway road = worn(Icehighway.LAKE, Icehighway.WHOLE);
            int really = road.bears(0, false);
            CHECK.isTrue("it is known too thick", road.bears(0, true) > really);
            road.vehicle(3000, 1000, 50);
            road.vehicle(40000, 60000, 100);
            road.load(1, 2, 1000);
            road.load(2, 1, really + more - 44000);
            road.go(1);
            road.pass(1);
            CHECK.same("the first holds", where(road, 1), Icehighway.ON);
            road.go(2);
            CHECK.same("nothing known is against it", road.why(2), 0);
            road.pass(1);
            boolean holds = more == 0;
            CHECK.same("together " + more + " above", where(road, 2), holds ? Icehighway.ON : Icehighway.LOST);
            CHECK.same("the piece", road.told(0, 5), holds ? Icehighway.FULL : Icehighway.CLOSED);
            CHECK.same("cracked", road.told(0, 4), holds ? Icehighway.WHOLE : Icehighway.WET);
            CHECK.same("how many are on it", road.told(0, 7), holds ? 2 : 1);
            CHECK.same("kilos lost", road.kilos(1, 3), holds ? 0 : really + more - 44000);
            CHECK.same("the first stays on it", where(road, 1), Icehighway.ON);
            road.pass(1);
            CHECK.same("and comes over", road.kilos(2, 1), 1000);
        }
    }

    /** An open piece that vehicle 0 wore, which is not known; it is at the mine. A day begins, its cold is 0. */
    private static Icehighway worn(int kind, int crack) {
        Icehighway road = one(kind);
        road.weather(39);
        for (int d = 0; d < 70; d++) {
            road.pass(1440);
        }
        if (crack != Icehighway.WHOLE) {
            day(road, 40);
        }
        if (crack == Icehighway.WET) {
            day(road, -1);
        }
        road.weather(0);
        CHECK.same("cracked so", road.told(0, 4), crack);
        road.drill(0);
        road.open(0, Icehighway.FULL);
        road.gap(0);
        road.vehicle(20000, 0, 100);
        road.go(0);
        road.pass(2);
        CHECK.same("worn", road.thickness(0, true) - road.thickness(0, false), 1.0);
        return road;
    }

    // "it is LOST with its load (that goes on to be told of it), the piece CLOSED, and, if it is a water piece,
    // cracked WET"

    private static void brokenFromEachState() {
        for (int kind = Icehighway.LAKE; kind <= Icehighway.RIVER; kind++) {
            for (int crack = Icehighway.WHOLE; crack <= Icehighway.WET; crack++) {
                for (int how = Icehighway.LIGHT; how <= Icehighway.FULL; how++) {
                    Icehighway road = worn(kind, crack);
                    int really = road.bears(0, false);
                    road.vehicle(30000, 60000, 10);
                    road.vehicle(4000, 1000, 100);
                    road.load(1, 0, really - 34000);
                    road.load(2, 2, 1);
                    road.go(1);
                    road.pass(1);
                    road.open(0, how);
                    road.go(2);
                    road.pass(1);
                    CHECK.same("the heavy one holds", where(road, 1), Icehighway.ON);
                    CHECK.same("the light one is lost", where(road, 2), Icehighway.LOST);
                    CHECK.same("weight", road.ofVehicle(2, 1), 4001);
                    CHECK.same("load", road.ofVehicle(2, 2), 1);
                    CHECK.same("goods", road.ofVehicle(2, 3), 2);
                    CHECK.same("closed", road.told(0, 5), Icehighway.CLOSED);
                    CHECK.same("wet", road.told(0, 4), Icehighway.WET);
                    CHECK.same("black ice stays", road.thickness(0, true) - road.thickness(0, false), 1.0);
                }
            }
        }
    }

    // "6 in which minute its time on the piece is over, NONE if it is not ON one": no more of the first piece

    private static void brokenOnTheSecondPiece() {
        Icehighway road = one(Icehighway.PORTAGE);
        road.piece(Icehighway.LAKE, 600, 999);
        road.weather(39);
        for (int d = 0; d < 20; d++) {
            road.pass(1440);
        }
        road.weather(0);
        road.snow(100);
        road.drill(1);
        road.open(0, Icehighway.FULL);
        road.open(1, Icehighway.FULL);
        road.vehicle(20000, 0, 100);
        road.vehicle(10000, 60000, 100);
        road.go(0);
        road.pass(6);
        CHECK.same("the first is over", where(road, 0), Icehighway.MINE);
        int known = road.bears(1, true);
        CHECK.isTrue("it wore the ice", road.bears(1, false) < known);
        road.load(1, 0, known - 10000);
        road.go(1);
        road.pass(1);
        CHECK.same("over with the portage", road.ofVehicle(1, 6), road.minute() + 1);
        road.pass(1);
        CHECK.same("lost", where(road, 1), Icehighway.LOST);
        CHECK.same("in no minute", road.ofVehicle(1, 6), Icehighway.NONE);
        CHECK.same("the portage lies behind it", road.ofVehicle(1, 4), 1);
        CHECK.same("nothing is against it", road.why(1), Icehighway.NONE);
        CHECK.same("the portage stays open", road.told(0, 5), Icehighway.FULL);
        CHECK.same("the lake is closed", road.told(1, 5), Icehighway.CLOSED);
    }

    // "vehicles by rising numbers, all of this of the one ahead of the next one"

    private static void firstNumbersFirst() {
        for (int first = 0; first <= 1; first++) {
            int second = 1 - first;
            Icehighway road = Check.land(600);
            road.gap(0);
            road.vehicle(40000, 0, 100);
            road.vehicle(40000, 0, 100);
            road.go(first);
            road.pass(1);
            road.go(second);
            CHECK.same("too heavy together", road.why(second), 6);
            road.pass(1);
            CHECK.same("the one is over", where(road, first), Icehighway.MINE);
            boolean sees = second > first;
            CHECK.same("a greater number sees that", where(road, second), sees ? Icehighway.ON : Icehighway.RAMP);
            CHECK.same("a lesser saw it not", road.why(second), sees ? Icehighway.NONE : 0);
            road.pass(1);
            CHECK.same("a minute on", where(road, second), sees ? Icehighway.MINE : Icehighway.ON);
        }
        Icehighway narrow = Check.land(600);
        narrow.gap(0);
        narrow.vehicle(500, 0, 100);
        narrow.vehicle(500, 0, 100);
        narrow.go(1);
        narrow.pass(2);
        narrow.go(0);
        narrow.go(1);
        narrow.pass(1);
        CHECK.same("of two at its ends the lesser number comes", where(narrow, 0), Icehighway.ON);
        CHECK.same("the greater stands", narrow.why(1), 5);
    }

    // "the stock of the base, which has no end; what is unloaded there comes back"

    private static void stockHasNoEnd() {
        Icehighway road = Check.land(1);
        road.gap(0);
        for (int i = 0; i < 16; i++) {
            road.vehicle(500, 60000 - 500, 300);
        }
        int loads = 0;
        for (int round = 0; round < 10; round++) {
            for (int i = 0; i < 16; i++) {
                road.load(i, 2, 59500);
                loads++;
                CHECK.same("out", road.kilos(2, 0), 59500 * loads);
            }
            CHECK.same("in all vehicles", road.kilos(2, 2), 16 * 59500);
            for (int i = 0; i < 16; i++) {
                road.go(i);
                if (i == 7) {
                    road.turn(i);
                    loads--;
                    CHECK.same("back", road.kilos(2, 0), 59500 * loads);
                }
            }
            // They are too heavy together, so they go over one by one.
            road.pass(40);
            for (int i = 0; i < 16; i++) {
                if (i != 7) {
                    road.go(i);
                }
            }
            road.pass(40);
        }
        CHECK.same("all", road.kilos(2, 0), 150 * 59500);
        CHECK.same("all anew", road.kilosAnew(2), 150 * 59500);
        CHECK.same("at the mine", road.kilos(2, 1), 150 * 59500);
    }

    // "what it has more than that is of no matter. What is brought costs 1 a kilo as it comes to the mine; what is
    // missing then must be flown, for 40 a kilo"

    private static void moreThanOrdered() {
        int[] brought = {99, 100, 101};
        int[] missing = {1, 0, 0};
        long[] bill = {99 + 40, 100, 101};
        for (int i = 0; i < brought.length; i++) {
            Icehighway road = Check.land(600);
            road.vehicle(500, 1000, 100);
            road.order(0, 100);
            road.load(0, 0, brought[i]);
            CHECK.same("nothing comes by loading", road.bill(), 4000L);
            road.go(0);
            road.pass(1);
            CHECK.same("nothing comes on the way", road.bill(), 4000L);
            road.pass(1);
            CHECK.same("missing of " + brought[i], road.kilos(0, 4), missing[i]);
            CHECK.same("bill of " + brought[i], road.bill(), bill[i]);
            road.order(1, 1);
            CHECK.same("more of the one is not the other", road.bill(), bill[i] + 40);
            road.order(0, 1);
            CHECK.same("what was more counts when it is ordered", road.kilos(0, 4), 101 - brought[i]);
        }
    }
}

/** Promises 17 to 28: minute, told, thickness, bears, ofVehicle, why, speed, minutes, kilos, bill. */
final class AskingTest {
    private static final Check CHECK = new Check("AskingTest");

    public static void main(String[] args) {
        constants();
        told();
        thickness();
        ofVehicle();
        why();
        speed();
        waves();
        minutes();
        kilos();
        kilosAnew();
        bill();
        askingChangesNothing();
        CHECK.end();
    }

    private static void constants() {
        int[] got = {
            Icehighway.NONE, Icehighway.LAKE, Icehighway.RIVER, Icehighway.PORTAGE,
            Icehighway.WHOLE, Icehighway.DRY, Icehighway.WET,
            Icehighway.CLOSED, Icehighway.LIGHT, Icehighway.FULL,
            Icehighway.BASE, Icehighway.ON, Icehighway.RAMP, Icehighway.MINE, Icehighway.LOST};
        int[] due = {-1, 0, 1, 2, 0, 1, 2, 0, 1, 2, 0, 1, 2, 3, 4};
        for (int i = 0; i < due.length; i++) {
            CHECK.same("constant " + i, got[i], due[i]);
        }
    }

    private static void told() {
        Icehighway road = new Icehighway();
        road.piece(Icehighway.LAKE, 60, 1);
        road.piece(Icehighway.LAKE, 60, 1);
        road.weather(40);
        road.pass(1440);
        road.flood(1, 100);
        road.pass(1440);
        road.snow(7);
        road.open(1, Icehighway.FULL);
        road.limit(1, 33);
        int[] due = {320, 80, 20, 7, Icehighway.DRY, Icehighway.FULL, 33, 0};
        for (int what = 0; what < due.length; what++) {
            CHECK.same("told " + what, road.told(1, what), due[what]);
        }
        CHECK.unfit(road, "what 8", () -> road.told(1, 8));
        CHECK.unfit(road, "what -1", () -> road.told(1, -1));
        CHECK.outside(road, "piece 2, what 8", () -> road.told(2, 8));
        CHECK.outside(road, "piece -1", () -> road.told(-1, 0));
        CHECK.outside(new Icehighway(), "no piece", () -> new Icehighway().told(0, 0));
    }

    private static void thickness() {
        Icehighway road = new Icehighway();
        road.piece(Icehighway.LAKE, 60, 1);
        road.piece(Icehighway.PORTAGE, 60, 1);
        road.weather(10);
        road.pass(1440);
        CHECK.same("it has", road.thickness(0, false), 80.0);
        CHECK.same("is known", road.thickness(0, true), 0.0);
        road.flood(0, 1);
        road.pass(1440);
        CHECK.same("half", road.thickness(0, false), 80 + 4000 / 131 + 0.5);
        road.drill(0);
        CHECK.same("half is known", road.thickness(0, true), 110.5);
        CHECK.same("a portage", road.thickness(1, false), 0.0);
        CHECK.same("a portage, as is known", road.thickness(1, true), 0.0);
        CHECK.outside(road, "piece 2", () -> road.thickness(2, true));
        CHECK.outside(road, "piece -1", () -> road.thickness(-1, false));
    }

    private static void ofVehicle() {
        Icehighway road = Check.land(6000);
        road.vehicle(700, 100, 100);
        road.load(0, 2, 40);
        road.go(0);
        road.pass(1);
        int[] due = {Icehighway.ON, 740, 40, 2, 0, 1, 11};
        for (int what = 0; what < due.length; what++) {
            CHECK.same("of a vehicle " + what, road.ofVehicle(0, what), due[what]);
        }
        CHECK.unfit(road, "what 7", () -> road.ofVehicle(0, 7));
        CHECK.unfit(road, "what -1", () -> road.ofVehicle(0, -1));
        CHECK.outside(road, "vehicle 1, what 7", () -> road.ofVehicle(1, 7));
        CHECK.outside(road, "vehicle -1", () -> road.ofVehicle(-1, 0));
    }

    private static void why() {
        Icehighway road = Check.land(6000);
        road.vehicle(700, 100, 100);
        CHECK.same("at the base", road.why(0), Icehighway.NONE);
        road.go(0);
        CHECK.same("nothing", road.why(0), 0);
        road.plough(0);
        CHECK.same("as things are now", road.why(0), 6);
        road.snow(100);
        road.pass(1);
        CHECK.same("on a piece", road.why(0), Icehighway.NONE);
        road.pass(10);
        CHECK.same("at the mine", road.why(0), Icehighway.NONE);
        CHECK.outside(road, "vehicle 1", () -> road.why(1));
        CHECK.outside(road, "vehicle -1", () -> road.why(-1));
    }

    private static void speed() {
        Icehighway road = Check.land(6000);
        road.vehicle(700, 100, 120);
        road.vehicle(700, 100, 90);
        CHECK.same("the limit", road.speed(0, 0), 100);
        CHECK.same("its own", road.speed(1, 0), 90);
        road.limit(0, 300);
        CHECK.same("its own, too", road.speed(0, 0), 120);
        road.limit(0, 1);
        CHECK.same("the limit, too", road.speed(1, 0), 1);
        CHECK.outside(road, "vehicle 2", () -> road.speed(2, 0));
        CHECK.outside(road, "vehicle -1", () -> road.speed(-1, 0));
        CHECK.outside(road, "piece 1", () -> road.speed(0, 1));
        CHECK.outside(road, "piece -1", () -> road.speed(0, -1));
    }

    private static Icehighway deep(int kind, int depth) {
        Icehighway road = new Icehighway();
        road.piece(kind, 6000, depth);
        road.limit(0, 300);
        road.vehicle(500, 0, 300);
        return road;
    }

    private static int speedAt(int kind, int depth, int limit) {
        Icehighway road = deep(kind, depth);
        road.limit(0, limit);
        return road.speed(0, 0);
    }

    private static void waves() {
        int[] limits = {8, 9, 10, 11, 300};
        int[] due = {8, 8, 8, 11, 300};
        for (int i = 0; i < limits.length; i++) {
            CHECK.same("a lake of depth 1", speedAt(Icehighway.LAKE, 1, limits[i]), due[i]);
            CHECK.same("a river of depth 1", speedAt(Icehighway.RIVER, 1, limits[i]), due[i]);
            CHECK.same("a portage", speedAt(Icehighway.PORTAGE, 1, limits[i]), limits[i]);
        }
        CHECK.same("784 is not above 784", speedAt(Icehighway.LAKE, 10, 28), 28);
        CHECK.same("841 is above", speedAt(Icehighway.LAKE, 10, 29), 28);
        CHECK.same("1156 is below 1176", speedAt(Icehighway.LAKE, 10, 34), 28);
        CHECK.same("1225 is not", speedAt(Icehighway.LAKE, 10, 35), 35);
        CHECK.same("depth 999", speedAt(Icehighway.LAKE, 999, 300), 279);
        CHECK.same("depth 700: 0.8 by 98 by 700 is 54880", speedAt(Icehighway.LAKE, 700, 250), 234);
        allWaves();
    }

    /** All depths and speeds, by counting up where the program counts down. */
    private static void allWaves() {
        int wrong = 0;
        for (int depth = 1; depth <= 999; depth++) {
            Icehighway road = deep(depth % 2 == 0 ? Icehighway.LAKE : Icehighway.RIVER, depth);
            for (int limit = 1; limit <= 300; limit++) {
                road.limit(0, limit);
                double least = 0.8 * 98.0 * depth;
                int due = limit;
                if (limit * limit > least && limit * limit < 1.2 * 98.0 * depth) {
                    due = 0;
                    while ((due + 1) * (due + 1) <= least) {
                        due++;
                    }
                }
                wrong += road.speed(0, 0) == due ? 0 : 1;
            }
        }
        CHECK.same("wrong speeds of all", wrong, 0);
    }

    private static void minutes() {
        int[] metres = {1, 600, 601, 1200, 20000};
        int[] limits = {1, 7, 100, 300};
        int[][] due = {{1, 1, 1, 1}, {100, 15, 1, 1}, {101, 15, 2, 1}, {200, 29, 2, 1}, {3334, 477, 34, 12}};
        for (int m = 0; m < metres.length; m++) {
            Icehighway road = Check.land(metres[m]);
            road.vehicle(500, 0, 300);
            for (int l = 0; l < limits.length; l++) {
                road.limit(0, limits[l]);
                CHECK.same("minutes of " + metres[m] + " by " + limits[l], road.minutes(0, 0), due[m][l]);
                CHECK.same("minutes anew of " + metres[m] + " by " + limits[l], road.minutesAnew(0, 0), due[m][l]);
            }
        }
        Icehighway road = deep(Icehighway.LAKE, 10);
        road.limit(0, 30);
        CHECK.same("by the wave's speed 28", road.minutes(0, 0), 36);
        CHECK.same("by the wave's speed 28, anew", road.minutesAnew(0, 0), 36);
        CHECK.outside(road, "vehicle 1", () -> road.minutes(1, 0));
        CHECK.outside(road, "vehicle -1", () -> road.minutes(-1, 0));
        CHECK.outside(road, "piece 1", () -> road.minutes(0, 1));
        CHECK.outside(road, "piece -1", () -> road.minutes(0, -1));
        CHECK.outside(road, "vehicle 1, anew", () -> road.minutesAnew(1, 0));
        CHECK.outside(road, "vehicle -1, anew", () -> road.minutesAnew(-1, 0));
        CHECK.outside(road, "piece 1, anew", () -> road.minutesAnew(0, 1));
        CHECK.outside(road, "piece -1, anew", () -> road.minutesAnew(0, -1));
    }

    private static void dueKilos(Icehighway road, int goods, int... due) {
        for (int what = 0; what < due.length; what++) {
            CHECK.same("kilos of " + goods + ", " + what, road.kilos(goods, what), due[what]);
        }
        CHECK.same("kilos of " + goods + ", anew", road.kilosAnew(goods), due[0]);
    }

    private static void kilos() {
        Icehighway road = Check.land(600);
        road.gap(0);
        road.vehicle(500, 100, 100);
        road.vehicle(500, 100, 100);
        road.vehicle(500, 100, 100);
        road.order(1, 50);
        road.order(2, 50);
        dueKilos(road, 1, 0, 0, 0, 0, 50);
        road.load(0, 1, 30);
        road.load(1, 1, 40);
        road.load(2, 2, 20);
        dueKilos(road, 1, 70, 0, 70, 0, 50);
        dueKilos(road, 2, 20, 0, 20, 0, 50);
        road.go(0);
        road.go(1);
        road.go(2);
        road.turn(1);
        dueKilos(road, 1, 30, 0, 30, 0, 50);
        road.pass(2);
        dueKilos(road, 1, 30, 30, 0, 0, 20);
        dueKilos(road, 2, 20, 20, 0, 0, 30);
        road.load(1, 1, 100);
        road.go(1);
        road.pass(2);
        dueKilos(road, 1, 130, 130, 0, 0, 0);
        dueKilos(road, 0, 0, 0, 0, 0, 0);
        CHECK.unfit(road, "what 5", () -> road.kilos(0, 5));
        CHECK.unfit(road, "what -1", () -> road.kilos(0, -1));
        CHECK.outside(road, "goods 3, what 5", () -> road.kilos(3, 5));
        CHECK.outside(road, "goods -1", () -> road.kilos(-1, 0));
    }

    private static void kilosAnew() {
        Icehighway road = Check.land(600);
        road.vehicle(500, 1000, 100);
        int due = 0;
        for (int i = 1; i <= 100; i++) {
            road.load(0, i % 3, i);
            road.go(0);
            if (i % 4 == 0) {
                road.turn(0);
            } else {
                due += i % 3 == 1 ? i : 0;
                road.gap(0);
                road.pass(2);
                road.go(0);
                road.pass(2);
            }
        }
        CHECK.same("of 100 loads", road.kilosAnew(1), due);
        CHECK.same("the same", road.kilos(1, 0), due);
        CHECK.outside(road, "goods 3", () -> road.kilosAnew(3));
        CHECK.outside(road, "goods -1", () -> road.kilosAnew(-1));
    }

    private static void bill() {
        Icehighway road = Check.land(600);
        road.vehicle(500, 100, 100);
        CHECK.same("nothing", road.bill(), 0L);
        road.order(0, 10);
        road.order(1, 30);
        CHECK.same("all is missing", road.bill(), 1600L);
        road.load(0, 0, 25);
        CHECK.same("in a vehicle it is missing", road.bill(), 1600L);
        road.go(0);
        road.pass(2);
        CHECK.same("25 brought, 30 of others missing", road.bill(), 1225L);
        road.order(0, 16);
        CHECK.same("1 missing", road.bill(), 1265L);
        for (int goods = 0; goods < 3; goods++) {
            for (int i = 0; i < 9; i++) {
                road.order(goods, 1000000);
            }
        }
        CHECK.same("as long", road.bill(), 25L + 40L * (27000000L + 1 + 30));
    }

    private static void askingChangesNothing() {
        Icehighway road = Check.land(6000);
        road.vehicle(700, 100, 100);
        road.load(0, 2, 40);
        road.go(0);
        road.pass(3);
        String first = Check.answers(road);
        CHECK.same("all answers once more", Check.answers(road), first);
    }
}

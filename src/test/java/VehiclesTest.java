/** Promises 11 to 16: vehicle, load, go, turn, order, pass. */
final class VehiclesTest {
    private static final Check CHECK = new Check("VehiclesTest");

    public static void main(String[] args) {
        vehicle();
        vehicleRefused();
        load();
        loadRefused();
        go();
        turn();
        order();
        pass();
        passRefused();
        CHECK.end();
    }

    private static void vehicle() {
        Icehighway road = Check.land(600);
        CHECK.same("least", road.vehicle(500, 0, 1), 0);
        CHECK.same("most", road.vehicle(40000, 60000, 300), 1);
        int[] due = {Icehighway.BASE, 40000, 0, Icehighway.NONE, 0, 0, Icehighway.NONE};
        for (int what = 0; what < due.length; what++) {
            CHECK.same("a new vehicle " + what, road.ofVehicle(1, what), due[what]);
        }
        for (int i = 2; i < 16; i++) {
            CHECK.same("next", road.vehicle(500, 0, 1), i);
        }
        CHECK.untimely(road, "a 17th", () -> road.vehicle(500, 0, 1));
        CHECK.unfit(road, "a 17th, unfit", () -> road.vehicle(499, 0, 1));
    }

    private static void vehicleRefused() {
        Icehighway road = Check.land(600);
        CHECK.unfit(road, "empty 499", () -> road.vehicle(499, 0, 1));
        CHECK.unfit(road, "empty 40001", () -> road.vehicle(40001, 0, 1));
        CHECK.unfit(road, "carries -1", () -> road.vehicle(500, -1, 1));
        CHECK.unfit(road, "carries 60001", () -> road.vehicle(500, 60001, 1));
        CHECK.unfit(road, "speed 0", () -> road.vehicle(500, 0, 0));
        CHECK.unfit(road, "speed 301", () -> road.vehicle(500, 0, 301));
        Icehighway bare = new Icehighway();
        CHECK.untimely(bare, "no piece", () -> bare.vehicle(500, 0, 1));
        CHECK.unfit(bare, "no piece, unfit", () -> bare.vehicle(500, 0, 301));
    }

    private static void load() {
        Icehighway road = Check.land(600);
        road.vehicle(1000, 60000, 100);
        road.vehicle(2000, 7, 100);
        CHECK.same("all that it carries", road.load(0, 0, 60000), 61000);
        CHECK.same("1 kilo", road.load(1, 2, 1), 2001);
        CHECK.same("weight", road.ofVehicle(0, 1), 61000);
        CHECK.same("load", road.ofVehicle(0, 2), 60000);
        CHECK.same("goods 0", road.ofVehicle(0, 3), 0);
        CHECK.same("goods 2", road.ofVehicle(1, 3), 2);
        CHECK.same("taken", road.kilos(0, 0), 60000);
        CHECK.same("taken of 1", road.kilos(1, 0), 0);
        CHECK.same("taken of 2", road.kilos(2, 0), 1);
    }

    private static void loadRefused() {
        Icehighway road = Check.land(600);
        road.vehicle(1000, 10, 100);
        road.vehicle(1000, 0, 100);
        CHECK.outside(road, "vehicle 2", () -> road.load(2, 0, 1));
        CHECK.outside(road, "vehicle -1, kilos 0", () -> road.load(-1, 0, 0));
        CHECK.outside(road, "goods 3", () -> road.load(0, 3, 1));
        CHECK.outside(road, "goods -1, kilos 11", () -> road.load(0, -1, 11));
        CHECK.unfit(road, "kilos 0", () -> road.load(0, 0, 0));
        CHECK.unfit(road, "kilos 11", () -> road.load(0, 0, 11));
        CHECK.unfit(road, "kilos least", () -> road.load(0, 0, Integer.MIN_VALUE));
        CHECK.unfit(road, "it carries nothing", () -> road.load(1, 0, 1));
        road.load(0, 1, 3);
        CHECK.untimely(road, "it has a load", () -> road.load(0, 1, 3));
        CHECK.unfit(road, "it has a load, kilos 11", () -> road.load(0, 1, 11));
        CHECK.outside(road, "it has a load, goods 3", () -> road.load(0, 3, 1));
        road.go(0);
        CHECK.untimely(road, "at the ramp", () -> road.load(0, 1, 3));
        road.pass(1);
        CHECK.untimely(road, "on a piece", () -> road.load(0, 1, 3));
        road.pass(1);
        CHECK.same("at the mine", road.ofVehicle(0, 0), Icehighway.MINE);
        CHECK.untimely(road, "empty at the mine", () -> road.load(0, 1, 3));
    }

    private static void go() {
        Icehighway road = Check.land(1200);
        road.vehicle(1000, 10, 100);
        CHECK.outside(road, "go 1", () -> road.go(1));
        CHECK.outside(road, "go -1", () -> road.go(-1));
        CHECK.same("to the mine", road.go(0), true);
        CHECK.same("at the ramp", road.ofVehicle(0, 0), Icehighway.RAMP);
        CHECK.same("to the mine, told", road.ofVehicle(0, 5), 1);
        CHECK.same("at the base's end", road.ofVehicle(0, 4), 0);
        CHECK.untimely(road, "from the ramp", () -> road.go(0));
        road.pass(1);
        CHECK.untimely(road, "from the piece", () -> road.go(0));
        road.pass(2);
        CHECK.same("at the mine", road.ofVehicle(0, 0), Icehighway.MINE);
        CHECK.same("a piece lies behind", road.ofVehicle(0, 4), 1);
        CHECK.same("went to the mine", road.ofVehicle(0, 5), 1);
        CHECK.same("to the base", road.go(0), false);
        CHECK.same("at the mine's end", road.ofVehicle(0, 4), 1);
        CHECK.same("to the base, told", road.ofVehicle(0, 5), 0);
        road.pass(3);
        CHECK.same("at the base", road.ofVehicle(0, 0), Icehighway.BASE);
        CHECK.same("went to the base", road.ofVehicle(0, 5), 0);
        CHECK.same("from the base anew", road.go(0), true);
    }

    private static void turn() {
        Icehighway road = new Icehighway();
        road.piece(Icehighway.PORTAGE, 600, 1);
        road.piece(Icehighway.PORTAGE, 600, 1);
        road.snow(100);
        road.open(0, Icehighway.FULL);
        road.vehicle(1000, 50, 100);
        CHECK.outside(road, "turn 1", () -> road.turn(1));
        CHECK.outside(road, "turn -1", () -> road.turn(-1));
        CHECK.untimely(road, "at the base", () -> road.turn(0));
        road.load(0, 1, 20);
        road.go(0);
        CHECK.same("turned at the base's end", road.turn(0), false);
        CHECK.same("at the base", road.ofVehicle(0, 0), Icehighway.BASE);
        CHECK.same("unloaded", road.ofVehicle(0, 2), 0);
        CHECK.same("in the stock again", road.kilos(1, 0), 0);
        CHECK.same("went to the base", road.ofVehicle(0, 5), 0);
        road.load(0, 1, 30);
        road.go(0);
        road.pass(1);
        CHECK.untimely(road, "on a piece", () -> road.turn(0));
        road.pass(1);
        CHECK.same("between two pieces", road.ofVehicle(0, 0), Icehighway.RAMP);
        CHECK.same("turned between", road.turn(0), false);
        CHECK.same("still at the ramp", road.ofVehicle(0, 0), Icehighway.RAMP);
        CHECK.same("still loaded", road.ofVehicle(0, 2), 30);
        CHECK.same("one piece lies behind it", road.ofVehicle(0, 4), 1);
        CHECK.same("turned anew", road.turn(0), true);
        road.turn(0);
        CHECK.same("the gap is of the other direction", road.why(0), 0);
        road.pass(2);
        CHECK.same("at the base again", road.ofVehicle(0, 0), Icehighway.BASE);
        CHECK.same("unloaded again", road.kilosAnew(1), 0);
        turnAtTheMine();
    }

    private static void turnAtTheMine() {
        Icehighway road = Check.land(600);
        road.vehicle(1000, 50, 100);
        road.load(0, 2, 20);
        road.go(0);
        road.pass(2);
        CHECK.untimely(road, "at the mine", () -> road.turn(0));
        CHECK.same("brought", road.kilos(2, 1), 20);
        road.go(0);
        CHECK.same("turned at the mine's end", road.turn(0), true);
        CHECK.same("at the mine", road.ofVehicle(0, 0), Icehighway.MINE);
        CHECK.same("brought once", road.kilos(2, 1), 20);
        CHECK.same("went to the mine", road.ofVehicle(0, 5), 1);
    }

    private static void order() {
        Icehighway road = Check.land(600);
        CHECK.same("order 1", road.order(0, 1), 1);
        CHECK.same("order more", road.order(0, 1000000), 1000001);
        CHECK.same("other goods", road.order(2, 5), 5);
        CHECK.unfit(road, "0", () -> road.order(0, 0));
        CHECK.unfit(road, "1000001", () -> road.order(0, 1000001));
        CHECK.outside(road, "goods 3", () -> road.order(3, 1));
        CHECK.outside(road, "goods -1, kilos 0", () -> road.order(-1, 0));
        for (int i = 2; i <= 9; i++) {
            road.order(0, 1000000);
        }
        CHECK.untimely(road, "10000001", () -> road.order(0, 1000000));
        CHECK.same("10000000", road.order(0, 999999), 10000000);
        CHECK.untimely(road, "1 more", () -> road.order(0, 1));
        CHECK.unfit(road, "0 more", () -> road.order(0, 0));
        CHECK.same("others go on", road.order(1, 7), 7);
    }

    private static void pass() {
        Icehighway road = Check.land(600);
        CHECK.same("1", road.pass(1), 1);
        CHECK.same("3000", road.pass(3000), 3001);
        CHECK.same("minute", road.minute(), 3001);
        Icehighway bare = new Icehighway();
        CHECK.same("without pieces", bare.pass(1440), 1440);
    }

    private static void passRefused() {
        Icehighway road = Check.land(600);
        CHECK.unfit(road, "0", () -> road.pass(0));
        CHECK.unfit(road, "-1", () -> road.pass(-1));
        CHECK.unfit(road, "3001", () -> road.pass(3001));
        CHECK.unfit(road, "greatest", () -> road.pass(Integer.MAX_VALUE));
        for (int i = 0; i < 66; i++) {
            road.pass(3000);
        }
        road.pass(1999);
        CHECK.untimely(road, "200001", () -> road.pass(2));
        CHECK.same("200000", road.pass(1), 200000);
        CHECK.untimely(road, "1 more", () -> road.pass(1));
        CHECK.unfit(road, "3001 more", () -> road.pass(3001));
    }
}

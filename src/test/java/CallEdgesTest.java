/** Promises 1 to 28, call by call: the ends of each range, what lies outside, and which exception comes first. */
final class CallEdgesTest {
    private static final Check CHECK = new Check("CallEdgesTest");
    private static final int LEAST = Integer.MIN_VALUE;
    private static final int MOST = Integer.MAX_VALUE;

    /** A call of which one argument is tried out. */
    interface Tried {
        Object run(Icehighway road, int value);
    }

    public static void main(String[] args) {
        newObject();
        piece();
        weather();
        snow();
        plough();
        flood();
        floodsUpTo500();
        drill();
        open();
        limit();
        gap();
        vehicle();
        load();
        loadOnlyAtTheBase();
        go();
        turn();
        order();
        pass();
        minute();
        told();
        thicknessAndBears();
        ofVehicle();
        why();
        speedAndMinutes();
        kilos();
        bill();
        nothingIsKeptOfRefusedCalls();
        CHECK.end();
    }

    /** A lake with ice, a river without any, a portage; two vehicles, the second with a load. */
    private static Icehighway road() {
        Icehighway road = new Icehighway();
        road.piece(Icehighway.LAKE, 600, 50);
        road.weather(30);
        road.pass(1440);
        road.weather(0);
        road.piece(Icehighway.RIVER, 600, 50);
        road.piece(Icehighway.PORTAGE, 600, 50);
        road.vehicle(1000, 100, 100);
        road.vehicle(2000, 200, 100);
        road.load(1, 1, 7);
        return road;
    }

    /** Both ends are taken, what lies outside is refused as unfit and changes nothing. */
    private static void range(String what, int least, int most, Tried call) {
        int[] fit = {least, most};
        for (int value : fit) {
            Icehighway road = road();
            String got = Check.outcome(() -> call.run(road, value));
            CHECK.isTrue(what + " " + value + " is fit: " + got, !got.contains("Exception"));
        }
        int[] unfit = {least - 1, most + 1, LEAST, LEAST + 1, MOST - 1, MOST};
        Icehighway road = road();
        for (int value : unfit) {
            CHECK.unfit(road, what + " " + value, () -> call.run(road, value));
        }
    }

    /** All numbers below the count are taken, what lies outside is refused and changes nothing. */
    private static void numbers(String what, int count, Tried call) {
        for (int i = 0; i < count; i++) {
            int value = i;
            Icehighway road = road();
            String got = Check.outcome(() -> call.run(road, value));
            CHECK.isTrue(what + " " + value + " is there: " + got, !got.contains("Exception"));
        }
        int[] outside = {-1, count, count + 1, LEAST, LEAST + 1, MOST - 1, MOST};
        Icehighway road = road();
        for (int value : outside) {
            CHECK.outside(road, what + " " + value, () -> call.run(road, value));
        }
    }

    // ---- promises 1 to 10

    private static void newObject() {
        Icehighway road = new Icehighway();
        CHECK.same("minute", road.minute(), 0);
        CHECK.same("no pieces", road.snow(1), 0);
        for (int i = 0; i < 2; i++) {
            int number = i;
            CHECK.outside(road, "no piece", () -> road.told(number, 0));
            CHECK.outside(road, "no vehicle", () -> road.ofVehicle(number, 0));
            CHECK.outside(road, "neither", () -> road.speed(number, number));
        }
    }

    private static void piece() {
        int[] ends = {Icehighway.LAKE, Icehighway.PORTAGE};
        for (int kind : ends) {
            Icehighway road = new Icehighway();
            CHECK.same("least", road.piece(kind, 1, 1), 0);
            CHECK.same("most", road.piece(kind, 20000, 999), 1);
            road.vehicle(500, 0, 300);
            CHECK.same("metres least", road.minutes(0, 0), 1);
            CHECK.same("metres most", road.minutes(0, 1), 34);
        }
        Icehighway road = new Icehighway();
        int[] kinds = {-1, 3, LEAST, MOST};
        int[] metres = {0, -1, 20001, LEAST, MOST};
        int[] depths = {0, -1, 1000, LEAST, MOST};
        for (int kind : kinds) {
            CHECK.unfit(road, "kind " + kind, () -> road.piece(kind, 1, 1));
        }
        for (int kind = Icehighway.LAKE; kind <= Icehighway.PORTAGE; kind++) {
            int of = kind;
            for (int metre : metres) {
                CHECK.unfit(road, "metres " + metre, () -> road.piece(of, metre, 1));
            }
            for (int depth : depths) {
                CHECK.unfit(road, "depth " + depth + " of kind " + of, () -> road.piece(of, 1, depth));
            }
        }
        CHECK.same("none was laid", road.piece(0, 1, 1), 0);
        road.vehicle(500, 0, 1);
        CHECK.untimely(road, "there is a vehicle", () -> road.piece(0, 1, 1));
        CHECK.unfit(road, "there is a vehicle, kind 3", () -> road.piece(3, 1, 1));
        CHECK.unfit(road, "there is a vehicle, metres 0", () -> road.piece(0, 0, 1));
        CHECK.unfit(road, "there is a vehicle, depth 0", () -> road.piece(0, 1, 0));
    }

    private static void weather() {
        range("weather", -20, 60, (road, value) -> road.weather(value));
        Icehighway road = road();
        CHECK.same("what it was", road.weather(-20), 0);
        CHECK.same("-20", road.weather(60), -20);
        CHECK.same("60", road.weather(60), 60);
    }

    private static void snow() {
        range("snow", 1, 500, (road, value) -> road.snow(value));
        Icehighway road = road();
        for (int i = 1; i <= 400; i++) {
            CHECK.same("pieces", road.snow(500), 3);
        }
        for (int p = 0; p < 3; p++) {
            CHECK.same("snow has no most", road.told(p, 3), 200000);
        }
        road.weather(60);
        road.pass(1440);
        CHECK.same("24000 by 800290", road.told(0, 0), 240);
    }

    private static void plough() {
        numbers("plough", 3, (road, value) -> road.plough(value));
        Icehighway road = road();
        CHECK.same("no snow", road.plough(2), 0);
        road.snow(1);
        CHECK.same("1", road.plough(2), 1);
        CHECK.same("none is left", road.told(2, 3), 0);
        CHECK.same("the other's stays", road.told(1, 3), 1);
    }

    private static void flood() {
        range("flood", 1, 100, (road, value) -> road.flood(0, value));
        Icehighway road = road();
        int[] outside = {-1, 3, LEAST, MOST};
        for (int piece : outside) {
            CHECK.outside(road, "flood piece " + piece, () -> road.flood(piece, 1));
            CHECK.outside(road, "flood piece " + piece + " by 0", () -> road.flood(piece, 0));
        }
        CHECK.untimely(road, "a river without ice", () -> road.flood(1, 1));
        CHECK.untimely(road, "a portage", () -> road.flood(2, 1));
        CHECK.unfit(road, "a river without ice, by 0", () -> road.flood(1, 0));
        CHECK.unfit(road, "a portage, by 101", () -> road.flood(2, 101));
        road.snow(9);
        CHECK.untimely(road, "its snow stays on a portage", () -> road.flood(2, 100));
        CHECK.untimely(road, "its snow stays on a river", () -> road.flood(1, 100));
        CHECK.same("water then", road.flood(0, 1), 1);
        CHECK.same("its snow goes", road.told(0, 3), 0);
        CHECK.same("the other's does not", road.told(2, 3), 9);
    }

    // "or would have more than 500 of water"
    private static void floodsUpTo500() {
        Icehighway road = road();
        for (int i = 1; i <= 4; i++) {
            CHECK.same("flood", road.flood(0, 100), 100 * i);
        }
        CHECK.same("499", road.flood(0, 99), 499);
        road.snow(1);
        CHECK.untimely(road, "501", () -> road.flood(0, 2));
        CHECK.untimely(road, "599", () -> road.flood(0, 100));
        CHECK.same("snow stays", road.told(0, 3), 1);
        CHECK.same("500", road.flood(0, 1), 500);
        CHECK.untimely(road, "one more", () -> road.flood(0, 1));
        CHECK.unfit(road, "0 more", () -> road.flood(0, 0));
        road.weather(1);
        road.pass(1440);
        CHECK.same("2 freeze", road.told(0, 2), 498);
        CHECK.untimely(road, "501 again", () -> road.flood(0, 3));
        CHECK.same("500 again", road.flood(0, 2), 500);
    }

    private static void drill() {
        numbers("drill", 3, (road, value) -> road.drill(value));
        Icehighway road = road();
        CHECK.same("ice", road.drill(0), 240.0);
        CHECK.same("none", road.drill(1), 0.0);
        CHECK.same("a portage", road.drill(2), 0.0);
        for (int i = 0; i < 2; i++) {
            road.weather(-20);
            road.pass(1440);
        }
        CHECK.same("it becomes less by drilling too", road.drill(0), 0.0);
    }

    private static void open() {
        numbers("open", 3, (road, value) -> road.open(value, Icehighway.FULL));
        range("open", Icehighway.CLOSED, Icehighway.FULL, (road, value) -> road.open(2, value));
        Icehighway road = road();
        CHECK.outside(road, "piece 3, how 3", () -> road.open(3, 3));
        CHECK.outside(road, "piece -1, how -1", () -> road.open(-1, -1));
        for (int was = 0; was <= 2; was++) {
            for (int how = 0; how <= 2; how++) {
                road.open(0, was);
                CHECK.same("how it was", road.open(0, how), was);
                CHECK.same("how it is", road.told(0, 5), how);
            }
        }
    }

    private static void limit() {
        numbers("limit", 3, (road, value) -> road.limit(value, 1));
        range("limit", 1, 300, (road, value) -> road.limit(2, value));
        Icehighway road = road();
        CHECK.outside(road, "piece 3, speed 0", () -> road.limit(3, 0));
        CHECK.outside(road, "piece -1, speed 301", () -> road.limit(-1, 301));
        CHECK.same("100 at first", road.limit(1, 300), 100);
        CHECK.same("300", road.limit(1, 1), 300);
        CHECK.same("1", road.limit(1, 1), 1);
        CHECK.same("the other", road.told(2, 6), 100);
    }

    private static void gap() {
        range("gap", 0, 120, (road, value) -> road.gap(value));
        Icehighway road = road();
        CHECK.same("5 at first", road.gap(0), 5);
        CHECK.same("0", road.gap(120), 0);
        CHECK.same("120", road.gap(120), 120);
    }

    // ---- promises 11 to 16

    private static void vehicle() {
        range("empty", 500, 40000, (road, value) -> road.vehicle(value, 0, 1));
        range("carries", 0, 60000, (road, value) -> road.vehicle(500, value, 1));
        range("speed", 1, 300, (road, value) -> road.vehicle(500, 0, value));
        Icehighway bare = new Icehighway();
        CHECK.untimely(bare, "no piece", () -> bare.vehicle(500, 0, 1));
        CHECK.unfit(bare, "no piece, empty 499", () -> bare.vehicle(499, 0, 1));
        CHECK.unfit(bare, "no piece, carries -1", () -> bare.vehicle(500, -1, 1));
        CHECK.unfit(bare, "no piece, speed 0", () -> bare.vehicle(500, 0, 0));
        CHECK.same("a piece can be laid then", bare.piece(0, 1, 1), 0);
        Icehighway road = road();
        for (int i = 2; i < 16; i++) {
            CHECK.same("numbers", road.vehicle(500, 0, 1), i);
        }
        CHECK.untimely(road, "a 17th", () -> road.vehicle(500, 0, 1));
        CHECK.unfit(road, "a 17th, speed 301", () -> road.vehicle(500, 0, 301));
    }

    private static void load() {
        numbers("load of goods", 3, (road, value) -> road.load(0, value, 1));
        range("load", 1, 100, (road, value) -> road.load(0, 2, value));
        Icehighway road = road();
        int[] outside = {-1, 2, 16, LEAST, MOST};
        for (int vehicle : outside) {
            CHECK.outside(road, "load vehicle " + vehicle, () -> road.load(vehicle, 0, 1));
            CHECK.outside(road, "load vehicle " + vehicle + " with 0", () -> road.load(vehicle, 0, 0));
            CHECK.outside(road, "load vehicle " + vehicle + " with goods 3", () -> road.load(vehicle, 3, 1));
        }
        CHECK.outside(road, "goods 3, kilos 0", () -> road.load(0, 3, 0));
        CHECK.outside(road, "goods -1, kilos 101", () -> road.load(0, -1, 101));
        CHECK.untimely(road, "it has a load", () -> road.load(1, 1, 193));
        CHECK.unfit(road, "it has a load, kilos 201", () -> road.load(1, 1, 201));
        CHECK.unfit(road, "it has a load, kilos 0", () -> road.load(1, 1, 0));
        CHECK.outside(road, "it has a load, goods 3", () -> road.load(1, 3, 1));
        CHECK.same("all that it carries", road.load(0, 0, 100), 1100);
        road.vehicle(500, 0, 1);
        int[] any = {LEAST, -1, 0, 1, MOST};
        for (int kilos : any) {
            CHECK.unfit(road, "it carries nothing: " + kilos, () -> road.load(2, 0, kilos));
        }
    }

    // "if it is not at the base, or has a load"
    private static void loadOnlyAtTheBase() {
        Icehighway road = Check.land(600);
        road.gap(0);
        road.vehicle(500, 9, 100);
        road.go(0);
        CHECK.untimely(road, "at a ramp", () -> road.load(0, 0, 1));
        CHECK.unfit(road, "at a ramp, 10", () -> road.load(0, 0, 10));
        road.pass(1);
        CHECK.untimely(road, "on a piece", () -> road.load(0, 0, 1));
        road.pass(1);
        CHECK.untimely(road, "at the mine", () -> road.load(0, 0, 1));
        road.go(0);
        CHECK.untimely(road, "at the ramp of the mine", () -> road.load(0, 0, 1));
        road.pass(2);
        CHECK.same("at the base again", road.load(0, 0, 1), 501);
        road.go(0);
        CHECK.untimely(road, "at a ramp, with a load", () -> road.load(0, 0, 1));
    }

    private static void go() {
        numbers("go", 2, (road, value) -> road.go(value));
        Icehighway road = road();
        road.go(0);
        CHECK.untimely(road, "from a ramp", () -> road.go(0));
        CHECK.same("turned back, it goes anew", road.turn(0), false);
        CHECK.same("anew", road.go(0), true);
        CHECK.same("with a load", road.go(1), true);
    }

    private static void turn() {
        Icehighway road = road();
        int[] outside = {-1, 2, 16, LEAST, MOST};
        for (int vehicle : outside) {
            CHECK.outside(road, "turn " + vehicle, () -> road.turn(vehicle));
        }
        CHECK.untimely(road, "at the base", () -> road.turn(0));
        CHECK.untimely(road, "at the base with a load", () -> road.turn(1));
        road.go(1);
        CHECK.same("at the end to which it goes then", road.turn(1), false);
        CHECK.same("it is at the base", road.ofVehicle(1, 0), Icehighway.BASE);
        CHECK.same("unloaded", road.ofVehicle(1, 3), Icehighway.NONE);
        CHECK.same("its weight", road.ofVehicle(1, 1), 2000);
        CHECK.same("the stock", road.kilos(1, 0), 0);
        CHECK.untimely(road, "twice", () -> road.turn(1));
        turnBetween();
    }

    private static void turnBetween() {
        Icehighway road = Check.land(600);
        road.piece(Icehighway.PORTAGE, 600, 1);
        road.vehicle(500, 9, 100);
        road.load(0, 0, 9);
        road.go(0);
        road.pass(1);
        CHECK.untimely(road, "on a piece", () -> road.turn(0));
        road.pass(1);
        for (int i = 0; i < 5; i++) {
            CHECK.same("between two it turns on and on", road.turn(0), i % 2 == 1);
            CHECK.same("it stays at the ramp", road.ofVehicle(0, 0), Icehighway.RAMP);
            CHECK.same("one lies behind it", road.ofVehicle(0, 4), 1);
            CHECK.same("it keeps its load", road.ofVehicle(0, 2), 9);
            CHECK.same("it is told where it goes", road.ofVehicle(0, 5), i % 2);
        }
        CHECK.same("to the mine's side", road.turn(0), true);
        road.snow(100);
        road.open(1, Icehighway.FULL);
        road.pass(2);
        CHECK.untimely(road, "at the mine", () -> road.turn(0));
        road.go(0);
        CHECK.same("back to the mine", road.turn(0), true);
        CHECK.same("it is at the mine", road.ofVehicle(0, 0), Icehighway.MINE);
        CHECK.same("brought once", road.kilos(0, 1), 9);
    }

    private static void order() {
        numbers("order", 3, (road, value) -> road.order(value, 1));
        range("order", 1, 1000000, (road, value) -> road.order(1, value));
        Icehighway road = road();
        CHECK.outside(road, "goods 3, kilos 0", () -> road.order(3, 0));
        CHECK.outside(road, "goods -1, kilos 1000001", () -> road.order(-1, 1000001));
        for (int i = 1; i <= 10; i++) {
            CHECK.same("up to 10000000", road.order(2, 1000000), 1000000 * i);
        }
        CHECK.untimely(road, "1 more", () -> road.order(2, 1));
        CHECK.untimely(road, "1000000 more", () -> road.order(2, 1000000));
        CHECK.unfit(road, "1000001 more", () -> road.order(2, 1000001));
        CHECK.outside(road, "of goods 3", () -> road.order(3, 1));
        CHECK.same("others", road.order(1, 1000000), 1000000);
        for (int i = 2; i <= 9; i++) {
            road.order(1, 1000000);
        }
        road.order(1, 999999);
        CHECK.untimely(road, "10000001", () -> road.order(1, 2));
        CHECK.same("10000000", road.order(1, 1), 10000000);
    }

    private static void pass() {
        range("pass", 1, 3000, (road, value) -> road.pass(value));
        Icehighway road = new Icehighway();
        for (int i = 1; i <= 66; i++) {
            CHECK.same("pass", road.pass(3000), 3000 * i);
        }
        CHECK.untimely(road, "201000", () -> road.pass(3000));
        CHECK.untimely(road, "200001", () -> road.pass(2001));
        CHECK.same("199999", road.pass(1999), 199999);
        CHECK.untimely(road, "200001 again", () -> road.pass(2));
        CHECK.same("200000", road.pass(1), 200000);
        CHECK.untimely(road, "1 more", () -> road.pass(1));
        int[] unfit = {LEAST, -1, 0, 3001, MOST};
        for (int minutes : unfit) {
            CHECK.unfit(road, "at the end, " + minutes, () -> road.pass(minutes));
        }
    }

    // ---- promises 17 to 28

    private static void minute() {
        Icehighway road = new Icehighway();
        CHECK.same("at first", road.minute(), 0);
        road.pass(1);
        CHECK.same("1", road.minute(), 1);
        road.pass(3000);
        CHECK.same("3001", road.minute(), 3001);
        CHECK.unfit(road, "refused", () -> road.pass(3001));
        CHECK.same("as it was", road.minute(), 3001);
    }

    private static void told() {
        numbers("told", 3, (road, value) -> road.told(value, 7));
        range("told", 0, 7, (road, value) -> road.told(1, value));
        CHECK.outside(road(), "piece 3, what 8", () -> road().told(3, 8));
        CHECK.outside(road(), "piece -1, what -1", () -> road().told(-1, -1));
    }

    private static void thicknessAndBears() {
        numbers("thickness that is known", 3, (road, value) -> road.thickness(value, true));
        numbers("thickness", 3, (road, value) -> road.thickness(value, false));
        numbers("bears as is known", 3, (road, value) -> road.bears(value, true));
        numbers("bears", 3, (road, value) -> road.bears(value, false));
    }

    private static void ofVehicle() {
        numbers("of vehicle", 2, (road, value) -> road.ofVehicle(value, 6));
        range("of vehicle", 0, 6, (road, value) -> road.ofVehicle(1, value));
        CHECK.outside(road(), "vehicle 2, what 7", () -> road().ofVehicle(2, 7));
        CHECK.outside(road(), "vehicle -1, what -1", () -> road().ofVehicle(-1, -1));
        Icehighway road = road();
        CHECK.same("no goods without a load", road.ofVehicle(0, 3), Icehighway.NONE);
        CHECK.same("goods of a load", road.ofVehicle(1, 3), 1);
        CHECK.same("no minute at the base", road.ofVehicle(1, 6), Icehighway.NONE);
        CHECK.same("0 at first", road.ofVehicle(1, 5), 0);
    }

    private static void why() {
        numbers("why", 2, (road, value) -> road.why(value));
        Icehighway road = road();
        CHECK.same("at the base", road.why(0), Icehighway.NONE);
        road.go(0);
        CHECK.same("closed", road.why(0), 1);
        road.open(0, Icehighway.FULL);
        CHECK.same("not known to bear", road.why(0), 6);
        road.drill(0);
        CHECK.same("nothing", road.why(0), 0);
        road.turn(0);
        CHECK.same("at the base again", road.why(0), Icehighway.NONE);
    }

    private static void speedAndMinutes() {
        numbers("speed of a vehicle", 2, (road, value) -> road.speed(value, 0));
        numbers("speed on a piece", 3, (road, value) -> road.speed(1, value));
        numbers("minutes of a vehicle", 2, (road, value) -> road.minutes(value, 0));
        numbers("minutes on a piece", 3, (road, value) -> road.minutes(1, value));
        numbers("minutes anew of a vehicle", 2, (road, value) -> road.minutesAnew(value, 0));
        numbers("minutes anew on a piece", 3, (road, value) -> road.minutesAnew(1, value));
        // As many vehicles as pieces would hide that one number is looked up for the other.
        Icehighway road = road();
        CHECK.outside(road, "vehicle 2 on piece 0", () -> road.speed(2, 0));
        CHECK.same("vehicle 0 on piece 2", road.speed(0, 2), 100);
        CHECK.outside(road, "both", () -> road.speed(2, 3));
        CHECK.outside(road, "both, minutes", () -> road.minutes(-1, -1));
        CHECK.outside(road, "both, minutes anew", () -> road.minutesAnew(2, 3));
    }

    private static void kilos() {
        numbers("kilos", 3, (road, value) -> road.kilos(value, 4));
        range("kilos", 0, 4, (road, value) -> road.kilos(1, value));
        numbers("kilos anew", 3, (road, value) -> road.kilosAnew(value));
        CHECK.outside(road(), "goods 3, what 5", () -> road().kilos(3, 5));
        CHECK.outside(road(), "goods -1, what -1", () -> road().kilos(-1, -1));
    }

    // "long bill()": more than an int holds
    private static void bill() {
        Icehighway road = new Icehighway();
        CHECK.same("nothing", road.bill(), 0L);
        for (int goods = 0; goods < 3; goods++) {
            for (int i = 0; i < 10; i++) {
                road.order(goods, 1000000);
            }
        }
        CHECK.same("all is flown", road.bill(), 1200000000L);
        Icehighway portage = Check.land(1);
        portage.gap(0);
        portage.vehicle(500, 59500, 300);
        for (int i = 1; i <= 80; i++) {
            portage.load(0, 0, 59500);
            portage.go(0);
            portage.pass(2);
            portage.go(0);
            portage.pass(2);
            CHECK.same("all that came", portage.bill(), 59500L * i);
        }
    }

    // "A call that throws an exception changes nothing": what no call tells of at once

    private static void nothingIsKeptOfRefusedCalls() {
        Icehighway road = road();
        road.weather(11);
        road.gap(22);
        CHECK.unfit(road, "weather", () -> road.weather(61));
        CHECK.unfit(road, "gap", () -> road.gap(121));
        CHECK.unfit(road, "snow", () -> road.snow(501));
        CHECK.outside(road, "limit", () -> road.limit(3, 300));
        CHECK.same("the cold", road.weather(0), 11);
        CHECK.same("the gap", road.gap(5), 22);
        CHECK.untimely(road, "load", () -> road.load(1, 2, 200));
        road.go(1);
        road.turn(1);
        CHECK.same("a refused load is not entered", road.kilosAnew(2), 0);
        CHECK.same("nor unloaded", road.kilos(2, 0), 0);
        road.order(0, 1000000);
        CHECK.unfit(road, "order", () -> road.order(0, 1000001));
        CHECK.same("a refused order is not added", road.order(0, 1), 1000001);
    }
}

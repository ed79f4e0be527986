/** Promises 1 to 10: a new object, piece, weather, snow, plough, flood, drill, open, limit, gap. */
final class PiecesTest {
    private static final Check CHECK = new Check("PiecesTest");

    public static void main(String[] args) {
        newObject();
        piece();
        pieceRefused();
        weather();
        snowAndPlough();
        flood();
        floodRefused();
        drill();
        open();
        limit();
        gap();
        CHECK.end();
    }

    private static Icehighway threePieces() {
        Icehighway road = new Icehighway();
        road.piece(Icehighway.LAKE, 3000, 20);
        road.piece(Icehighway.RIVER, 600, 5);
        road.piece(Icehighway.PORTAGE, 1000, 1);
        return road;
    }

    private static void newObject() {
        Icehighway road = new Icehighway();
        CHECK.same("minute", road.minute(), 0);
        CHECK.same("pieces", Check.pieces(road), 0);
        CHECK.same("vehicles", Check.vehicles(road), 0);
        CHECK.same("bill", road.bill(), 0L);
        CHECK.same("cold", road.weather(1), 0);
        CHECK.same("gap", road.gap(1), 5);
        CHECK.same("snow on nothing", road.snow(1), 0);
        for (int goods = 0; goods < 3; goods++) {
            for (int what = 0; what <= 4; what++) {
                CHECK.same("kilos", road.kilos(goods, what), 0);
            }
        }
        Icehighway other = new Icehighway();
        other.piece(0, 1, 1);
        CHECK.same("pieces of another", Check.pieces(road), 0);
    }

    private static void piece() {
        Icehighway road = new Icehighway();
        CHECK.same("first", road.piece(Icehighway.LAKE, 1, 1), 0);
        CHECK.same("second", road.piece(Icehighway.PORTAGE, 20000, 999), 1);
        for (int i = 2; i < 10; i++) {
            CHECK.same("next", road.piece(Icehighway.RIVER, 20000, 999), i);
        }
        int[] due = {0, 0, 0, 0, Icehighway.WHOLE, Icehighway.CLOSED, 100, 0};
        for (int p = 0; p < 10; p++) {
            for (int what = 0; what < due.length; what++) {
                CHECK.same("told of a new piece " + what, road.told(p, what), due[what]);
            }
            CHECK.same("known of a new piece", road.thickness(p, true), 0.0);
        }
        CHECK.untimely(road, "an eleventh", () -> road.piece(0, 1, 1));
        CHECK.unfit(road, "an eleventh, unfit", () -> road.piece(3, 1, 1));
    }

    private static void pieceRefused() {
        Icehighway road = new Icehighway();
        CHECK.unfit(road, "kind -1", () -> road.piece(-1, 1, 1));
        CHECK.unfit(road, "kind 3", () -> road.piece(3, 1, 1));
        CHECK.unfit(road, "metres 0", () -> road.piece(0, 0, 1));
        CHECK.unfit(road, "metres 20001", () -> road.piece(0, 20001, 1));
        CHECK.unfit(road, "depth 0", () -> road.piece(0, 1, 0));
        CHECK.unfit(road, "depth 1000", () -> road.piece(0, 1, 1000));
        CHECK.unfit(road, "depth 0 of a portage", () -> road.piece(2, 1, 0));
        CHECK.unfit(road, "least numbers", () -> road.piece(Integer.MIN_VALUE, 1, 1));
        CHECK.unfit(road, "greatest numbers", () -> road.piece(0, Integer.MAX_VALUE, 1));
        road.piece(0, 1, 1);
        road.vehicle(500, 0, 1);
        CHECK.untimely(road, "behind a vehicle", () -> road.piece(0, 1, 1));
        CHECK.unfit(road, "behind a vehicle, unfit", () -> road.piece(0, 1, 1000));
    }

    private static void weather() {
        Icehighway road = threePieces();
        CHECK.same("weather -20", road.weather(-20), 0);
        CHECK.same("weather 60", road.weather(60), -20);
        CHECK.unfit(road, "weather -21", () -> road.weather(-21));
        CHECK.unfit(road, "weather 61", () -> road.weather(61));
        CHECK.same("weather 0", road.weather(0), 60);
        CHECK.same("weather again", road.weather(30), 0);
        road.weather(60);
        road.pass(1439);
        CHECK.same("the last told counts alone", road.weather(30), 60);
        road.pass(1);
        CHECK.same("black by 30", road.told(0, 0), 240);
    }

    private static void snowAndPlough() {
        Icehighway road = threePieces();
        CHECK.same("snow 1", road.snow(1), 3);
        CHECK.same("snow 500", road.snow(500), 3);
        for (int p = 0; p < 3; p++) {
            CHECK.same("snow on it", road.told(p, 3), 501);
        }
        CHECK.unfit(road, "snow 0", () -> road.snow(0));
        CHECK.unfit(road, "snow -1", () -> road.snow(-1));
        CHECK.unfit(road, "snow 501", () -> road.snow(501));
        CHECK.same("plough a portage", road.plough(2), 501);
        CHECK.same("plough it again", road.plough(2), 0);
        CHECK.same("snow on the portage", road.told(2, 3), 0);
        CHECK.same("snow on the lake still", road.told(0, 3), 501);
        CHECK.outside(road, "plough 3", () -> road.plough(3));
        CHECK.outside(road, "plough -1", () -> road.plough(-1));
        CHECK.outside(road, "plough least", () -> road.plough(Integer.MIN_VALUE));
    }

    private static void flood() {
        Icehighway road = threePieces();
        road.weather(30);
        road.pass(1440);
        road.snow(70);
        CHECK.same("flood 100", road.flood(0, 100), 100);
        CHECK.same("snow is gone", road.told(0, 3), 0);
        CHECK.same("the river's is not", road.told(1, 3), 70);
        CHECK.same("no white ice yet", road.told(0, 1), 0);
        CHECK.same("flood a river", road.flood(1, 1), 1);
        for (int i = 2; i <= 5; i++) {
            CHECK.same("flood again", road.flood(0, 100), 100 * i);
        }
        CHECK.same("water", road.told(0, 2), 500);
        road.snow(5);
        CHECK.untimely(road, "flood 501", () -> road.flood(0, 1));
        CHECK.same("water on the river", road.told(1, 2), 1);
    }

    private static void floodRefused() {
        Icehighway road = threePieces();
        CHECK.untimely(road, "no ice", () -> road.flood(0, 1));
        CHECK.untimely(road, "a portage", () -> road.flood(2, 1));
        CHECK.unfit(road, "0 on a portage", () -> road.flood(2, 0));
        CHECK.unfit(road, "101", () -> road.flood(0, 101));
        CHECK.unfit(road, "-5", () -> road.flood(0, -5));
        CHECK.outside(road, "no such piece, and 0", () -> road.flood(3, 0));
        CHECK.outside(road, "no such piece", () -> road.flood(-1, 1));
        whiteIceAloneIsIce();
    }

    private static void whiteIceAloneIsIce() {
        Icehighway road = new Icehighway();
        road.piece(Icehighway.RIVER, 1, 1);
        road.snow(280);
        road.weather(9);
        road.pass(1440);
        CHECK.same("3600 by 1170 is 3, and 2 less", road.told(0, 0), 1);
        road.flood(0, 100);
        road.flood(0, 100);
        road.weather(60);
        road.pass(1440);
        CHECK.same("white ice", road.told(0, 1), 120);
        CHECK.same("water is left", road.told(0, 2), 80);
        for (int i = 0; i < 2; i++) {
            road.weather(-10);
            road.pass(1440);
        }
        CHECK.same("white ice melts ahead of black", road.told(0, 0), 1);
        CHECK.same("white ice gone", road.told(0, 1), 0);
        road.weather(-1);
        road.pass(1440);
        CHECK.same("black ice gone", road.told(0, 0), 0);
        CHECK.untimely(road, "water, but no ice", () -> road.flood(0, 1));
        road.weather(10);
        road.pass(1440);
        CHECK.same("water freezes without ice too", road.told(0, 1), 20);
        CHECK.same("no black ice below water", road.told(0, 0), 0);
        CHECK.same("white ice alone is flooded", road.flood(0, 1), 61);
        Icehighway thin = new Icehighway();
        thin.piece(Icehighway.RIVER, 1, 1);
        thin.snow(280);
        thin.weather(9);
        thin.pass(1440);
        thin.flood(0, 1);
        thin.weather(-1);
        thin.pass(1440);
        thin.snow(500);
        thin.weather(10);
        thin.pass(1440);
        CHECK.same("a millimetre of white ice", thin.thickness(0, false), 0.5);
        CHECK.same("a millimetre is flooded", thin.flood(0, 5), 5);
    }

    private static void drill() {
        Icehighway road = threePieces();
        CHECK.same("drill no ice", road.drill(0), 0.0);
        road.weather(30);
        road.pass(1440);
        CHECK.same("not known", road.thickness(0, true), 0.0);
        CHECK.same("drill", road.drill(0), 240.0);
        CHECK.same("known", road.thickness(0, true), 240.0);
        CHECK.same("the other is not known", road.thickness(1, true), 0.0);
        CHECK.same("drill a river", road.drill(1), 238.0);
        road.snow(500);
        CHECK.same("drill a portage", road.drill(2), 0.0);
        road.flood(0, 61);
        road.pass(1440);
        road.weather(10);
        road.pass(1440);
        CHECK.same("white ice is half", road.told(0, 1), 61);
        CHECK.same("drill half a millimetre", road.drill(0), road.told(0, 0) + 30.5);
        CHECK.outside(road, "drill 3", () -> road.drill(3));
        CHECK.outside(road, "drill -1", () -> road.drill(-1));
    }

    private static void open() {
        Icehighway road = threePieces();
        CHECK.same("open 1", road.open(0, Icehighway.LIGHT), Icehighway.CLOSED);
        CHECK.same("open 2", road.open(0, Icehighway.FULL), Icehighway.LIGHT);
        CHECK.same("told", road.told(0, 5), 2);
        CHECK.same("the other is closed", road.told(1, 5), 0);
        CHECK.same("close", road.open(0, Icehighway.CLOSED), Icehighway.FULL);
        CHECK.same("a portage", road.open(2, Icehighway.FULL), Icehighway.CLOSED);
        CHECK.unfit(road, "how 3", () -> road.open(0, 3));
        CHECK.unfit(road, "how -1", () -> road.open(2, -1));
        CHECK.outside(road, "piece 3, how 3", () -> road.open(3, 3));
        CHECK.outside(road, "piece -1", () -> road.open(-1, 0));
    }

    private static void limit() {
        Icehighway road = threePieces();
        CHECK.same("limit 1", road.limit(2, 1), 100);
        CHECK.same("limit 300", road.limit(2, 300), 1);
        CHECK.same("told", road.told(2, 6), 300);
        CHECK.same("the other", road.told(1, 6), 100);
        CHECK.unfit(road, "0", () -> road.limit(0, 0));
        CHECK.unfit(road, "301", () -> road.limit(0, 301));
        CHECK.outside(road, "piece 3, speed 0", () -> road.limit(3, 0));
        CHECK.outside(road, "piece -1", () -> road.limit(-1, 1));
    }

    private static void gap() {
        Icehighway road = threePieces();
        CHECK.same("gap 120", road.gap(120), 5);
        CHECK.same("gap 0", road.gap(0), 120);
        CHECK.unfit(road, "-1", () -> road.gap(-1));
        CHECK.unfit(road, "121", () -> road.gap(121));
        CHECK.same("gap 7", road.gap(7), 0);
    }
}

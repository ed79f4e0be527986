/** What happens minute by minute: leaving, coming onto pieces, what is against it, and breaking through. */
final class RoadTest {
    private static final Check CHECK = new Check("RoadTest");

    public static void main(String[] args) {
        overThePieces();
        closed();
        thawByDay();
        light();
        gaps();
        gapOfOneThatIsLost();
        gapOfItself();
        narrow();
        wideLake();
        tooWeak();
        firstReasonCounts();
        wear();
        wearNotBelowNothing();
        breakThrough();
        breakThroughOnTheWayBack();
        othersStayOnABrokenPiece();
        oneAheadOfTheNext();
        limitForThoseWhoCome();
        CHECK.end();
    }

    private static int where(Icehighway road, int vehicle) {
        return road.ofVehicle(vehicle, 0);
    }

    private static Icehighway ice(int kind, int metres) {
        return ice(kind, metres, 24);
    }

    /** Ice of so many days of cold, drilled and open, on the one piece; the cold is 0 then, and a day begins. */
    private static Icehighway ice(int kind, int metres, int days) {
        Icehighway road = new Icehighway();
        road.piece(kind, metres, 999);
        road.weather(39);
        for (int i = 0; i < days; i++) {
            road.pass(1440);
        }
        road.weather(0);
        road.drill(0);
        road.open(0, Icehighway.FULL);
        return road;
    }

    private static void overThePieces() {
        Icehighway road = new Icehighway();
        road.piece(Icehighway.PORTAGE, 1201, 1);
        road.piece(Icehighway.PORTAGE, 600, 1);
        road.snow(100);
        road.open(0, Icehighway.FULL);
        road.open(1, Icehighway.FULL);
        road.vehicle(1000, 100, 100);
        road.load(0, 0, 60);
        road.go(0);
        CHECK.same("not on it by going alone", where(road, 0), Icehighway.RAMP);
        CHECK.same("no minute at a ramp", road.ofVehicle(0, 6), Icehighway.NONE);
        road.pass(1);
        CHECK.same("on the first", where(road, 0), Icehighway.ON);
        CHECK.same("over in minute 4", road.ofVehicle(0, 6), 4);
        CHECK.same("none behind it", road.ofVehicle(0, 4), 0);
        CHECK.same("one is on it", road.told(0, 7), 1);
        road.pass(2);
        CHECK.same("still on the first", road.told(0, 7), 1);
        road.pass(1);
        CHECK.same("at once on the second", where(road, 0), Icehighway.ON);
        CHECK.same("one behind it", road.ofVehicle(0, 4), 1);
        CHECK.same("none is on the first", road.told(0, 7), 0);
        CHECK.same("one is on the second", road.told(1, 7), 1);
        CHECK.same("over in minute 5", road.ofVehicle(0, 6), 5);
        CHECK.same("in a vehicle", road.kilos(0, 2), 60);
        road.pass(1);
        CHECK.same("at the mine", where(road, 0), Icehighway.MINE);
        CHECK.same("no minute at the mine", road.ofVehicle(0, 6), Icehighway.NONE);
        CHECK.same("two behind it", road.ofVehicle(0, 4), 2);
        CHECK.same("unloaded", road.ofVehicle(0, 3), Icehighway.NONE);
        CHECK.same("at the mine, the kilos", road.kilos(0, 1), 60);
        CHECK.same("in no vehicle", road.kilos(0, 2), 0);
        road.go(0);
        road.pass(1);
        CHECK.same("back on the second: one behind it", road.ofVehicle(0, 4), 1);
        CHECK.same("back on the second", road.told(1, 7), 1);
        road.pass(1);
        CHECK.same("back on the first: none behind it", road.ofVehicle(0, 4), 0);
        CHECK.same("back on the first", road.told(0, 7), 1);
        road.pass(3);
        CHECK.same("at the base", where(road, 0), Icehighway.BASE);
        CHECK.same("minute", road.minute(), 10);
    }

    private static void closed() {
        Icehighway road = Check.land(600);
        road.vehicle(1000, 0, 100);
        road.open(0, Icehighway.CLOSED);
        road.go(0);
        CHECK.same("closed", road.why(0), 1);
        road.pass(100);
        CHECK.same("stands at the ramp", where(road, 0), Icehighway.RAMP);
        road.open(0, Icehighway.LIGHT);
        CHECK.same("open", road.why(0), 0);
        road.pass(1);
        road.open(0, Icehighway.CLOSED);
        CHECK.same("not at a ramp", road.why(0), Icehighway.NONE);
        road.pass(1);
        CHECK.same("closing holds none that is on it", where(road, 0), Icehighway.MINE);
    }

    private static void thawByDay() {
        Icehighway road = ice(Icehighway.LAKE, 600);
        road.vehicle(500, 0, 100);
        road.weather(-1);
        road.go(0);
        CHECK.same("at night", road.why(0), 0);
        road.open(0, Icehighway.CLOSED);
        road.pass(479);
        road.open(0, Icehighway.FULL);
        CHECK.same("minute 479", road.why(0), 0);
        road.pass(1);
        CHECK.same("minute 480", road.why(0), 2);
        CHECK.same("stands in minute 480", where(road, 0), Icehighway.RAMP);
        road.weather(0);
        CHECK.same("cold 0", road.why(0), 0);
        road.weather(-20);
        road.pass(719);
        CHECK.same("minute 1199", road.why(0), 2);
        CHECK.same("stands in minute 1199", where(road, 0), Icehighway.RAMP);
        road.pass(1);
        CHECK.same("comes in minute 1200", where(road, 0), Icehighway.ON);
        Icehighway land = Check.land(600);
        land.vehicle(500, 0, 100);
        land.weather(-1);
        land.pass(600);
        land.go(0);
        CHECK.same("a portage by day", land.why(0), 0);
    }

    private static void light() {
        Icehighway road = Check.land(600);
        road.open(0, Icehighway.LIGHT);
        road.vehicle(5000, 10, 100);
        road.vehicle(5001, 0, 100);
        road.vehicle(4999, 10, 100);
        road.load(2, 0, 2);
        road.go(0);
        road.go(1);
        road.go(2);
        CHECK.same("5000", road.why(0), 0);
        CHECK.same("5001", road.why(1), 3);
        CHECK.same("5001 with its load", road.why(2), 3);
        road.pass(1);
        CHECK.same("5000 comes", where(road, 0), Icehighway.ON);
        CHECK.same("5001 does not", where(road, 1), Icehighway.RAMP);
        road.open(0, Icehighway.FULL);
        CHECK.same("full: the gap is left", road.why(1), 4);
    }

    private static void gaps() {
        Icehighway road = Check.land(20000);
        for (int i = 0; i < 4; i++) {
            road.vehicle(500, 0, 100);
            road.go(i);
        }
        road.pass(1);
        CHECK.same("one a gap", road.told(0, 7), 1);
        road.pass(4);
        CHECK.same("4 minutes ago", road.why(1), 4);
        CHECK.same("still one", road.told(0, 7), 1);
        road.pass(1);
        CHECK.same("5 minutes ago", where(road, 1), Icehighway.ON);
        CHECK.same("not the third too", where(road, 2), Icehighway.RAMP);
        road.gap(1);
        CHECK.same("came in this minute", road.why(2), 4);
        road.gap(0);
        CHECK.same("no gap", road.why(2), 0);
        road.pass(1);
        CHECK.same("all", road.told(0, 7), 4);
        gapsOnTheWayBack();
        Icehighway long120 = Check.land(600);
        long120.gap(120);
        long120.vehicle(500, 0, 100);
        long120.vehicle(500, 0, 100);
        long120.go(0);
        CHECK.same("none came before", long120.why(0), 0);
        long120.pass(1);
        long120.go(1);
        long120.pass(119);
        CHECK.same("119 ago, though it is long gone", long120.why(1), 4);
        long120.pass(1);
        CHECK.same("120 ago", where(long120, 1), Icehighway.ON);
    }

    private static void gapsOnTheWayBack() {
        Icehighway road = Check.land(600);
        road.gap(0);
        road.vehicle(500, 0, 100);
        road.vehicle(500, 0, 100);
        road.go(0);
        road.go(1);
        road.pass(2);
        road.gap(6);
        road.go(0);
        road.go(1);
        road.pass(1);
        CHECK.same("the first is on its way back", where(road, 0), Icehighway.ON);
        CHECK.same("one that came this way in this minute", road.why(1), 4);
        road.pass(5);
        CHECK.same("5 minutes ago", road.why(1), 4);
        road.pass(1);
        CHECK.same("6 minutes ago", where(road, 1), Icehighway.ON);
    }

    private static void gapOfOneThatIsLost() {
        Icehighway road = ice(Icehighway.LAKE, 600);
        int bears = road.bears(0, true);
        road.vehicle(bears, 0, 100);
        road.vehicle(500, 0, 100);
        road.go(0);
        road.pass(2);
        road.go(0);
        road.pass(1);
        CHECK.same("lost", where(road, 0), Icehighway.LOST);
        CHECK.same("closed by that", road.told(0, 5), Icehighway.CLOSED);
        road.open(0, Icehighway.FULL);
        road.gap(3);
        road.go(1);
        CHECK.same("in the other direction: 2 minutes ago", road.why(1), 4);
        road.gap(2);
        CHECK.same("the lost one went the other way", road.why(1), 0);
        Icehighway same = ice(Icehighway.LAKE, 600);
        same.vehicle(bears, 0, 100);
        same.vehicle(bears, 0, 100);
        same.vehicle(500, 0, 100);
        same.gap(1);
        same.go(0);
        same.pass(2);
        same.go(1);
        same.pass(1);
        CHECK.same("lost too", where(same, 1), Icehighway.LOST);
        same.open(0, Icehighway.FULL);
        same.go(2);
        CHECK.same("the lost one came in this minute", same.why(2), 4);
        same.pass(1);
        CHECK.same("a minute later it comes", where(same, 2), Icehighway.ON);
    }

    private static void gapOfItself() {
        Icehighway road = new Icehighway();
        road.piece(Icehighway.PORTAGE, 60, 1);
        road.piece(Icehighway.PORTAGE, 60, 1);
        road.snow(100);
        road.open(0, Icehighway.FULL);
        road.vehicle(500, 0, 100);
        road.go(0);
        road.pass(2);
        road.turn(0);
        road.pass(1);
        CHECK.same("back on the first", road.told(0, 7), 1);
        road.pass(1);
        CHECK.same("at the base", where(road, 0), Icehighway.BASE);
        road.go(0);
        CHECK.same("itself, 3 minutes ago", road.why(0), 4);
        road.pass(1);
        CHECK.same("itself, 4 minutes ago", where(road, 0), Icehighway.RAMP);
        road.pass(1);
        CHECK.same("itself, 5 minutes ago", where(road, 0), Icehighway.ON);
    }

    private static void narrow() {
        for (int kind = Icehighway.RIVER; kind <= Icehighway.PORTAGE; kind++) {
            Icehighway road = ice(kind, 1200);
            road.snow(100);
            road.gap(0);
            road.vehicle(500, 0, 100);
            road.vehicle(500, 0, 100);
            road.vehicle(500, 0, 100);
            road.go(0);
            road.pass(3);
            road.go(0);
            road.go(1);
            road.go(2);
            road.pass(1);
            CHECK.same("the lesser number is first", where(road, 0), Icehighway.ON);
            CHECK.same("the others stand", road.told(0, 7), 1);
            CHECK.same("narrow", road.why(1), 5);
            road.pass(1);
            CHECK.same("narrow still", road.why(2), 5);
            road.pass(1);
            CHECK.same("at the base", where(road, 0), Icehighway.BASE);
            CHECK.same("both in the same direction", road.told(0, 7), 2);
            road.go(0);
            CHECK.same("the same way", road.why(0), 0);
        }
    }

    private static void wideLake() {
        Icehighway road = ice(Icehighway.LAKE, 1200);
        road.vehicle(500, 0, 100);
        road.vehicle(500, 0, 100);
        road.go(0);
        road.pass(3);
        road.go(0);
        road.go(1);
        CHECK.same("the gap is of those that came the same way", road.why(1), 4);
        road.gap(2);
        CHECK.same("not narrow", road.why(1), 0);
        road.pass(1);
        CHECK.same("both on it", road.told(0, 7), 2);
    }

    private static void tooWeak() {
        Icehighway road = ice(Icehighway.LAKE, 12000);
        int bears = road.bears(0, true);
        road.gap(0);
        road.vehicle(bears - 1000, 0, 100);
        road.vehicle(500, 501, 100);
        road.vehicle(500, 0, 100);
        road.load(1, 0, 1);
        for (int i = 0; i < 3; i++) {
            road.go(i);
        }
        road.pass(1);
        CHECK.same("first and second: 499 left", road.told(0, 7), 2);
        CHECK.same("together above", road.why(2), 6);
        road.pass(19);
        CHECK.same("stands", where(road, 2), Icehighway.RAMP);
        road.pass(1);
        CHECK.same("comes as they have left", where(road, 2), Icehighway.ON);
        Icehighway edge = ice(Icehighway.LAKE, 12000);
        edge.vehicle(bears, 0, 100);
        edge.vehicle(bears + 1, 0, 100);
        edge.go(0);
        edge.go(1);
        CHECK.same("exactly what it bears", edge.why(0), 0);
        CHECK.same("1 above", edge.why(1), 6);
        edge.gap(0);
        edge.pass(1);
        CHECK.same("on it", where(edge, 0), Icehighway.ON);
        Icehighway unknown = new Icehighway();
        unknown.piece(0, 600, 1);
        unknown.vehicle(500, 0, 1);
        unknown.weather(39);
        unknown.pass(3000);
        unknown.open(0, 2);
        unknown.go(0);
        CHECK.isTrue("it bears", unknown.bears(0, false) > 500);
        CHECK.same("but that is not known", unknown.why(0), 6);
    }

    private static void firstReasonCounts() {
        Icehighway road = ice(Icehighway.RIVER, 600);
        road.pass(500);
        road.vehicle(500, 0, 100);
        road.vehicle(40000, 0, 100);
        road.go(0);
        road.pass(2);
        road.go(0);
        road.limit(0, 1);
        road.pass(1);
        CHECK.same("the first is on it, on its way back", where(road, 0), Icehighway.ON);
        road.go(1);
        road.gap(120);
        road.weather(-1);
        road.open(0, Icehighway.CLOSED);
        CHECK.same("all is against it: closed", road.why(1), 1);
        road.open(0, Icehighway.LIGHT);
        CHECK.same("thaw by day", road.why(1), 2);
        road.weather(0);
        CHECK.same("too heavy", road.why(1), 3);
        road.open(0, Icehighway.FULL);
        CHECK.same("too near", road.why(1), 4);
        road.gap(0);
        CHECK.same("narrow", road.why(1), 5);
        road.pass(100);
        CHECK.same("the first is at the base", where(road, 0), Icehighway.BASE);
        CHECK.same("too weak", road.why(1), 6);
    }

    private static void wear() {
        Icehighway road = ice(Icehighway.LAKE, 600, 40);
        int black = road.told(0, 0);
        road.gap(0);
        road.vehicle(19999, 20001, 100);
        road.go(0);
        road.pass(2);
        CHECK.same("19999 wears nothing", road.told(0, 0), black);
        road.go(0);
        road.pass(2);
        road.load(0, 0, 1);
        road.go(0);
        road.pass(1);
        CHECK.same("nothing while it is on it", road.told(0, 0), black);
        road.pass(1);
        CHECK.same("20000 wears 1, with the load that it had there", road.told(0, 0), black - 1);
        CHECK.same("that is not known", road.thickness(0, true), (double) black);
        road.go(0);
        road.pass(2);
        CHECK.same("and nothing without", road.told(0, 0), black - 1);
        road.load(0, 0, 20001);
        road.go(0);
        CHECK.isTrue("bears 40000", road.bears(0, true) >= 40000);
        road.pass(2);
        CHECK.same("40000 wears 2", road.told(0, 0), black - 3);
        Icehighway land = Check.land(600);
        land.vehicle(40000, 0, 100);
        land.go(0);
        land.pass(2);
        CHECK.same("a portage does not wear", land.told(0, 0), 0);
        CHECK.same("nor its snow", land.told(0, 3), 100);
    }

    private static void wearNotBelowNothing() {
        Icehighway road = new Icehighway();
        road.piece(Icehighway.RIVER, 600, 999);
        road.snow(280);
        road.weather(9);
        road.pass(1440);
        CHECK.same("little black ice", road.told(0, 0), 1);
        road.weather(39);
        for (int i = 0; i < 20; i++) {
            // Water that never ends lets white ice grow alone.
            road.flood(0, i == 0 ? 100 : 78);
            road.pass(1440);
        }
        CHECK.same("much white ice", road.told(0, 1), 1560);
        CHECK.same("still little black ice", road.told(0, 0), 1);
        road.weather(0);
        road.drill(0);
        road.open(0, Icehighway.FULL);
        road.vehicle(20000, 0, 100);
        road.go(0);
        road.pass(2);
        CHECK.same("worn", road.told(0, 0), 0);
        road.go(0);
        road.pass(4);
        CHECK.same("over anew", where(road, 0), Icehighway.BASE);
        CHECK.same("not below 0", road.told(0, 0), 0);
        CHECK.same("white ice does not wear", road.told(0, 1), 1560);
    }

    private static void breakThrough() {
        Icehighway road = ice(Icehighway.LAKE, 600);
        int bears = road.bears(0, true);
        road.gap(0);
        road.vehicle(20000, bears - 20000, 100);
        road.vehicle(bears, 0, 100);
        road.load(0, 2, bears - 20000);
        road.go(1);
        road.pass(2);
        CHECK.same("over", where(road, 1), Icehighway.MINE);
        CHECK.isTrue("it bears less really", road.bears(0, false) < bears);
        CHECK.same("as is known it bears the same", road.bears(0, true), bears);
        road.go(0);
        CHECK.same("nothing is known against it", road.why(0), 0);
        road.pass(1);
        CHECK.same("lost", where(road, 0), Icehighway.LOST);
        CHECK.same("weight goes on to be told", road.ofVehicle(0, 1), bears);
        CHECK.same("load goes on to be told", road.ofVehicle(0, 2), bears - 20000);
        CHECK.same("goods go on to be told", road.ofVehicle(0, 3), 2);
        CHECK.same("nothing behind it", road.ofVehicle(0, 4), 0);
        CHECK.same("it went to the mine", road.ofVehicle(0, 5), 1);
        CHECK.same("no minute", road.ofVehicle(0, 6), Icehighway.NONE);
        CHECK.same("no reason", road.why(0), Icehighway.NONE);
        CHECK.same("closed", road.told(0, 5), Icehighway.CLOSED);
        CHECK.same("wet", road.told(0, 4), Icehighway.WET);
        CHECK.same("none on it", road.told(0, 7), 0);
        CHECK.same("bears the half", road.bears(0, true), bears / 2);
        CHECK.same("kilos taken", road.kilos(2, 0), bears - 20000);
        CHECK.same("kilos taken anew", road.kilosAnew(2), bears - 20000);
        CHECK.same("kilos in vehicles", road.kilos(2, 2), 0);
        CHECK.same("kilos lost", road.kilos(2, 3), bears - 20000);
        CHECK.untimely(road, "a lost one does not go", () -> road.go(0));
        CHECK.untimely(road, "a lost one does not turn", () -> road.turn(0));
        CHECK.untimely(road, "a lost one is not loaded", () -> road.load(0, 0, 1));
        int black = road.told(0, 0);
        road.pass(1000);
        CHECK.same("it stays lost", where(road, 0), Icehighway.LOST);
        CHECK.same("it wears nothing", road.told(0, 0), black);
        road.open(0, Icehighway.FULL);
        road.go(1);
        CHECK.same("its weight is not on the piece", road.why(1), 6);
        road.vehicle(bears / 2, 0, 1);
        road.go(2);
        CHECK.same("half of it comes", road.why(2), 0);
    }

    private static void breakThroughOnTheWayBack() {
        Icehighway road = new Icehighway();
        road.piece(Icehighway.RIVER, 600, 999);
        road.piece(Icehighway.RIVER, 600, 999);
        road.weather(39);
        for (int i = 0; i < 24; i++) {
            road.pass(1440);
        }
        road.drill(0);
        road.drill(1);
        road.open(0, Icehighway.FULL);
        road.open(1, Icehighway.FULL);
        int bears = road.bears(1, true);
        road.vehicle(bears, 0, 100);
        road.go(0);
        road.pass(3);
        CHECK.same("at the mine", where(road, 0), Icehighway.MINE);
        road.go(0);
        road.pass(1);
        CHECK.same("lost", where(road, 0), Icehighway.LOST);
        CHECK.same("one piece behind it", road.ofVehicle(0, 4), 1);
        CHECK.same("it went to the base", road.ofVehicle(0, 5), 0);
        CHECK.same("the second is closed", road.told(1, 5), Icehighway.CLOSED);
        CHECK.same("the first is not", road.told(0, 5), Icehighway.FULL);
        CHECK.same("the first is whole", road.told(0, 4), Icehighway.WHOLE);
    }

    private static void othersStayOnABrokenPiece() {
        Icehighway road = ice(Icehighway.LAKE, 12000);
        int bears = road.bears(0, true);
        road.gap(0);
        road.vehicle(bears - 600, 0, 100);
        road.vehicle(600, 0, 50);
        road.vehicle(bears - 600, 0, 100);
        road.vehicle(500, 0, 50);
        road.go(0);
        road.pass(1);
        road.pass(20);
        CHECK.same("the first is over and has worn", where(road, 0), Icehighway.MINE);
        road.go(1);
        road.pass(1);
        CHECK.same("the second is on it", where(road, 1), Icehighway.ON);
        int over = road.ofVehicle(1, 6);
        road.go(2);
        road.go(3);
        road.pass(1);
        CHECK.same("the third breaks through, together with the second", where(road, 2), Icehighway.LOST);
        CHECK.same("closed for the fourth in the same minute", where(road, 3), Icehighway.RAMP);
        CHECK.same("the reason", road.why(3), 1);
        CHECK.same("the second is still on it", road.told(0, 7), 1);
        CHECK.same("its minute is the same", road.ofVehicle(1, 6), over);
        road.pass(over - road.minute());
        CHECK.same("the second comes to the mine", where(road, 1), Icehighway.MINE);
    }

    private static void oneAheadOfTheNext() {
        Icehighway road = new Icehighway();
        road.piece(Icehighway.PORTAGE, 600, 1);
        road.piece(Icehighway.PORTAGE, 600, 1);
        road.snow(100);
        road.gap(0);
        road.open(0, Icehighway.FULL);
        road.open(1, Icehighway.FULL);
        road.vehicle(30000, 0, 100);
        road.vehicle(30001, 0, 100);
        road.vehicle(30000, 0, 100);
        road.go(1);
        road.pass(1);
        road.go(0);
        road.pass(1);
        CHECK.same("the first stands, the second leaves behind it", where(road, 0), Icehighway.RAMP);
        CHECK.same("the second is on the next", road.ofVehicle(1, 4), 1);
        road.go(2);
        road.pass(1);
        CHECK.same("the first comes", where(road, 0), Icehighway.ON);
        CHECK.same("the third too", where(road, 2), Icehighway.ON);
        road.pass(1);
        CHECK.same("both go on", road.told(1, 7), 2);
    }

    private static void limitForThoseWhoCome() {
        Icehighway road = Check.land(6000);
        road.vehicle(500, 0, 300);
        road.vehicle(500, 0, 300);
        road.gap(0);
        road.go(0);
        road.pass(1);
        CHECK.same("by 100", road.ofVehicle(0, 6), 11);
        road.limit(0, 50);
        CHECK.same("those on it go as they did", road.ofVehicle(0, 6), 11);
        road.go(1);
        road.pass(1);
        CHECK.same("by 50", road.ofVehicle(1, 6), 22);
        road.limit(0, 300);
        road.pass(9);
        CHECK.same("the first is over", where(road, 0), Icehighway.MINE);
        road.pass(10);
        CHECK.same("the second is on it", where(road, 1), Icehighway.ON);
        road.pass(1);
        CHECK.same("the second is over", where(road, 1), Icehighway.MINE);
    }
}

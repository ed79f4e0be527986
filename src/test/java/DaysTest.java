/** The end of a day: freezing, growing, cracking, melting; and what pieces bear then. */
final class DaysTest {
    private static final Check CHECK = new Check("DaysTest");

    public static void main(String[] args) {
        growth();
        growthOfRivers();
        floodsFreeze();
        cracks();
        thaw();
        knownByThaw();
        wetByThaw();
        bearing();
        portage();
        endOfDayComesFirst();
        CHECK.end();
    }

    private static Icehighway one(int kind) {
        Icehighway road = new Icehighway();
        road.piece(kind, 1000, 50);
        return road;
    }

    private static void day(Icehighway road, int cold) {
        road.weather(cold);
        road.pass(1440);
    }

    private static void growth() {
        Icehighway road = one(Icehighway.LAKE);
        road.weather(30);
        road.pass(1439);
        CHECK.same("a minute ahead of the end", road.told(0, 0), 0);
        road.pass(1);
        CHECK.same("12000 by 50", road.told(0, 0), 240);
        road.pass(1439);
        CHECK.same("once a day", road.told(0, 0), 240);
        road.snow(100);
        road.pass(1);
        CHECK.same("12000 by 690", road.told(0, 0), 257);
        day(road, 0);
        CHECK.same("0 is neither", road.told(0, 0), 257);
        CHECK.same("0 melts no snow", road.told(0, 3), 100);
        day(road, 1);
        CHECK.same("400 by 707", road.told(0, 0), 257);
        road.plough(0);
        day(road, 1);
        CHECK.same("400 by 307", road.told(0, 0), 258);
        road.pass(2880);
        CHECK.same("two days of 1", road.told(0, 0), 260);
    }

    private static void growthOfRivers() {
        Icehighway road = one(Icehighway.RIVER);
        day(road, 1);
        CHECK.same("400 by 50 less 2", road.told(0, 0), 6);
        road.snow(86);
        day(road, 1);
        CHECK.same("400 by 400 less 2 is none", road.told(0, 0), 6);
        road.snow(500);
        day(road, 1);
        CHECK.same("0 less 2 is none", road.told(0, 0), 6);
        road.plough(0);
        day(road, 1);
        CHECK.same("400 by 56 less 2", road.told(0, 0), 11);
    }

    private static void floodsFreeze() {
        Icehighway road = one(Icehighway.LAKE);
        day(road, 30);
        road.flood(0, 100);
        day(road, 20);
        CHECK.same("2 for each degree", road.told(0, 1), 40);
        CHECK.same("water left", road.told(0, 2), 60);
        CHECK.same("no black ice below water", road.told(0, 0), 240);
        road.flood(0, 20);
        day(road, 40);
        CHECK.same("all the water", road.told(0, 1), 120);
        CHECK.same("no water left", road.told(0, 2), 0);
        CHECK.same("16000 by 240, 120 and 50", road.told(0, 0), 279);
        CHECK.same("thickness", road.thickness(0, false), 339.0);
        road.flood(0, 1);
        day(road, 60);
        CHECK.same("at most what is there", road.told(0, 1), 121);
        CHECK.same("24000 by 450", road.told(0, 0), 332);
        CHECK.same("thickness of half", road.thickness(0, false), 392.5);
        CHECK.same("nothing is known yet", road.thickness(0, true), 0.0);
    }

    private static void cracks() {
        Icehighway road = one(Icehighway.LAKE);
        day(road, 39);
        CHECK.same("39 cracks nothing", road.told(0, 4), Icehighway.WHOLE);
        day(road, 40);
        CHECK.same("40 cracks", road.told(0, 4), Icehighway.DRY);
        day(road, 60);
        CHECK.same("60 on a dry one", road.told(0, 4), Icehighway.DRY);
        day(road, 9);
        CHECK.same("9 heals nothing", road.told(0, 4), Icehighway.DRY);
        day(road, 0);
        CHECK.same("0 heals nothing", road.told(0, 4), Icehighway.DRY);
        day(road, 10);
        CHECK.same("10 heals", road.told(0, 4), Icehighway.WHOLE);
        day(road, 40);
        day(road, -1);
        CHECK.same("a thaw wets", road.told(0, 4), Icehighway.WET);
        day(road, -1);
        CHECK.same("wet stays", road.told(0, 4), Icehighway.WET);
        day(road, 40);
        CHECK.same("40 leaves it wet", road.told(0, 4), Icehighway.WET);
        day(road, 9);
        CHECK.same("9 leaves it wet", road.told(0, 4), Icehighway.WET);
        day(road, 39);
        CHECK.same("39 dries", road.told(0, 4), Icehighway.DRY);
        day(road, 39);
        CHECK.same("39 heals", road.told(0, 4), Icehighway.WHOLE);
        Icehighway land = one(Icehighway.PORTAGE);
        day(land, 60);
        CHECK.same("a portage does not crack", land.told(0, 4), Icehighway.WHOLE);
        CHECK.same("nor grow", land.told(0, 0), 0);
    }

    private static void thaw() {
        Icehighway road = one(Icehighway.LAKE);
        day(road, 30);
        road.flood(0, 50);
        day(road, 30);
        int black = road.told(0, 0);
        CHECK.same("12000 by 340", black, 275);
        road.flood(0, 80);
        road.snow(10);
        day(road, -1);
        CHECK.same("snow first", road.told(0, 3), 4);
        CHECK.same("white not yet", road.told(0, 1), 50);
        day(road, -2);
        CHECK.same("the rest of the snow", road.told(0, 3), 0);
        CHECK.same("8 of the white", road.told(0, 1), 42);
        day(road, -8);
        CHECK.same("the rest of the white", road.told(0, 1), 0);
        CHECK.same("6 of the black", road.told(0, 0), black - 6);
        CHECK.same("water stays", road.told(0, 2), 80);
        for (int i = 0; i < 3; i++) {
            day(road, -20);
        }
        CHECK.same("no more than all", road.told(0, 0), 0);
        CHECK.same("thickness", road.thickness(0, false), 0.0);
    }

    private static void knownByThaw() {
        Icehighway road = one(Icehighway.LAKE);
        day(road, 30);
        road.flood(0, 15);
        day(road, 30);
        CHECK.same("12000 by 305", road.told(0, 0), 279);
        CHECK.same("drill", road.drill(0), 286.5);
        road.snow(3);
        day(road, -2);
        CHECK.same("9 of white", road.thickness(0, true), 282.0);
        day(road, -2);
        CHECK.same("6 of white, 6 of black", road.thickness(0, true), 273.0);
        day(road, 30);
        CHECK.same("growth is not known", road.thickness(0, true), 273.0);
        CHECK.same("12000 by 323", road.thickness(0, false), 310.0);
        day(road, -20);
        day(road, -20);
        CHECK.same("240 less", road.thickness(0, true), 33.0);
        day(road, -20);
        CHECK.same("not below 0", road.thickness(0, true), 0.0);
        CHECK.same("nothing is left", road.thickness(0, false), 0.0);
        Icehighway unknown = one(Icehighway.RIVER);
        day(unknown, 30);
        day(unknown, -1);
        CHECK.same("not known, not below 0", unknown.thickness(0, true), 0.0);
    }

    private static void wetByThaw() {
        Icehighway road = one(Icehighway.LAKE);
        day(road, -10);
        CHECK.same("a whole one stays whole", road.told(0, 4), Icehighway.WHOLE);
        day(road, 50);
        road.snow(500);
        day(road, -1);
        CHECK.same("wet, though snow alone melts", road.told(0, 4), Icehighway.WET);
    }

    private static void bearing() {
        Icehighway road = one(Icehighway.LAKE);
        CHECK.same("nothing", road.bears(0, false), 0);
        day(road, 30);
        CHECK.same("not known", road.bears(0, true), 0);
        CHECK.same("0.04 by 240 by 240", road.bears(0, false), 2304);
        road.drill(0);
        CHECK.same("known", road.bears(0, true), 2304);
        day(road, 40);
        CHECK.same("16000 by 290", road.thickness(0, false), 295.0);
        CHECK.same("dry, as is known", road.bears(0, true), 1728);
        CHECK.same("0.04 by 295 by 295 by 0.75 is 2610.75", road.bears(0, false), 2610);
        day(road, -1);
        CHECK.same("wet: 0.04 by 289 by 289 by 0.5 is 1670.42", road.bears(0, false), 1670);
        CHECK.same("wet, as is known: 234", road.bears(0, true), 1095);
        CHECK.outside(road, "bears 1", () -> road.bears(1, true));
        CHECK.outside(road, "bears -1", () -> road.bears(-1, false));
    }

    private static void portage() {
        Icehighway road = one(Icehighway.PORTAGE);
        CHECK.same("bare", road.bears(0, false), 0);
        road.snow(99);
        CHECK.same("99", road.bears(0, true), 0);
        road.snow(1);
        CHECK.same("100, known", road.bears(0, true), 60000);
        CHECK.same("100, really", road.bears(0, false), 60000);
        CHECK.same("thickness", road.thickness(0, false), 0.0);
        day(road, -1);
        CHECK.same("94", road.bears(0, false), 0);
        CHECK.same("snow of a portage melts", road.told(0, 3), 94);
        day(road, -20);
        CHECK.same("all of it", road.told(0, 3), 0);
        CHECK.same("no ice", road.told(0, 0), 0);
    }

    private static void endOfDayComesFirst() {
        Icehighway road = one(Icehighway.LAKE);
        day(road, 60);
        road.drill(0);
        road.vehicle(9216, 0, 100);
        road.open(0, 2);
        road.weather(20);
        road.pass(1439);
        CHECK.same("dry: bears 6912", road.bears(0, true), 6912);
        road.go(0);
        CHECK.same("too weak", road.why(0), 6);
        road.pass(1);
        CHECK.same("healed at the end of the day, ahead of the vehicle", road.ofVehicle(0, 0), Icehighway.ON);
    }
}

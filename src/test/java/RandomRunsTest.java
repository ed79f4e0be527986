import java.util.Random;

/** Runs of calls by a random source of fixed seeds: the program against SlowRoad, and against itself. */
final class RandomRunsTest {
    private static final Check CHECK = new Check("RandomRunsTest");
    private static final int RUNS = 300;
    private static final int CALLS = 220;
    private static final int[] SEEN_REASONS = new int[8];
    private static final int[] SEEN_STATES = new int[5];

    public static void main(String[] args) {
        for (int seed = 1; seed <= RUNS; seed++) {
            run(seed);
        }
        for (int i = 0; i < SEEN_REASONS.length; i++) {
            CHECK.isTrue("reason " + (i - 1) + " was seen", SEEN_REASONS[i] > 0);
        }
        for (int i = 0; i < SEEN_STATES.length; i++) {
            CHECK.isTrue("state " + i + " was seen", SEEN_STATES[i] > 0);
        }
        CHECK.end();
    }

    private static void run(int seed) {
        Random random = new Random(seed);
        Icehighway road = new Icehighway();
        // Passes each minute by a call of its own, so it shows whether pass depends on how it is cut.
        Icehighway cut = new Icehighway();
        SlowRoad slow = new SlowRoad();
        int pieces = 1 + random.nextInt(4);
        for (int p = 0; p < pieces; p++) {
            int kind = random.nextInt(3);
            int metres = 1 + random.nextInt(random.nextBoolean() ? 1000 : 20000);
            int depth = 1 + random.nextInt(random.nextBoolean() ? 40 : 999);
            road.piece(kind, metres, depth);
            cut.piece(kind, metres, depth);
            slow.piece(kind, metres, depth);
        }
        if (seed % 2 == 0) {
            winter(random, road, cut, slow);
        }
        for (int i = 0; i < CALLS; i++) {
            step(random, road, cut, slow, i);
            String due = slow.answers();
            String got = Check.answers(road);
            CHECK.same("seed " + seed + ", call " + i, got, due);
            if (!got.equals(due)) {
                return;
            }
            look(road);
        }
        CHECK.same("seed " + seed + ", minute by minute", Check.answers(cut), Check.answers(road));
    }

    /** Thick ice, drilled and open: then heavy ones go, wear it, and break through. */
    private static void winter(Random random, Icehighway road, Icehighway cut, SlowRoad slow) {
        int days = 20 + random.nextInt(40);
        slow.cold = 39;
        road.weather(39);
        cut.weather(39);
        for (int i = 0; i < days * 1440; i++) {
            slow.pass();
        }
        for (int i = 0; i < days; i++) {
            road.pass(1440);
            cut.pass(1440);
        }
        for (int p = 0; p < slow.pieces.size(); p++) {
            slow.known.set(p, slow.thickness(p));
            road.drill(p);
            cut.drill(p);
            slow.pieces.get(p)[8] = 2;
            road.open(p, 2);
            cut.open(p, 2);
            slow.pieces.get(p)[6] += 200;
        }
        road.snow(200);
        cut.snow(200);
        slow.gap = 1;
        road.gap(1);
        cut.gap(1);
    }

    private static void look(Icehighway road) {
        for (int v = 0; v < Check.vehicles(road); v++) {
            SEEN_REASONS[road.why(v) + 1]++;
            SEEN_STATES[road.ofVehicle(v, 0)]++;
            for (int p = 0; p < Check.pieces(road); p++) {
                CHECK.isTrue("minutes anew", road.minutes(v, p) == road.minutesAnew(v, p));
            }
        }
    }

    private static void step(Random random, Icehighway road, Icehighway cut, SlowRoad slow, int i) {
        int p = random.nextInt(slow.pieces.size());
        int kind = i < 30 ? random.nextInt(10) : random.nextInt(30);
        if (kind < 4) {
            weatherOrSnow(random, road, cut, slow);
        } else if (kind < 8) {
            ofPiece(random, road, cut, slow, p);
        } else if (kind < 10) {
            passSome(random, road, cut, slow, i < 60 ? 1440 : random.nextBoolean() ? 5 : 300);
        } else if (kind < 12 && slow.cars.size() < 16) {
            SlowRoad.Car car = new SlowRoad.Car();
            car.empty = 500 + random.nextInt(random.nextBoolean() ? 3000 : 20000);
            if (random.nextInt(3) > 0) {
                // As heavy as is just let onto some piece.
                int just = road.bears(p, true) - random.nextInt(60);
                car.empty = just >= 500 && just <= 40000 ? just : car.empty;
            }
            car.carries = random.nextInt(20000);
            car.speed = 1 + random.nextInt(300);
            road.vehicle(car.empty, car.carries, car.speed);
            cut.vehicle(car.empty, car.carries, car.speed);
            slow.cars.add(car);
        } else if (kind < 13) {
            int goods = random.nextInt(3);
            int kilos = 1 + random.nextInt(30000);
            slow.orders[goods] += kilos;
            CHECK.same("order", road.order(goods, kilos), slow.orders[goods]);
            cut.order(goods, kilos);
        } else if (kind < 22 && !slow.cars.isEmpty()) {
            ofCar(random, road, cut, slow);
        } else {
            passSome(random, road, cut, slow, random.nextInt(8) == 0 ? 600 : 12);
        }
    }

    private static void weatherOrSnow(Random random, Icehighway road, Icehighway cut, SlowRoad slow) {
        int choice = random.nextInt(10);
        if (choice < 6) {
            int degrees = random.nextInt(4) == 0 ? -random.nextInt(5) : random.nextInt(61);
            CHECK.same("weather", road.weather(degrees), slow.cold);
            cut.weather(degrees);
            slow.cold = degrees;
        } else if (choice < 8) {
            int mm = 1 + random.nextInt(60);
            road.snow(mm);
            cut.snow(mm);
            for (int[] row : slow.pieces) {
                row[6] += mm;
            }
        } else {
            int minutes = random.nextInt(12);
            CHECK.same("gap", road.gap(minutes), slow.gap);
            cut.gap(minutes);
            slow.gap = minutes;
        }
    }

    private static void ofPiece(Random random, Icehighway road, Icehighway cut, SlowRoad slow, int p) {
        int[] row = slow.pieces.get(p);
        int choice = random.nextInt(12);
        if (choice < 1) {
            CHECK.same("plough", road.plough(p), row[6]);
            cut.plough(p);
            row[6] = 0;
        } else if (choice < 3) {
            flood(random, road, cut, row, p);
        } else if (choice < 6) {
            slow.known.set(p, slow.thickness(p));
            CHECK.same("drill", road.drill(p), slow.thickness(p));
            cut.drill(p);
        } else if (choice < 10) {
            int how = Math.min(2, random.nextInt(8));
            CHECK.same("open", road.open(p, how), row[8]);
            cut.open(p, how);
            row[8] = how;
        } else {
            int limit = 1 + random.nextInt(200);
            CHECK.same("limit", road.limit(p, limit), row[9]);
            cut.limit(p, limit);
            row[9] = limit;
        }
    }

    private static void flood(Random random, Icehighway road, Icehighway cut, int[] row, int p) {
        int mm = 1 + random.nextInt(100);
        String due = "IllegalStateException";
        if (row[0] != 2 && row[3] + row[4] > 0 && row[5] + mm <= 500) {
            row[5] += mm;
            row[6] = 0;
            due = String.valueOf(row[5]);
        }
        CHECK.same("flood", Check.outcome(() -> road.flood(p, mm)), due);
        CHECK.same("flood", Check.outcome(() -> cut.flood(p, mm)), due);
    }

    private static void ofCar(Random random, Icehighway road, Icehighway cut, SlowRoad slow) {
        int v = random.nextInt(slow.cars.size());
        SlowRoad.Car car = slow.cars.get(v);
        String due = "IllegalStateException";
        int choice = random.nextInt(9);
        if (choice < 4) {
            int goods = random.nextInt(3);
            int kilos = 1 + random.nextInt(car.carries + 1);
            if (kilos > car.carries) {
                due = "IllegalArgumentException";
            } else if (car.state == 0 && car.kilos == 0) {
                car.goods = goods;
                car.kilos = kilos;
                due = String.valueOf(slow.weight(car));
            }
            CHECK.same("load", Check.outcome(() -> road.load(v, goods, kilos)), due);
            CHECK.same("load", Check.outcome(() -> cut.load(v, goods, kilos)), due);
        } else if (choice < 8) {
            if (car.state == 0 || car.state == 3) {
                car.way = car.state == 0 ? 1 : -1;
                car.ramp = car.state == 0 ? 0 : slow.pieces.size();
                car.state = 2;
                due = String.valueOf(car.way == 1);
            }
            CHECK.same("go", Check.outcome(() -> road.go(v)), due);
            CHECK.same("go", Check.outcome(() -> cut.go(v)), due);
        } else {
            if (car.state == 2) {
                car.way = -car.way;
                due = String.valueOf(car.way == 1);
                slow.end(car);
            }
            CHECK.same("turn", Check.outcome(() -> road.turn(v)), due);
            CHECK.same("turn", Check.outcome(() -> cut.turn(v)), due);
        }
    }

    private static void passSome(Random random, Icehighway road, Icehighway cut, SlowRoad slow, int most) {
        int minutes = 1 + random.nextInt(most);
        if (slow.minute + minutes > 200000) {
            return;
        }
        for (int i = 0; i < minutes; i++) {
            slow.pass();
            cut.pass(1);
        }
        CHECK.same("pass", road.pass(minutes), slow.minute);
    }
}

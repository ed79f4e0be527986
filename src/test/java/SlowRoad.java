import java.util.ArrayList;
import java.util.List;

/**
 * The document's words a second time, in another way: nothing is kept that can be found by looking
 * through the vehicles or through the history. The random runs compare its answers with the program's.
 */
final class SlowRoad {
    static final class Coming {
        int piece;
        int minute;
        int way;
    }

    static final class Car {
        int empty;
        int carries;
        int speed;
        int state;
        int piece = -1;
        int way = -1;
        int ramp;
        int comes;
        int stays;
        int goods = -1;
        int kilos;
    }

    final List<int[]> pieces = new ArrayList<>();
    final List<Double> known = new ArrayList<>();
    final List<Car> cars = new ArrayList<>();
    final List<Coming> comings = new ArrayList<>();
    final List<int[]> brought = new ArrayList<>();
    final int[] orders = new int[3];
    int minute;
    int cold;
    int gap = 5;

    // A piece's row: kind, metres, depth, black, white, water, snow, crack, open, limit.
    void piece(int kind, int metres, int depth) {
        pieces.add(new int[] {kind, metres, depth, 0, 0, 0, 0, 0, 0, 100});
        known.add(0.0);
    }

    double thickness(int p) {
        return pieces.get(p)[3] + pieces.get(p)[4] / 2.0;
    }

    int bears(int p, boolean isKnown) {
        int[] row = pieces.get(p);
        if (row[0] == 2) {
            return row[6] < 100 ? 0 : 60000;
        }
        double t = isKnown ? known.get(p) : thickness(p);
        double bears = 0.04 * t * t;
        bears = bears * new double[] {1.0, 0.75, 0.5}[row[7]];
        return (int) Math.floor(bears);
    }

    int weight(Car car) {
        return car.empty + car.kilos;
    }

    int[] countAndWeight(int p, int way) {
        int count = 0;
        int weights = 0;
        for (Car car : cars) {
            if (car.state == 1 && car.piece == p && (way == 0 || car.way == way)) {
                count++;
                weights += weight(car);
            }
        }
        return new int[] {count, weights};
    }

    int speed(Car car, int p) {
        int[] row = pieces.get(p);
        int v = Math.min(car.speed, row[9]);
        double wave = 0.8 * 98.0 * row[2];
        if (row[0] != 2 && v * v > wave && v * v < 1.2 * 98.0 * row[2]) {
            int s = 0;
            while ((s + 1) * (s + 1) <= wave) {
                s++;
            }
            return s;
        }
        return v;
    }

    int minutes(Car car, int p) {
        return (int) Math.ceil(pieces.get(p)[1] / (6.0 * speed(car, p)));
    }

    int next(Car car) {
        return car.way == 1 ? car.ramp : car.ramp - 1;
    }

    int why(Car car) {
        if (car.state != 2) {
            return -1;
        }
        int p = next(car);
        int[] row = pieces.get(p);
        int day = minute % 1440;
        if (row[8] == 0) {
            return 1;
        }
        if (row[0] != 2 && cold < 0 && day >= 480 && day < 1200) {
            return 2;
        }
        if (row[8] == 1 && weight(car) > 5000) {
            return 3;
        }
        for (Coming coming : comings) {
            if (coming.piece == p && coming.way == car.way && minute - coming.minute < gap) {
                return 4;
            }
        }
        if (row[0] != 0 && countAndWeight(p, -car.way)[0] > 0) {
            return 5;
        }
        if (countAndWeight(p, 0)[1] + weight(car) > bears(p, true)) {
            return 6;
        }
        return 0;
    }

    void pass() {
        minute++;
        if (minute % 1440 == 0) {
            for (int p = 0; p < pieces.size(); p++) {
                night(p);
            }
        }
        for (Car car : cars) {
            drive(car);
        }
    }

    private void night(int p) {
        int[] row = pieces.get(p);
        if (cold > 0 && row[0] != 2) {
            for (int i = 0; i < 2 * cold && row[5] > 0; i++) {
                row[5]--;
                row[4]++;
            }
            if (row[5] == 0) {
                int grown = (400 * cold) / (row[3] + row[4] + 4 * row[6] + 50) - (row[0] == 1 ? 2 : 0);
                row[3] += grown > 0 ? grown : 0;
            }
            if (cold >= 40) {
                row[7] = row[7] == 0 ? 1 : row[7];
            } else if (cold >= 10 && row[7] > 0) {
                row[7]--;
            }
        }
        if (cold < 0) {
            double gone = 0;
            for (int i = 0; i < -6 * cold; i++) {
                if (row[6] > 0) {
                    row[6]--;
                } else if (row[4] > 0) {
                    row[4]--;
                    gone += 0.5;
                } else if (row[3] > 0) {
                    row[3]--;
                    gone += 1;
                }
            }
            known.set(p, Math.max(0.0, known.get(p) - gone));
            row[7] = row[7] == 1 ? 2 : row[7];
        }
    }

    private void drive(Car car) {
        if (car.state == 1 && minute == car.comes + car.stays) {
            int[] row = pieces.get(car.piece);
            if (row[0] != 2) {
                row[3] = Math.max(0, row[3] - weight(car) / 20000);
            }
            car.state = 2;
            car.ramp = car.way == 1 ? car.piece + 1 : car.piece;
            car.piece = -1;
            end(car);
        }
        if (car.state == 2 && why(car) == 0) {
            int p = next(car);
            Coming coming = new Coming();
            coming.piece = p;
            coming.minute = minute;
            coming.way = car.way;
            comings.add(coming);
            boolean holds = countAndWeight(p, 0)[1] + weight(car) <= bears(p, false);
            car.piece = p;
            car.state = holds ? 1 : 4;
            car.comes = minute;
            car.stays = minutes(car, p);
            if (!holds) {
                pieces.get(p)[8] = 0;
                if (pieces.get(p)[0] != 2) {
                    pieces.get(p)[7] = 2;
                }
            }
        }
    }

    void end(Car car) {
        if (car.way == 1 && car.ramp == pieces.size()) {
            car.state = 3;
        } else if (car.way == -1 && car.ramp == 0) {
            car.state = 0;
        } else {
            return;
        }
        if (car.state == 3 && car.kilos > 0) {
            brought.add(new int[] {car.goods, car.kilos});
        }
        car.goods = -1;
        car.kilos = 0;
    }

    int atMine(int goods) {
        int sum = 0;
        for (int[] one : brought) {
            sum += one[0] == goods ? one[1] : 0;
        }
        return sum;
    }

    int inCars(int goods, boolean lost) {
        int sum = 0;
        for (Car car : cars) {
            sum += car.goods == goods && lost == (car.state == 4) ? car.kilos : 0;
        }
        return sum;
    }

    int missing(int goods) {
        return Math.max(0, orders[goods] - atMine(goods));
    }

    /** All answers, written as Check.answers writes those of the program. */
    String answers() {
        List<Object> all = new ArrayList<>();
        long bill = 0;
        for (int g = 0; g < 3; g++) {
            bill += atMine(g) + 40L * missing(g);
        }
        all.add("minute " + minute + " bill " + bill);
        for (int p = 0; p < pieces.size(); p++) {
            int[] row = pieces.get(p);
            all.add("\npiece " + p);
            for (int what = 3; what <= 9; what++) {
                all.add(row[what]);
            }
            all.add(countAndWeight(p, 0)[0]);
            all.add(known.get(p));
            all.add(thickness(p));
            all.add(bears(p, true));
            all.add(bears(p, false));
        }
        for (int c = 0; c < cars.size(); c++) {
            Car car = cars.get(c);
            all.add("\nvehicle " + c);
            all.add(car.state);
            all.add(weight(car));
            all.add(car.kilos);
            all.add(car.goods);
            all.add(car.piece >= 0 ? car.piece : car.ramp);
            all.add(car.way == 1 ? 1 : 0);
            all.add(car.state == 1 ? car.comes + car.stays : -1);
            all.add(why(car));
            for (int p = 0; p < pieces.size(); p++) {
                all.add(speed(car, p));
                all.add(minutes(car, p));
            }
        }
        for (int g = 0; g < 3; g++) {
            int out = atMine(g) + inCars(g, false) + inCars(g, true);
            all.add("\ngoods " + g);
            all.add(out);
            all.add(atMine(g));
            all.add(inCars(g, false));
            all.add(inCars(g, true));
            all.add(missing(g));
            all.add(out);
        }
        return all.toString();
    }
}

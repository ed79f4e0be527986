/** Each call of the face on SlowRoad, with the exceptions of the document in its order, answered as a text. */
final class SlowCalls {
    static final String[] NAMES = {
        "piece", "weather", "snow", "plough", "flood", "drill", "open", "limit", "gap", "vehicle", "load", "go", "turn",
        "order", "pass", "minute", "told", "thickness", "bears", "ofVehicle", "why", "speed", "minutes", "minutesAnew",
        "kilos", "kilosAnew", "bill"};
    private static final String OUTSIDE = "IndexOutOfBoundsException";
    private static final String UNFIT = "IllegalArgumentException";
    private static final String UNTIMELY = "IllegalStateException";

    final SlowRoad road = new SlowRoad();

    /** The same call on the program. */
    static Object real(Icehighway road, String name, int a, int b, int c) {
        switch (name) {
            case "piece": return road.piece(a, b, c);
            case "weather": return road.weather(a);
            case "snow": return road.snow(a);
            case "plough": return road.plough(a);
            case "flood": return road.flood(a, b);
            case "drill": return road.drill(a);
            case "open": return road.open(a, b);
            case "limit": return road.limit(a, b);
            case "gap": return road.gap(a);
            case "vehicle": return road.vehicle(a, b, c);
            case "load": return road.load(a, b, c);
            case "go": return road.go(a);
            case "turn": return road.turn(a);
            case "order": return road.order(a, b);
            case "pass": return road.pass(a);
            case "minute": return road.minute();
            case "told": return road.told(a, b);
            case "thickness": return road.thickness(a, b == 1);
            case "bears": return road.bears(a, b == 1);
            case "ofVehicle": return road.ofVehicle(a, b);
            case "why": return road.why(a);
            case "speed": return road.speed(a, b);
            case "minutes": return road.minutes(a, b);
            case "minutesAnew": return road.minutesAnew(a, b);
            case "kilos": return road.kilos(a, b);
            case "kilosAnew": return road.kilosAnew(a);
            default: return road.bill();
        }
    }

    String call(String name, int a, int b, int c) {
        switch (name) {
            case "piece": case "weather": case "snow": case "gap": case "pass": case "minute": case "bill":
                return ofTheRoad(name, a, b, c);
            case "vehicle": case "load": case "go": case "turn": case "ofVehicle": case "why":
                return ofVehicles(name, a, b, c);
            case "speed": case "minutes": case "minutesAnew":
                return ofBoth(name, a, b);
            case "order": case "kilos": case "kilosAnew":
                return ofGoods(name, a, b);
            default:
                return isOutside(a, road.pieces.size()) ? OUTSIDE : ofAPiece(name, a, b);
        }
    }

    private static boolean isOutside(int number, int count) {
        return number < 0 || number >= count;
    }

    private static boolean isUnfit(int value, int least, int most) {
        return value < least || value > most;
    }

    private String ofTheRoad(String name, int a, int b, int c) {
        String was;
        switch (name) {
            case "piece":
                if (isUnfit(a, 0, 2) || isUnfit(b, 1, 20000) || isUnfit(c, 1, 999)) {
                    return UNFIT;
                }
                if (road.pieces.size() == 10 || !road.cars.isEmpty()) {
                    return UNTIMELY;
                }
                road.piece(a, b, c);
                return "" + (road.pieces.size() - 1);
            case "weather":
                was = isUnfit(a, -20, 60) ? UNFIT : "" + road.cold;
                road.cold = was.equals(UNFIT) ? road.cold : a;
                return was;
            case "gap":
                was = isUnfit(a, 0, 120) ? UNFIT : "" + road.gap;
                road.gap = was.equals(UNFIT) ? road.gap : a;
                return was;
            case "snow":
                if (isUnfit(a, 1, 500)) {
                    return UNFIT;
                }
                for (int[] row : road.pieces) {
                    row[6] += a;
                }
                return "" + road.pieces.size();
            case "pass":
                return pass(a);
            case "minute":
                return "" + road.minute;
            default:
                long bill = 0;
                for (int goods = 0; goods < 3; goods++) {
                    bill += road.atMine(goods) + 40L * road.missing(goods);
                }
                return "" + bill;
        }
    }

    private String pass(int minutes) {
        if (isUnfit(minutes, 1, 3000)) {
            return UNFIT;
        }
        if (road.minute + minutes > 200000) {
            return UNTIMELY;
        }
        for (int i = 0; i < minutes; i++) {
            road.pass();
        }
        return "" + road.minute;
    }

    private String ofAPiece(String name, int a, int b) {
        int[] row = road.pieces.get(a);
        int was;
        switch (name) {
            case "plough":
                was = row[6];
                row[6] = 0;
                return "" + was;
            case "flood":
                if (isUnfit(b, 1, 100)) {
                    return UNFIT;
                }
                if (row[0] == 2 || row[3] + row[4] == 0 || row[5] + b > 500) {
                    return UNTIMELY;
                }
                row[6] = 0;
                row[5] += b;
                return "" + row[5];
            case "drill":
                road.known.set(a, road.thickness(a));
                return "" + road.thickness(a);
            case "open":
                was = row[8];
                row[8] = isUnfit(b, 0, 2) ? was : b;
                return isUnfit(b, 0, 2) ? UNFIT : "" + was;
            case "limit":
                was = row[9];
                row[9] = isUnfit(b, 1, 300) ? was : b;
                return isUnfit(b, 1, 300) ? UNFIT : "" + was;
            case "told":
                if (isUnfit(b, 0, 7)) {
                    return UNFIT;
                }
                return "" + (b == 7 ? road.countAndWeight(a, 0)[0] : row[3 + b]);
            case "thickness":
                return "" + (b == 1 ? road.known.get(a) : (Double) road.thickness(a));
            default:
                return "" + road.bears(a, b == 1);
        }
    }

    private String ofVehicles(String name, int a, int b, int c) {
        if (name.equals("vehicle")) {
            return vehicle(a, b, c);
        }
        if (isOutside(a, road.cars.size())) {
            return OUTSIDE;
        }
        SlowRoad.Car car = road.cars.get(a);
        switch (name) {
            case "load":
                return load(car, b, c);
            case "go":
                if (car.state != 0 && car.state != 3) {
                    return UNTIMELY;
                }
                car.way = car.state == 0 ? 1 : -1;
                car.ramp = car.state == 0 ? 0 : road.pieces.size();
                car.state = 2;
                return "" + (car.way == 1);
            case "turn":
                if (car.state != 2) {
                    return UNTIMELY;
                }
                car.way = -car.way;
                road.end(car);
                return "" + (car.way == 1);
            case "why":
                return "" + road.why(car);
            default:
                return isUnfit(b, 0, 6) ? UNFIT : "" + told(car, b);
        }
    }

    private String vehicle(int empty, int carries, int speed) {
        if (isUnfit(empty, 500, 40000) || isUnfit(carries, 0, 60000) || isUnfit(speed, 1, 300)) {
            return UNFIT;
        }
        if (road.cars.size() == 16 || road.pieces.isEmpty()) {
            return UNTIMELY;
        }
        SlowRoad.Car car = new SlowRoad.Car();
        car.empty = empty;
        car.carries = carries;
        car.speed = speed;
        road.cars.add(car);
        return "" + (road.cars.size() - 1);
    }

    private String load(SlowRoad.Car car, int goods, int kilos) {
        if (isOutside(goods, 3)) {
            return OUTSIDE;
        }
        if (isUnfit(kilos, 1, car.carries)) {
            return UNFIT;
        }
        if (car.state != 0 || car.kilos > 0) {
            return UNTIMELY;
        }
        car.goods = goods;
        car.kilos = kilos;
        return "" + road.weight(car);
    }

    private int told(SlowRoad.Car car, int what) {
        int[] all = {
            car.state, road.weight(car), car.kilos, car.goods, car.piece >= 0 ? car.piece : car.ramp,
            car.way == 1 ? 1 : 0, car.state == 1 ? car.comes + car.stays : -1};
        return all[what];
    }

    private String ofBoth(String name, int a, int b) {
        if (isOutside(a, road.cars.size()) || isOutside(b, road.pieces.size())) {
            return OUTSIDE;
        }
        SlowRoad.Car car = road.cars.get(a);
        return "" + (name.equals("speed") ? road.speed(car, b) : road.minutes(car, b));
    }

    private String ofGoods(String name, int a, int b) {
        if (isOutside(a, 3)) {
            return OUTSIDE;
        }
        if (name.equals("order")) {
            if (isUnfit(b, 1, 1000000)) {
                return UNFIT;
            }
            if (road.orders[a] + b > 10000000) {
                return UNTIMELY;
            }
            road.orders[a] += b;
            return "" + road.orders[a];
        }
        int loaded = road.atMine(a) + road.inCars(a, false) + road.inCars(a, true);
        if (name.equals("kilosAnew")) {
            return "" + loaded;
        }
        int[] all = {loaded, road.atMine(a), road.inCars(a, false), road.inCars(a, true), road.missing(a)};
        return isUnfit(b, 0, 4) ? UNFIT : "" + all[b];
    }
}

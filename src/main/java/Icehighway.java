import java.util.ArrayList;
import java.util.List;

/** A road over ice for some weeks: pieces in a row, the ice on them, the vehicles that go over it, and their goods. */
public final class Icehighway {
    public static final int NONE = -1;
    public static final int LAKE = 0, RIVER = 1, PORTAGE = 2;
    public static final int WHOLE = 0, DRY = 1, WET = 2;
    public static final int CLOSED = 0, LIGHT = 1, FULL = 2;
    public static final int BASE = 0, ON = 1, RAMP = 2, MINE = 3, LOST = 4;

    private static final int MOST_PIECES = 10;
    private static final int MOST_METRES = 20000;
    private static final int MOST_DEPTH = 999;
    private static final int WARMEST = -20;
    private static final int COLDEST = 60;
    private static final int MOST_SNOW = 500;
    private static final int MOST_FLOOD = 100;
    private static final int MOST_WATER = 500;
    private static final int MOST_SPEED = 300;
    private static final int FIRST_LIMIT = 100;
    private static final int MOST_GAP = 120;
    private static final int FIRST_GAP = 5;
    private static final int MOST_VEHICLES = 16;
    private static final int LEAST_EMPTY = 500;
    private static final int MOST_EMPTY = 40000;
    private static final int MOST_CARRIED = 60000;
    private static final int LIGHT_WEIGHT = 5000;
    private static final int WEIGHT_OF_A_MILLIMETRE = 20000;
    private static final int KINDS_OF_GOODS = 3;
    private static final int MOST_ORDER = 1000000;
    private static final int MOST_ORDERED = 10000000;
    // An object is used for 512 calls, so no more loads than that can be entered.
    private static final int MOST_LOADS = 512;
    private static final int MOST_PASS = 3000;
    private static final int LAST_MINUTE = 200000;
    private static final int DAY = 1440;
    private static final int THAW_FROM = 480;
    private static final int THAW_TO = 1199;
    private static final int PORTAGE_SNOW = 100;
    private static final int PORTAGE_BEARS = 60000;
    private static final int FLOWN_COST = 40;
    private static final int MOST_TOLD = 7;
    private static final int MOST_OF_VEHICLE = 6;
    private static final int MOST_OF_KILOS = 4;
    // So long before minute 0 that no gap reaches back to it.
    private static final int NEVER = -1000;

    private static final int FREE = 0;
    private static final int IS_CLOSED = 1;
    private static final int THAWS = 2;
    private static final int TOO_HEAVY = 3;
    private static final int TOO_NEAR = 4;
    private static final int NARROW = 5;
    private static final int TOO_WEAK = 6;

    private final List<Piece> pieces = new ArrayList<Piece>();
    private final List<Vehicle> vehicles = new ArrayList<Vehicle>();
    private final List<Load> entered = new ArrayList<Load>();
    private final int[] taken = new int[KINDS_OF_GOODS];
    private final int[] brought = new int[KINDS_OF_GOODS];
    private final int[] ordered = new int[KINDS_OF_GOODS];
    private int now = 0;
    private int cold = 0;
    private int gapMinutes = FIRST_GAP;

    public Icehighway() {
    }

    // ---- pieces, days

    public int piece(int kind, int metres, int depth) throws IllegalArgumentException, IllegalStateException {
        needRange(kind, LAKE, PORTAGE);
        needRange(metres, 1, MOST_METRES);
        needRange(depth, 1, MOST_DEPTH);
        if (pieces.size() >= MOST_PIECES || !vehicles.isEmpty()) {
            throw new IllegalStateException("no more pieces can be laid");
        }
        pieces.add(new Piece(kind, metres, depth));
        return pieces.size() - 1;
    }

    public int weather(int degrees) throws IllegalArgumentException {
        needRange(degrees, WARMEST, COLDEST);
        int before = cold;
        cold = degrees;
        return before;
    }

    public int snow(int mm) throws IllegalArgumentException {
        needRange(mm, 1, MOST_SNOW);
        for (int i = 0; i < pieces.size(); i++) {
            pieces.get(i).snow += mm;
        }
        return pieces.size();
    }

    public int plough(int piece) throws IndexOutOfBoundsException {
        Piece ploughed = pieceNumbered(piece);
        int before = ploughed.snow;
        ploughed.snow = 0;
        return before;
    }

    public int flood(int piece, int mm)
            throws IndexOutOfBoundsException, IllegalArgumentException, IllegalStateException {
        Piece flooded = pieceNumbered(piece);
        needRange(mm, 1, MOST_FLOOD);
        if (!flooded.isWaterPiece() || !flooded.hasIce() || flooded.water + mm > MOST_WATER) {
            throw new IllegalStateException("the piece can't be flooded so");
        }
        flooded.snow = 0;
        flooded.water += mm;
        return flooded.water;
    }

    public double drill(int piece) throws IndexOutOfBoundsException {
        Piece drilled = pieceNumbered(piece);
        drilled.known = drilled.realThickness();
        return drilled.known;
    }

    public int open(int piece, int how) throws IndexOutOfBoundsException, IllegalArgumentException {
        Piece opened = pieceNumbered(piece);
        needRange(how, CLOSED, FULL);
        int before = opened.openness;
        opened.openness = how;
        return before;
    }

    public int limit(int piece, int speed) throws IndexOutOfBoundsException, IllegalArgumentException {
        Piece limited = pieceNumbered(piece);
        needRange(speed, 1, MOST_SPEED);
        int before = limited.speedLimit;
        limited.speedLimit = speed;
        return before;
    }

    public int gap(int minutes) throws IllegalArgumentException {
        needRange(minutes, 0, MOST_GAP);
        int before = gapMinutes;
        gapMinutes = minutes;
        return before;
    }

    // ---- vehicles, goods

    public int vehicle(int empty, int carries, int speed) throws IllegalArgumentException, IllegalStateException {
        needRange(empty, LEAST_EMPTY, MOST_EMPTY);
        needRange(carries, 0, MOST_CARRIED);
        needRange(speed, 1, MOST_SPEED);
        if (vehicles.size() >= MOST_VEHICLES || pieces.isEmpty()) {
            throw new IllegalStateException("no vehicle can be added");
        }
        vehicles.add(new Vehicle(empty, carries, speed));
        return vehicles.size() - 1;
    }

    public int load(int vehicle, int goods, int kilos)
            throws IndexOutOfBoundsException, IllegalArgumentException, IllegalStateException {
        Vehicle loaded = vehicleNumbered(vehicle);
        needGoods(goods);
        needRange(kilos, 1, loaded.carries);
        if (loaded.where != BASE || loaded.cargo != null || entered.size() >= MOST_LOADS) {
            throw new IllegalStateException("the vehicle can't be loaded");
        }
        Load cargo = new Load(goods, kilos);
        entered.add(cargo);
        loaded.cargo = cargo;
        taken[goods] += kilos;
        return loaded.weight();
    }

    public boolean go(int vehicle) throws IndexOutOfBoundsException, IllegalStateException {
        Vehicle going = vehicleNumbered(vehicle);
        if (going.where != BASE && going.where != MINE) {
            throw new IllegalStateException("the vehicle is not at the base or the mine");
        }
        going.isToMine = going.where == BASE;
        going.where = RAMP;
        return going.isToMine;
    }

    public boolean turn(int vehicle) throws IndexOutOfBoundsException, IllegalStateException {
        Vehicle turned = vehicleNumbered(vehicle);
        if (turned.where != RAMP) {
            throw new IllegalStateException("the vehicle is not at a ramp");
        }
        turned.isToMine = !turned.isToMine;
        stopAtEnd(turned);
        return turned.isToMine;
    }

    public int order(int goods, int kilos)
            throws IndexOutOfBoundsException, IllegalArgumentException, IllegalStateException {
        needGoods(goods);
        needRange(kilos, 1, MOST_ORDER);
        if (ordered[goods] + kilos > MOST_ORDERED) {
            throw new IllegalStateException("the mine would have ordered too much");
        }
        ordered[goods] += kilos;
        return ordered[goods];
    }

    public int pass(int minutes) throws IllegalArgumentException, IllegalStateException {
        needRange(minutes, 1, MOST_PASS);
        if (now + minutes > LAST_MINUTE) {
            throw new IllegalStateException("the minute would be too high");
        }
        for (int i = 0; i < minutes; i++) {
            passOneMinute();
        }
        return now;
    }

    // ---- what there is; nothing from here on changes anything

    public int minute() {
        return now;
    }

    public int told(int piece, int what) throws IndexOutOfBoundsException, IllegalArgumentException {
        Piece asked = pieceNumbered(piece);
        needRange(what, 0, MOST_TOLD);
        switch (what) {
            case 0: return asked.black;
            case 1: return asked.white;
            case 2: return asked.water;
            case 3: return asked.snow;
            case 4: return asked.crack;
            case 5: return asked.openness;
            case 6: return asked.speedLimit;
            default: return asked.onToMine + asked.onToBase;
        }
    }

    public double thickness(int piece, boolean isKnown) throws IndexOutOfBoundsException {
        return pieceNumbered(piece).thicknessAs(isKnown);
    }

    public int bears(int piece, boolean isKnown) throws IndexOutOfBoundsException {
        return pieceNumbered(piece).bearsAs(isKnown);
    }

    public int ofVehicle(int vehicle, int what) throws IndexOutOfBoundsException, IllegalArgumentException {
        Vehicle asked = vehicleNumbered(vehicle);
        needRange(what, 0, MOST_OF_VEHICLE);
        switch (what) {
            case 0: return asked.where;
            case 1: return asked.weight();
            case 2: return asked.cargo == null ? 0 : asked.cargo.kilos;
            case 3: return asked.cargo == null ? NONE : asked.cargo.goods;
            case 4: return asked.between;
            case 5: return asked.isToMine ? 1 : 0;
            default: return asked.where == ON ? asked.overAt : NONE;
        }
    }

    public int why(int vehicle) throws IndexOutOfBoundsException {
        Vehicle asked = vehicleNumbered(vehicle);
        return asked.where == RAMP ? whatIsAgainst(asked) : NONE;
    }

    public int speed(int vehicle, int piece) throws IndexOutOfBoundsException {
        return pieceNumbered(piece).speedOf(vehicleNumbered(vehicle));
    }

    public int minutes(int vehicle, int piece) throws IndexOutOfBoundsException {
        return pieceNumbered(piece).minutesOf(vehicleNumbered(vehicle));
    }

    public int minutesAnew(int vehicle, int piece) throws IndexOutOfBoundsException {
        Piece asked = pieceNumbered(piece);
        int metresAMinute = 6 * asked.speedOf(vehicleNumbered(vehicle));
        int gone = 0;
        int counted = 0;
        // Even the slowest goes a metre a minute, so the longest piece bounds the count.
        while (gone < asked.metres && counted < MOST_METRES) {
            gone += metresAMinute;
            counted++;
        }
        return counted;
    }

    public int kilos(int goods, int what) throws IndexOutOfBoundsException, IllegalArgumentException {
        needGoods(goods);
        needRange(what, 0, MOST_OF_KILOS);
        switch (what) {
            case 0: return taken[goods];
            case 1: return brought[goods];
            case 2: return kilosInVehicles(goods, false);
            case 3: return kilosInVehicles(goods, true);
            default: return kilosMissing(goods);
        }
    }

    public int kilosAnew(int goods) throws IndexOutOfBoundsException {
        needGoods(goods);
        int sum = 0;
        for (int i = 0; i < entered.size(); i++) {
            Load one = entered.get(i);
            if (one.goods == goods && !one.isBack) {
                sum += one.kilos;
            }
        }
        return sum;
    }

    public long bill() {
        long sum = 0;
        for (int goods = 0; goods < KINDS_OF_GOODS; goods++) {
            sum += brought[goods] + (long) FLOWN_COST * kilosMissing(goods);
        }
        return sum;
    }

    // ---- what the calls ask for at first

    private static void needRange(int value, int least, int most) {
        if (value < least || value > most) {
            throw new IllegalArgumentException("a value is out of range");
        }
    }

    private static void needGoods(int goods) {
        if (goods < 0 || goods >= KINDS_OF_GOODS) {
            throw new IndexOutOfBoundsException("there are no such goods");
        }
    }

    private Piece pieceNumbered(int number) {
        if (number < 0 || number >= pieces.size()) {
            throw new IndexOutOfBoundsException("there is no such piece");
        }
        return pieces.get(number);
    }

    private Vehicle vehicleNumbered(int number) {
        if (number < 0 || number >= vehicles.size()) {
            throw new IndexOutOfBoundsException("there is no such vehicle");
        }
        return vehicles.get(number);
    }

    // ---- goods

    private int kilosInVehicles(int goods, boolean isLost) {
        int sum = 0;
        for (int i = 0; i < vehicles.size(); i++) {
            Vehicle one = vehicles.get(i);
            if (one.cargo != null && one.cargo.goods == goods && (one.where == LOST) == isLost) {
                sum += one.cargo.kilos;
            }
        }
        return sum;
    }

    private int kilosMissing(int goods) {
        if (goods < 0 || goods >= KINDS_OF_GOODS) {
            return 0;
        }
        return Math.max(0, ordered[goods] - brought[goods]);
    }

    private void unload(Vehicle vehicle) {
        Load cargo = vehicle.cargo;
        vehicle.cargo = null;
        if (cargo == null || cargo.goods < 0 || cargo.goods >= KINDS_OF_GOODS) {
            return;
        }
        if (vehicle.where == MINE) {
            brought[cargo.goods] += cargo.kilos;
        } else {
            taken[cargo.goods] -= cargo.kilos;
            cargo.isBack = true;
        }
    }

    // ---- minutes

    private void passOneMinute() {
        now++;
        if (now % DAY == 0) {
            endDay();
        }
        for (int i = 0; i < vehicles.size(); i++) {
            moveOn(vehicles.get(i));
        }
    }

    private void endDay() {
        for (int i = 0; i < pieces.size(); i++) {
            if (cold > 0) {
                pieces.get(i).freeze(cold);
            } else if (cold < 0) {
                pieces.get(i).thaw(-cold);
            }
        }
    }

    private void moveOn(Vehicle vehicle) {
        if (vehicle.where == ON && vehicle.overAt <= now) {
            leave(vehicle);
        }
        if (vehicle.where == RAMP && whatIsAgainst(vehicle) == FREE) {
            comeOnto(vehicle);
        }
    }

    private void leave(Vehicle vehicle) {
        if (vehicle.between >= 0 && vehicle.between < pieces.size()) {
            pieces.get(vehicle.between).letOff(vehicle);
        }
        if (vehicle.isToMine) {
            vehicle.between++;
        }
        vehicle.where = RAMP;
        stopAtEnd(vehicle);
    }

    private void stopAtEnd(Vehicle vehicle) {
        if (vehicle.isToMine && vehicle.between == pieces.size()) {
            vehicle.where = MINE;
            unload(vehicle);
        } else if (!vehicle.isToMine && vehicle.between == 0) {
            vehicle.where = BASE;
            unload(vehicle);
        }
    }

    private void comeOnto(Vehicle vehicle) {
        Piece next = pieceAhead(vehicle);
        if (next == null) {
            return;
        }
        if (!vehicle.isToMine) {
            vehicle.between--;
        }
        // Also one that breaks through at once keeps the next ones at their gap.
        next.noteComing(vehicle.isToMine, now);
        if (next.weightOn + vehicle.weight() > next.bearsAs(false)) {
            vehicle.where = LOST;
            next.breakUp();
        } else {
            vehicle.where = ON;
            vehicle.overAt = now + next.minutesOf(vehicle);
            next.takeOn(vehicle);
        }
    }

    private Piece pieceAhead(Vehicle vehicle) {
        int number = vehicle.isToMine ? vehicle.between : vehicle.between - 1;
        return number < 0 || number >= pieces.size() ? null : pieces.get(number);
    }

    private int whatIsAgainst(Vehicle vehicle) {
        Piece next = pieceAhead(vehicle);
        if (next == null || next.openness == CLOSED) {
            return IS_CLOSED;
        }
        int minuteOfDay = now % DAY;
        if (next.isWaterPiece() && cold < 0 && minuteOfDay >= THAW_FROM && minuteOfDay <= THAW_TO) {
            return THAWS;
        }
        int weight = vehicle.weight();
        if (next.openness == LIGHT && weight > LIGHT_WEIGHT) {
            return TOO_HEAVY;
        }
        if (now - next.lastComing(vehicle.isToMine) < gapMinutes) {
            return TOO_NEAR;
        }
        if (next.kind != LAKE && next.countOn(!vehicle.isToMine) > 0) {
            return NARROW;
        }
        return next.weightOn + weight > next.bearsAs(true) ? TOO_WEAK : FREE;
    }

    /** A piece of the road, with its ice and what is on it. */
    private static final class Piece {
        final int kind;
        final int metres;
        final int depth;
        int black = 0;
        int white = 0;
        int water = 0;
        int snow = 0;
        int crack = WHOLE;
        int openness = CLOSED;
        int speedLimit = FIRST_LIMIT;
        double known = 0.0;
        // Kept up to date, so that no minute has to look through all vehicles for each vehicle.
        int onToMine = 0;
        int onToBase = 0;
        int weightOn = 0;
        int lastToMine = NEVER;
        int lastToBase = NEVER;

        Piece(int kind, int metres, int depth) {
            this.kind = kind;
            this.metres = metres;
            this.depth = depth;
        }

        boolean isWaterPiece() {
            return kind != PORTAGE;
        }

        boolean hasIce() {
            return black > 0 || white > 0;
        }

        double realThickness() {
            return black + 0.5 * white;
        }

        double thicknessAs(boolean isKnown) {
            return isKnown ? known : realThickness();
        }

        int bearsAs(boolean isKnown) {
            if (kind == PORTAGE) {
                return snow >= PORTAGE_SNOW ? PORTAGE_BEARS : 0;
            }
            double thick = thicknessAs(isKnown);
            double soundness = crack == WHOLE ? 1.0 : crack == DRY ? 0.75 : 0.5;
            return (int) (0.04 * thick * thick * soundness);
        }

        void freeze(int degrees) {
            if (kind == PORTAGE) {
                return;
            }
            int frozen = Math.min(water, 2 * degrees);
            water -= frozen;
            white += frozen;
            if (water == 0) {
                black += growth(degrees);
            }
            if (degrees >= 40) {
                crack = crack == WHOLE ? DRY : crack;
            } else if (degrees >= 10) {
                crack = crack == WET ? DRY : WHOLE;
            }
        }

        private int growth(int degrees) {
            int cover = black + white + 4 * snow + 50;
            if (cover <= 0) {
                return 0;
            }
            int grown = 400 * degrees / cover;
            return kind == RIVER ? Math.max(0, grown - 2) : grown;
        }

        void thaw(int degrees) {
            int left = 6 * degrees;
            int ofSnow = Math.min(snow, left);
            snow -= ofSnow;
            left -= ofSnow;
            int ofWhite = Math.min(white, left);
            white -= ofWhite;
            left -= ofWhite;
            int ofBlack = Math.min(black, left);
            black -= ofBlack;
            double less = known - (ofBlack + 0.5 * ofWhite);
            known = less < 0.0 ? 0.0 : less;
            if (crack == DRY) {
                crack = WET;
            }
        }

        int speedOf(Vehicle vehicle) {
            int slower = Math.min(vehicle.ownSpeed, speedLimit);
            double waveFrom = 0.8 * 98.0 * depth;
            double waveTo = 1.2 * 98.0 * depth;
            int square = slower * slower;
            if (kind == PORTAGE || square <= waveFrom || square >= waveTo) {
                return slower;
            }
            while (slower > 1 && slower * slower > waveFrom) {
                slower--;
            }
            return slower;
        }

        int minutesOf(Vehicle vehicle) {
            int metresAMinute = 6 * speedOf(vehicle);
            return metresAMinute <= 0 ? 0 : (metres + metresAMinute - 1) / metresAMinute;
        }

        int countOn(boolean isToMine) {
            return isToMine ? onToMine : onToBase;
        }

        int lastComing(boolean isToMine) {
            return isToMine ? lastToMine : lastToBase;
        }

        void noteComing(boolean isToMine, int minute) {
            if (isToMine) {
                lastToMine = minute;
            } else {
                lastToBase = minute;
            }
        }

        void takeOn(Vehicle vehicle) {
            weightOn += vehicle.weight();
            if (vehicle.isToMine) {
                onToMine++;
            } else {
                onToBase++;
            }
        }

        void letOff(Vehicle vehicle) {
            int weight = vehicle.weight();
            weightOn -= weight;
            if (vehicle.isToMine) {
                onToMine--;
            } else {
                onToBase--;
            }
            if (isWaterPiece()) {
                black = Math.max(0, black - weight / WEIGHT_OF_A_MILLIMETRE);
            }
        }

        void breakUp() {
            openness = CLOSED;
            if (isWaterPiece()) {
                crack = WET;
            }
        }
    }

    /** A vehicle: what it is, where it is, and what it carries. */
    private static final class Vehicle {
        final int empty;
        final int carries;
        final int ownSpeed;
        int where = BASE;
        // How many pieces lie between the base and it; so also the number of the piece that it is on.
        int between = 0;
        boolean isToMine = false;
        int overAt = NONE;
        Load cargo = null;

        Vehicle(int empty, int carries, int ownSpeed) {
            this.empty = empty;
            this.carries = carries;
            this.ownSpeed = ownSpeed;
        }

        int weight() {
            return cargo == null ? empty : empty + cargo.kilos;
        }
    }

    /** A load as it was entered; kept when it is unloaded, so that all can be counted anew. */
    private static final class Load {
        final int goods;
        final int kilos;
        boolean isBack = false;

        Load(int goods, int kilos) {
            this.goods = goods;
            this.kilos = kilos;
        }
    }
}

import java.util.ArrayList;
import java.util.List;

/** What the tests share: comparing, awaiting exceptions, and writing down all that an object answers. */
final class Check {
    interface Call {
        Object run();
    }

    private final String name;
    private int wrong = 0;
    private int made = 0;

    Check(String name) {
        this.name = name;
    }

    void same(String what, Object got, Object due) {
        made++;
        if (!due.equals(got)) {
            wrong++;
            System.out.println(name + ": " + what + " answered " + got + ", due is " + due);
        }
    }

    void isTrue(String what, boolean holds) {
        same(what, holds, true);
    }

    /** The call throws exactly this exception and leaves all answers of the road as they were. */
    void refused(Icehighway road, String what, String exception, Call call) {
        String before = answers(road);
        same(what, outcome(call), exception);
        same(what + ", the state behind it", answers(road), before);
    }

    void outside(Icehighway road, String what, Call call) {
        refused(road, what, "IndexOutOfBoundsException", call);
    }

    void unfit(Icehighway road, String what, Call call) {
        refused(road, what, "IllegalArgumentException", call);
    }

    void untimely(Icehighway road, String what, Call call) {
        refused(road, what, "IllegalStateException", call);
    }

    void end() {
        System.out.println(name + ": " + made + " checks, " + wrong + " wrong");
        if (wrong != 0) {
            System.exit(1);
        }
    }

    /** A portage that is open and bears all, of so many metres. */
    static Icehighway land(int metres) {
        Icehighway road = new Icehighway();
        road.piece(Icehighway.PORTAGE, metres, 1);
        road.snow(100);
        road.open(0, Icehighway.FULL);
        return road;
    }

    /** The answer as a text, or the simple name of the exception; told apart if it is not the class's own. */
    static String outcome(Call call) {
        try {
            return String.valueOf(call.run());
        } catch (RuntimeException e) {
            StackTraceElement[] frames = e.getStackTrace();
            boolean isThrown = frames.length > 0 && frames[0].getClassName().startsWith("Icehighway");
            return isThrown ? e.getClass().getSimpleName() : "not by a throw of its own: " + e;
        }
    }

    /** The pieces that there are, found by asking. */
    static int pieces(Icehighway road) {
        int count = 0;
        // Bounded, so that a broken program fails a test instead of holding it up.
        while (count < 20 && !outcome(pieceAsk(road, count)).equals("IndexOutOfBoundsException")) {
            count++;
        }
        return count;
    }

    static int vehicles(Icehighway road) {
        int count = 0;
        while (count < 20 && !outcome(vehicleAsk(road, count)).equals("IndexOutOfBoundsException")) {
            count++;
        }
        return count;
    }

    private static Call pieceAsk(Icehighway road, int piece) {
        return () -> road.told(piece, 0);
    }

    private static Call vehicleAsk(Icehighway road, int vehicle) {
        return () -> road.ofVehicle(vehicle, 0);
    }

    static String answers(Icehighway road) {
        List<Object> all = new ArrayList<>();
        int pieces = pieces(road);
        int vehicles = vehicles(road);
        all.add("minute " + road.minute() + " bill " + road.bill());
        for (int p = 0; p < pieces; p++) {
            all.add("\npiece " + p);
            for (int what = 0; what <= 7; what++) {
                all.add(road.told(p, what));
            }
            all.add(road.thickness(p, true));
            all.add(road.thickness(p, false));
            all.add(road.bears(p, true));
            all.add(road.bears(p, false));
        }
        for (int v = 0; v < vehicles; v++) {
            all.add("\nvehicle " + v);
            for (int what = 0; what <= 6; what++) {
                all.add(road.ofVehicle(v, what));
            }
            all.add(road.why(v));
            for (int p = 0; p < pieces; p++) {
                all.add(road.speed(v, p));
                all.add(road.minutes(v, p));
            }
        }
        for (int goods = 0; goods < 3; goods++) {
            all.add("\ngoods " + goods);
            for (int what = 0; what <= 4; what++) {
                all.add(road.kilos(goods, what));
            }
            all.add(road.kilosAnew(goods));
        }
        return all.toString();
    }
}

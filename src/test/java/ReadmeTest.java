import java.io.IOException;
import java.nio.file.Files;
import java.nio.file.Path;
import java.util.List;

/** The example in README.md, run with the answers that its comments tell. */
final class ReadmeTest {
    private static final Check CHECK = new Check("ReadmeTest");

    public static void main(String[] args) throws IOException {
        example();
        sameAsWritten();
        CHECK.end();
    }

    private static void example() {
        Icehighway road = new Icehighway();
        int lake = road.piece(Icehighway.LAKE, 3000, 200);
        road.weather(30);
        for (int day = 0; day < 15; day++) {
            road.pass(1440);
        }
        double ice = road.drill(lake);
        int most = road.bears(lake, true);
        road.open(lake, Icehighway.FULL);
        int truck = road.vehicle(4000, 6000, 90);
        road.order(0, 6000);
        int weight = road.load(truck, 0, 5000);
        road.go(truck);
        int against = road.why(truck);
        int crossing = road.minutes(truck, lake);
        road.pass(1 + crossing);
        int where = road.ofVehicle(truck, 0);
        int missing = road.kilos(0, 4);
        long cost = road.bill();
        CHECK.same("ice", ice, 600.0);
        CHECK.same("most", most, 14400);
        CHECK.same("weight", weight, 9000);
        CHECK.same("against", against, 0);
        CHECK.same("crossing", crossing, 6);
        CHECK.same("where", where, Icehighway.MINE);
        CHECK.same("missing", missing, 1000);
        CHECK.same("cost", cost, 45000L);
    }

    /** Each line of the README's example stands above too, so that the two can't part. */
    private static void sameAsWritten() throws IOException {
        String here = Files.readString(Path.of("src/test/java/ReadmeTest.java"));
        List<String> lines = Files.readAllLines(Path.of("README.md"));
        int found = 0;
        for (int i = lines.indexOf("```java") + 1; i < lines.size() && !lines.get(i).equals("```"); i++) {
            String code = lines.get(i).split("//")[0].trim();
            CHECK.isTrue("the test has: " + code, here.contains(code));
            found++;
        }
        CHECK.isTrue("the README has an example", found > 10);
    }
}

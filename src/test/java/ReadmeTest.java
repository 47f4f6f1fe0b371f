import java.io.IOException;
import java.lang.reflect.Method;
import java.lang.reflect.Modifier;
import java.nio.file.Files;
import java.nio.file.Path;

/** What README.md tells of the class: its example is run here, and no call of the face is left out. */
public final class ReadmeTest {
    private static final Path README = Path.of("README.md");
    private static final Path THIS = Path.of("src/test/java/ReadmeTest.java");
    private static final Check check = new Check("ReadmeTest");

    public static void main(String[] args) throws IOException {
        String readme = Files.readString(README);
        exampleHolds();
        exampleIsTheOneHere(readme);
        everyCallIsNamed(readme);
        check.yes("README.md says how to run the tests", readme.contains(".ci/run"));
        check.end();
    }

    /** Line by line as in README.md, with the answers that it tells. */
    private static void exampleHolds() {
        SmokeZones house = new SmokeZones();
        int kitchen = house.room(100, 30);
        int hall = house.room(50, 25);
        int door = house.opening(kitchen, hall, 10, 0, 20);
        int window = house.opening(hall, SmokeZones.NONE, 8, 10, 25);
        house.glass(window, 40);
        house.fire(kitchen, 5, 50, 400, 60);
        house.sprinkler(kitchen, 60);
        house.fan(hall, 40, 30);
        int beam = house.steel(kitchen, 20);
        int somebody = house.person(hall);
        house.go(somebody, 30, SmokeZones.NONE);
        int next = house.run(60);
        long smoke = house.roomAt(kitchen, 0);
        long low = house.roomAt(kitchen, 6);
        long flowed = house.openingAt(door, 2);
        long dose = house.personAt(somebody, 1);
        int temperature = house.steelAt(beam);
        long made = house.balance(0);
        check.due("next", next, 60);
        check.due("smoke", smoke, 3000);
        check.due("low", low, 15);
        check.due("flowed", flowed, 4548);
        check.due("dose", dose, 732);
        check.due("temperature", temperature, 41);
        // 50, then half of 100, 150, .. 350, then half of 400 for 48 seconds
        check.due("made", made, 50 + 50 + 75 + 100 + 125 + 150 + 175 + 48 * 200);
    }

    private static void exampleIsTheOneHere(String readme) throws IOException {
        String here = Files.readString(THIS);
        int start = readme.indexOf("```java\n");
        int end = readme.indexOf("```\n", start + 1);
        check.yes("README.md has an example", start >= 0 && end > start);
        String[] lines = readme.substring(Math.max(start, 0), Math.max(end, 0)).split("\n");
        for (int i = 1; i < lines.length; i++) {
            String code = lines[i].replaceAll("//.*", "").trim();
            check.yes("tried here: " + code, here.contains("        " + code + "\n"));
        }
    }

    private static void everyCallIsNamed(String readme) {
        for (Method m : SmokeZones.class.getDeclaredMethods()) {
            if (Modifier.isPublic(m.getModifiers())) {
                check.yes("README.md names " + m.getName(), readme.contains("`" + m.getName() + "("));
            }
        }
    }
}

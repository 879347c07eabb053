import java.io.IOException;
import java.nio.file.Files;
import java.nio.file.Path;
import java.util.List;
import java.util.stream.Collectors;

/** The calls that README.md shows: they answer what it tells there, and it shows no others. */
public final class ReadmeTest {
    private static CarolDoors carols;
    private static List<String> shown;
    private static int seen;

    public static void main(String[] args) throws IOException {
        shown = Files.readAllLines(Path.of("README.md")).stream().map(String::strip)
                .filter(line -> line.startsWith("carols.") && line.contains("//")).collect(Collectors.toList());
        carols = new CarolDoors();
        shows("carols.feed(0x646f6f72, 0x20352032, 0x3420313b, 0, 0);",
                carols.feed(0x646f6f72, 0x20352032, 0x3420313b, 0, 0));
        shows("carols.village(12);", carols.village(12));
        Calls.due("the door's X", carols.door(0, 0), 5);
        Calls.due("the door's P", carols.door(0, 1), 24);
        Calls.due("the door's J", carols.door(0, 2), 1);
        texts();
        answers();
        Calls.due("calls that README.md shows", shown.size(), seen);
        Calls.end();
    }

    private static void texts() {
        String village = "door 5 24 8; door 9 60 3; in 0 8; hears 0 8; drive 1 2; singer 20 0;";
        shows("carols.village(tell(carols, \"" + village + "\"));", carols.village(tell(village)));
        String give = "least [ pence, 6 * verses ]";
        shows("carols.law(0, tell(carols, \"" + give + "\"));", carols.law(0, tell(give)));
        String on = "told - verses";
        shows("carols.law(1, tell(carols, \"" + on + "\"));", carols.law(1, tell(on)));
        String plan = "0 2 first; 1 3;";
        shows("carols.plan(tell(carols, \"" + plan + "\"));", carols.plan(tell(plan)));
        String book = "0 1 = 24; 1 = 0;";
        shows("carols.book(tell(carols, \"" + book + "\"));", carols.book(tell(book)));
    }

    private static void answers() {
        shows("carols.gives(0, 2, 0);", carols.gives(0, 2, 0));
        shows("carols.mean(0, 3, 0, 1, 0);", carols.mean(0, 3, 0, 1, 0));
        shows("carols.mean(0, 3, 0, 1, 1);", carols.mean(0, 3, 0, 1, 1));
        shows("carols.longest();", carols.longest());
        shows("carols.lasts(1, 0);", carols.lasts(1, 0));
        shows("carols.gave(1);", carols.gave(1));
        shows("carols.until(20);", carols.until(20));
        shows("carols.sure();", carols.sure());
        shows("carols.undo();", carols.undo());
    }

    private static int tell(String text) {
        Calls.feed(carols, text);
        return text.length();
    }

    private static void shows(String call, long got) {
        seen++;
        String line = "";
        for (String each : shown) {
            line = each.startsWith(call) ? each : line;
        }
        if (!line.endsWith("// " + got)) {
            Calls.wrong++;
            System.out.println(call + " answered " + got + ", README.md tells '" + line + "'");
        }
    }
}

import java.io.IOException;
import java.nio.file.Files;
import java.nio.file.Path;
import java.util.List;

/** The calls of README.md answer what it tells behind them; run it from the project's root. */
final class ReadmeTest extends Due {
    private static List<String> lines;
    private static int shown = 0;

    public static void main(String[] args) throws IOException {
        lines = Files.readAllLines(Path.of("README.md"));
        says("README.md");
        AirByYard air = new AirByYard();
        int lark = air.bird(4, 4, 6, 1, 10, 4);
        shows("int lark = air.bird(4, 4, 6, 1, 10, 4);", lark);
        int hawk = air.bird(5, 8, 1, 3, 7, 24);
        shows("int hawk = air.bird(5, 8, 1, 3, 7, 24);", hawk);
        feed(air, "dear 2 l>3;gain 30;top 9");
        shows("int estuary = air.estuary();", air.estuary());
        shows("int rent = air.of(lark, 12);", air.of(lark, 12));
        shows("int who = air.held(6, 10);", air.held(6, 10));
        shows("int free = air.free(10);", air.free(10));
        shows("int clash = air.clash(lark, hawk);", air.clash(lark, hawk));
        shows("int day = air.pass(3);", air.pass(3));
        shows("int purse = air.of(hawk, 6);", air.of(hawk, 6));
        shows("int out = air.told(3);", air.told(3));
        shows("int never = air.empty(lark);", air.empty(lark));
        shows("int low = air.lower(lark, 0);", air.lower(lark, 0));
        shows("air.see(6, 10, true, 2);", air.see(6, 10, true, 2));
        shows("int lows = air.can(lark, 0);", air.can(lark, 0));
        shows("long above = air.mean(0);", air.mean(0));
        shows("long below = air.mean(1);", air.mean(1));
        shows("int birds = air.image();", air.image());
        shows("int act = air.act(lark, 1, 4);", air.act(lark, 1, 4));
        shows("int body = air.trace(0);", air.trace(0));
        shows("int back = air.undo();", air.undo());
        int told = 0;
        for (String line : lines) if (line.matches(".*; +// -?\\d+:.*")) told++;
        due("calls with an answer in README.md", told, shown);
        end("ReadmeTest");
    }

    private static void shows(String call, long got) {
        shown++;
        for (String line : lines) {
            if (line.startsWith(call + " ")) {
                String answer = line.substring(line.indexOf("// ") + 3);
                due(call, got, Long.parseLong(answer.substring(0, answer.indexOf(':'))));
                return;
            }
        }
        fail("README.md doesn't show " + call);
    }
}

import java.io.IOException;
import java.nio.charset.StandardCharsets;
import java.nio.file.Files;
import java.nio.file.Path;
import java.util.ArrayList;
import java.util.List;

/** What README.md says that its calls answer: each line with a comment, in its order. */
public final class ReadmeTest {
    private static final List<String> LINES = new ArrayList<>();
    private static int told = 0;

    public static void main(String[] args) throws IOException {
        boolean isJava = false;
        for (String line : Files.readAllLines(Path.of("README.md"), StandardCharsets.UTF_8)) {
            isJava = line.startsWith("```") ? line.equals("```java") : isJava;
            if (isJava && line.contains("// ")) {
                LINES.add(line);
            }
        }
        SlipwayYard yard = new SlipwayYard();
        net(yard);
        text(new SlipwayYard());
        rest(yard);
        Due.is("how many calls README.md tells", told, LINES::size);
        Due.end();
    }

    /** The next line is this call, and its comment begins with what the call answers. */
    private static void is(String call, Due.Call made) {
        String line = told < LINES.size() ? LINES.get(told) : "";
        told++;
        int comment = line.indexOf("// ");
        String before = comment < 0 ? "" : line.substring(0, comment).trim();
        String answer = comment < 0 ? "" : line.substring(comment + 3).split("[:, ]")[0];
        Due.holds("README.md tells " + call, before.equals(call) || before.endsWith(" = " + call));
        Due.is(call, answer, made);
    }

    private static void net(SlipwayYard yard) {
        is("yard.work(5, 3, 10, 2);", () -> yard.work(5, 3, 10, 2));
        is("yard.work(4, 1, 3, 2);", () -> yard.work(4, 1, 3, 2));
        is("yard.waits(hull, keel, SlipwayYard.ENDS_BEGINS, 1);", () -> yard.waits(1, 0, SlipwayYard.ENDS_BEGINS, 1));
        is("yard.length();", yard::length);
        is("yard.early(hull);", () -> yard.early(1));
        is("yard.rowAt(SlipwayYard.NONE);", () -> yard.rowAt(SlipwayYard.NONE));
        is("yard.cost(9);", () -> yard.cost(9));
        is("yard.shortest();", yard::shortest);
        is("yard.cost(4);", () -> yard.cost(4));
    }

    private static void text(SlipwayYard typed) {
        is("typed.type(0x613D353B623D342FL);", () -> typed.type(0x613D353B623D342FL));
        is("typed.errorKind();", typed::errorKind);
        is("typed.errorPlace();", typed::errorPlace);
        is("typed.type(0x313B613E622B31L);", () -> typed.type(0x313B613E622B31L));
        is("typed.read();", typed::read);
        is("typed.length();", typed::length);
    }

    private static void rest(SlipwayYard yard) {
        is("yard.plate(10203);", () -> yard.plate(10203));
        is("yard.block(2, 1, 1, 3);", () -> yard.block(2, 1, 1, 3));
        is("yard.put(0, 4, 0, 0);", () -> yard.put(0, 4, 0, 0));
        is("yard.middle(1, false);", () -> yard.middle(1, false));
        is("yard.middle(1, true);", () -> yard.middle(1, true));
        is("yard.work(2, 3, 0, 0);", () -> yard.work(2, 3, 0, 0));
        is("yard.early(2);", () -> yard.early(2));
        is("yard.works();", yard::works);
        is("yard.errors();", yard::errors);
    }
}

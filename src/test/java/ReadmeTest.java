import java.io.IOException;
import java.nio.file.Files;
import java.nio.file.Path;
import java.util.List;

/** README.md's example: each line that tells an answer is played, and the answer must be due. */
public final class ReadmeTest {
    private static final InodeCouncil KEEPER = new InodeCouncil();
    private static List<String> told;
    private static int next = 0;

    public static void main(String[] args) throws IOException {
        told = Files.readAllLines(Path.of("README.md")).stream()
                .filter(line -> line.contains("keeper.") && line.contains("// ")).toList();
        line("int owner = keeper.addOwner(3);", KEEPER.addOwner(3));
        line("int file = keeper.createFile(owner);", KEEPER.createFile(0));
        line("keeper.write(file, 2, 77);", KEEPER.write(0, 2, 77));
        line("int snapshot = keeper.takeSnapshot(5);", KEEPER.takeSnapshot(5));
        line("keeper.write(file, 2, 78);", KEEPER.write(0, 2, 78));
        line("keeper.readFrom(snapshot, file, 2);", KEEPER.readFrom(0, 0, 2));
        line("keeper.read(file, 2);", KEEPER.read(0, 2));
        line("keeper.begin();", KEEPER.begin());
        line("keeper.unlink(file);", KEEPER.unlink(0));
        line("keeper.crash();", KEEPER.crash());
        line("keeper.doesExist(file);", KEEPER.doesExist(0));
        line("int hold = keeper.openHold(file, 9);", KEEPER.openHold(0, 9));
        line("keeper.unlink(file);", KEEPER.unlink(0));
        line("keeper.read(file, 2);", KEEPER.read(0, 2));
        line("keeper.pass(9);", KEEPER.pass(9));
        line("keeper.doesExist(file);", KEEPER.doesExist(0));
        line("keeper.writeFile(file);", KEEPER.writeFile(0));
        Checks.due("README's line", "\"" + Checks.line(KEEPER, 3) + "\"", "\"0x0\"");
        line("keeper.lineAt(1);", KEEPER.lineAt(1));
        Checks.due("lines of README that tell an answer", told.size(), next);
        Checks.finish("ReadmeTest");
    }

    /** The next line of the example must be this call, with what it answered. */
    private static void line(String call, Object answered) {
        String line = next < told.size() ? told.get(next) : "";
        int comment = line.indexOf("// ");
        Checks.due("README's call", comment < 0 ? "" : line.substring(0, comment).trim(), call);
        String answer = comment < 0 ? "" : line.substring(comment + 3);
        int colon = answer.indexOf(':');
        Checks.due("README's " + call, String.valueOf(answered),
                colon < 0 ? answer : answer.substring(0, colon));
        next++;
    }
}

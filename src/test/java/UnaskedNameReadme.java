import java.io.IOException;
import java.nio.charset.StandardCharsets;
import java.nio.file.Files;
import java.nio.file.Path;
import java.util.ArrayList;
import java.util.List;

/**
 * The examples of README.md, so that they stay true: each row of a call with its answer behind // stands there to the
 * letter, and the call is made here in the same order.
 */
public final class UnaskedNameReadme {
    static final List<String> rows = new ArrayList<>();
    static int wrong = 0;

    static void due(String call, Object got) {
        rows.add(call + " // " + got);
    }

    static void tell(UnaskedName x, String text) {
        byte[] bytes = java.util.Arrays.copyOf(text.getBytes(StandardCharsets.ISO_8859_1), (text.length() + 19) / 20 * 20);
        java.nio.ByteBuffer row = java.nio.ByteBuffer.wrap(bytes);
        x.end(0);
        while (row.hasRemaining()) {
            x.feed(row.getInt(), row.getInt(), row.getInt(), row.getInt(), row.getInt());
        }
        x.end(text.length());
    }

    static String thrown(Runnable call) {
        try {
            call.run();
            return "nothing";
        } catch (RuntimeException e) {
            return "throws " + e.getClass().getSimpleName();
        }
    }

    static void calls() {
        UnaskedName x = new UnaskedName();
        tell(x, "name ab credit 2;name ac credit 3;word 5;word 8 of b;deed 6 costs 2;friend 0;enemy 1;limit 30");
        due("x.story();", x.story());
        tell(x, "sting 2 if true;soothe 1 if doubt > 10");
        due("x.law();", x.law());
        due("x.stings(1, 1);", x.stings(1, 1));
        due("x.say(1, 1);", x.say(1, 1));
        due("x.count(12);", x.count(12));
        due("x.first(UnaskedName.NONE);", x.first(UnaskedName.NONE));
        due("x.siege(12);", x.siege(12));
        due("x.plan(12);", x.plan(12));
        due("x.does(0);", x.does(0));
        due("x.undo();", x.undo());
        due("x.count(7);", x.count(7));
        tell(x, "limit 300");
        due("x.story();", thrown(x::story));
        due("x.fault();", x.fault());
    }

    static void heldAgainstReadme() throws IOException {
        List<String> told = new ArrayList<>();
        for (String line : Files.readAllLines(Path.of("README.md"))) {
            String[] parts = line.split(" +// ", 2);
            if (line.startsWith("x.") && parts.length == 2) {
                told.add(parts[0] + " // " + parts[1].split(":")[0]);
            }
        }
        if (!told.equals(rows)) {
            wrong++;
            System.out.println("README.md tells " + told + ", due is " + rows);
        }
    }

    public static void main(String[] args) throws IOException {
        calls();
        heldAgainstReadme();
        System.out.println(rows.size() + " rows of README.md, " + (wrong == 0 ? "as due" : "not as due"));
        if (wrong != 0) {
            System.exit(1);
        }
    }
}

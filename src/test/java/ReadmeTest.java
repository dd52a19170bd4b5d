import java.io.IOException;
import java.nio.file.Files;
import java.nio.file.Path;

/** The example in README.md: each line stands there, and answers the number that is said behind it. */
public final class ReadmeTest {
    private final String readme;
    private final LapseMandates book = new LapseMandates();

    private ReadmeTest(String readme) {
        this.readme = readme;
    }

    public static void main(String[] args) throws IOException {
        new ReadmeTest(Files.readString(Path.of("README.md"))).check();
        Checks.close();
    }

    private void check() {
        stands("int chair = book.give(LapseMandates.NONE, 0, 500, 1000, 0);");
        int chair = book.give(LapseMandates.NONE, 0, 500, 1000, 0);
        stands("int clerk = book.give(chair, 1, 200, 400, 1);");
        int clerk = book.give(chair, 1, 200, 400, 1);
        answers("book.spend(chair, 300);", book.spend(chair, 300));
        answers("book.spend(clerk, 150);", book.spend(clerk, 150));
        answers("book.approve(0, 0);", book.approve(0, 0));
        answers("book.urge(clerk, 100);", book.urge(clerk, 100));
        answers("book.lapsesIn(clerk);", book.lapsesIn(clerk));
        answers("book.whyNot(clerk, 201);", book.whyNot(clerk, 201));
        answers("book.room(clerk, false);", book.room(clerk, false));
        answers("book.pass(4);", book.pass(4));
        answers("book.undo();", book.undo());
        stands("String row = \"s0:20;u1:40;s9:1\";");
        Checks.write(book, "s0:20;u1:40;s9:1");
        answers("book.firstError();", book.firstError());
        answers("book.run();", book.run());
    }

    private void stands(String line) {
        Checks.due("README.md has the line " + line, readme.contains("\n" + line + "\n") ? 1 : 0, 1);
    }

    /** The answer is the number behind the line's first "//". */
    private void answers(String call, int got) {
        int start = readme.indexOf("\n" + call);
        int comment = start < 0 ? -1 : readme.indexOf("// ", start);
        int colon = comment < 0 ? -1 : readme.indexOf(':', comment);
        Checks.due("README.md has the line " + call, colon >= 0 ? 1 : 0, 1);
        if (colon >= 0) {
            Checks.due(call, got, Integer.parseInt(readme.substring(comment + 3, colon)));
        }
    }
}

import java.io.IOException;
import java.nio.file.Files;
import java.nio.file.Path;
import java.util.regex.Matcher;
import java.util.regex.Pattern;

/** What a plain look at the source can tell of ../shared/LANGUAGE.md; the number is that of the rule. */
public final class RulesTest {
  private static final String LIBRARY = "import java\\.util\\.(ArrayList|List|Arrays|Iterator|NoSuchElementException);";

  public static void main(String[] args) throws IOException {
    String source = Files.readString(Path.of("src/main/java/LightDesk.java"));
    String code = source.replaceAll("(?s)/\\*.*?\\*/|//[^\n]*|\"[^\"\n]*\"", " ");
    Expect.same("no package line", count(code, "\\bpackage\\b"), 0);
    Expect.same("2 no lambda", count(code, "->"), 0);
    Expect.same("2 no method reference", count(code, "::"), 0);
    Expect.same("4 the library", count(code, "\\bimport\\b"), count(code, LIBRARY));
    Expect.same("4 no name with its package", count(code, "\\bjavax?\\."), count(code, LIBRARY));
    Expect.same("4 no Exact function", count(code, "\\w+Exact\\b"), 0);
    Expect.same("4 System for arraycopy alone", count(code, "\\bSystem\\."), count(code, "\\bSystem\\.arraycopy\\b"));
    Expect.same("5 no static block", count(code, "\\bstatic\\s*\\{"), 0);
    Expect.same("6 no caught exception", count(code, "\\b(try|catch|finally)\\b"), 0);
    Expect.same("6 no such word", count(code, "\\b(synchronized|assert|volatile|native)\\b"), 0);
    Expect.same("6 each throw makes its own", count(code, "\\bthrow\\b"), count(code,
        "throw new Illegal(Argument|State)Exception\\( *\\);|throw new IndexOutOfBoundsException\\( *\\);"));
    Expect.same("6 no equals", count(code, "\\b(equals|hashCode|toString)\\b"), 0);
    Expect.same("7 one divisor is no number", count(code, "[/%] *[A-Za-z(]"), 1);
    Expect.same("7 it is the fade", count(code, "/ fade\\b"), 1);
    Expect.same("7 it is looked at", count(code, "if \\(fade <= 0 "), 1);
    Expect.same("12 rows are made in constructors alone", count(code, "\\bnew\\b"), count(code,
        "\\bthrow new\\b|\\bprivate final [\\w\\[\\]]+ \\w+ = new\\b"));
    Expect.same("11 few classes", count(code, "\\b(class|record|enum|interface)\\b") <= 12, true);
    Expect.end("RulesTest");
  }

  private static long count(String code, String words) {
    Matcher matcher = Pattern.compile(words).matcher(code);
    return matcher.results().count();
  }
}

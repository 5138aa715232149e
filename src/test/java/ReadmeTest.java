import java.io.IOException;
import java.nio.file.Files;
import java.nio.file.Path;

/** README.md's example: it is here word for word, and answers what its comments say. */
public final class ReadmeTest {
  public static void main(String[] args) throws IOException {
    LightDesk desk = new LightDesk();
    int lamp = desk.addLamp(10, 1);             // power 10, gel 1 lets 95 hundredths through
    desk.hang(0, lamp, 3);                      // in night 0 on channel 3
    int cue = desk.addCue(0, 5, 10, false);     // list 0: a delay of 5 tenths, a fade of 10
    desk.setLevel(0, cue, 3, 50);
    desk.go(0, cue);
    desk.pass(15);
    int light = desk.light(3);                  // 475
    int left = desk.undo();                     // takes the level of the cue back; 1 change is left
    Expect.same("the light", light, 475);
    Expect.same("the changes left", left, 1);
    isHereWordForWord();
    Expect.end("ReadmeTest");
  }

  private static void isHereWordForWord() throws IOException {
    String readme = Files.readString(Path.of("README.md"));
    String here = Files.readString(Path.of("src/test/java/ReadmeTest.java"));
    String[] parts = readme.split("```(java)?\n");
    Expect.same("README.md has one example", parts.length, 3);
    for (String line : parts[parts.length > 1 ? 1 : 0].split("\n")) {
      Expect.same("in README.md: " + line, here.contains("    " + line + "\n"), true);
    }
  }
}

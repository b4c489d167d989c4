import java.nio.file.Files;
import java.nio.file.Path;
import java.util.Comparator;
import java.util.List;
import java.util.regex.Matcher;
import java.util.regex.Pattern;
import java.util.stream.Collectors;
import java.util.stream.Stream;

/** README.md says what is so: its program prints what stands there, its answers below 0 come as it tells. */
public final class ReadmeTest {
  private static final Pattern CALL = Pattern.compile("`(\\w+\\([^`]*\\))`");

  private static String block(String page, String language) {
    Matcher m = Pattern.compile("```" + language + "\\n(.*?)```", Pattern.DOTALL).matcher(page);
    return m.find() ? m.group(1) : "";
  }

  /** What a command prints; what it has against something goes by here, to be read. */
  private static String run(String... command) throws Exception {
    Process p = new ProcessBuilder(command).redirectError(ProcessBuilder.Redirect.INHERIT).start();
    String printed = new String(p.getInputStream().readAllBytes());
    return p.waitFor() == 0 ? printed.replace("\r\n", "\n") : "ended with " + p.exitValue() + ": " + printed;
  }

  private static String printedBy(String program, String classSource) throws Exception {
    Path dir = Files.createTempDirectory("readme");
    try {
      Path source = Files.writeString(dir.resolve("Cards.java"), program);
      String told = run("javac", "-d", dir.resolve("out").toString(), classSource, source.toString());
      return told.isEmpty() ? run("java", "-cp", dir.resolve("out").toString(), "Cards") : told;
    } finally {
      delete(dir);
    }
  }

  private static void delete(Path dir) throws Exception {
    List<Path> all;
    try (Stream<Path> walk = Files.walk(dir)) {
      all = walk.sorted(Comparator.reverseOrder()).collect(Collectors.toList());
    }
    for (Path p : all) Files.delete(p);
  }

  /** What a row of the table says its last call answers: behind that call, or as the row begins. */
  private static long told(String answer, String behind) {
    Matcher number = Pattern.compile("^-\\d+").matcher(answer);
    Matcher last = Pattern.compile("= (-\\d+)").matcher(behind);
    if (last.find()) return Long.parseLong(last.group(1));
    return number.find() ? Long.parseLong(number.group()) : FiftyOneCards.NO;
  }

  private static int answersBelow0(String page) {
    int rows = 0;
    for (String line : page.substring(page.indexOf("## What answers below 0 mean"), page.indexOf("## How to run")).split("\n")) {
      String[] parts = line.split("\\|");
      if (parts.length < 4 || !CALL.matcher(parts[3]).find()) continue;
      rows++;
      FiftyOneCards x = new FiftyOneCards();
      long last = 0;
      Matcher m = CALL.matcher(parts[3]);
      while (m.find()) last = Steps.answer(x, m.group(1));
      Due.due("README.md: " + parts[3].trim(), last, told(parts[1].trim(), parts[3]));
    }
    return rows;
  }

  /** args: README.md, the source of the class. */
  public static void main(String[] args) throws Exception {
    String page = Files.readString(Path.of(args[0]));
    String printed = printedBy(block(page, "java"), args[1]);
    Due.due("README.md: the program prints as told (1), it printed\n" + printed, printed.equals(block(page, "text")) ? 1 : 0, 1);
    Due.due("README.md: answers below 0", answersBelow0(page), 15);
    Due.due("README.md: it tells how to run the tests (1)", page.contains("bash .ci/run") ? 1 : 0, 1);
    Due.end("ReadmeTest");
  }
}

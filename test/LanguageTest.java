import java.io.IOException;
import java.nio.charset.StandardCharsets;
import java.nio.file.Files;
import java.nio.file.Path;
import java.util.List;
import java.util.Set;
import java.util.TreeSet;
import java.util.regex.Matcher;
import java.util.regex.Pattern;

/** What a look at the signs can tell of the rules of LANGUAGE.md; run where src/ is. */
public final class LanguageTest {
  private static final List<String> BANNED = List.of("throw", "throws", "try", "catch", "finally", "synchronized", "assert",
      "import", "package", "protected", "volatile", "transient", "native", "HashMap", "Map", "Object", "Random", "Scanner",
      "Thread", "System\\.(?!arraycopy)\\w+", "->", "::", "\\w+Exact", "NaN", "yield", "@\\w+");
  private static final Set<String> STATICS = Set.of("Math.min", "Math.max", "Math.abs", "Integer.bitCount", "System.arraycopy");
  private static final Pattern METHOD =
      Pattern.compile("^ +(public |private |static |final )*(int|boolean|void|int\\[\\]) (\\w+)\\((.*)\\) \\{$");

  private LanguageTest() {
  }

  public static void main(String[] args) throws IOException {
    Due due = new Due("LanguageTest");
    byte[] bytes = Files.readAllBytes(Path.of("src/main/java/HueWar.java"));
    String source = new String(bytes, StandardCharsets.ISO_8859_1);
    for (byte b : bytes) {
      if (b < 0) {
        due.is("a sign above 127", b, 0);
      }
    }
    String code = source.replaceAll("(?s)/\\*.*?\\*/", "").replaceAll("//[^\n]*", "").replaceAll("'.'", "' '");
    for (String word : BANNED) {
      boolean isWord = Character.isLetter(word.charAt(0));
      due.is("has " + word, Pattern.compile(isWord ? "\\b" + word + "\\b" : word).matcher(code).find(), false);
    }
    Matcher call = Pattern.compile("\\b(Math|Integer|Long|System|Arrays)\\.\\w+").matcher(code);
    while (call.find()) {
      due.is("library " + call.group(), STATICS.contains(call.group()), true);
    }
    Matcher made = Pattern.compile("new (\\w+)(.)").matcher(code);
    while (made.find()) {
      due.is("makes " + made.group(), made.group().equals("new int[") || made.group().equals("new boolean[")
          || made.group(2).equals("(") && code.contains("static final class " + made.group(1) + " "), true);
    }
    methods(due, code);
    due.end();
  }

  private static void methods(Due due, String code) {
    Set<String> publics = new TreeSet<>();
    Set<String> others = new TreeSet<>();
    int from = 0;
    int line = 0;
    int classes = 0;
    String name = "";
    for (String text : code.split("\n")) {
      line++;
      classes += text.contains(" class ") ? 1 : 0;
      Matcher method = METHOD.matcher(text);
      if (method.matches()) {
        from = line;
        name = method.group(3);
        (text.contains("public ") ? publics : others).add(name);
        due.is(name + " has parameters", method.group(4).split(",").length <= 7, true);
      } else if (text.matches("^ {2,4}\\}$") && from > 0) {
        due.is(name + " is short", line - from <= 60, true);
        from = 0;
      }
    }
    others.retainAll(publics);
    due.is("names of the face on others " + others, others.size(), 0);
    due.is("classes", classes <= 12, true);
    due.is("public methods", publics.size(), 30);
  }
}

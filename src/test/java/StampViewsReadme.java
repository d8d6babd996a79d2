import java.io.IOException;
import java.net.URL;
import java.net.URLClassLoader;
import java.nio.file.Files;
import java.nio.file.Path;
import java.util.ArrayList;
import java.util.List;
import java.util.regex.Matcher;
import java.util.regex.Pattern;

/** The Java of README.md, run as it stands: behind each call of x that is followed by a remark stands the answer that is due. */
public final class StampViewsReadme {
  private static final Pattern ASKED = Pattern.compile("\\s*(x\\.\\w+\\(.*\\));\\s*// (-?\\w+)(: .*)?");

  public static void main(String[] args) throws Exception {
    String page = Files.readString(Path.of("README.md"));
    Due.part("README.md");
    List<String> lines = javaOf(page);
    List<String> calls = new ArrayList<>();
    List<String> due = new ArrayList<>();
    String[] got = run(programOf(lines, calls, due));
    Due.holds("the page has answers", calls.size() >= 20);
    Due.is("answers", got.length, calls.size());
    for (int i = 0; i < got.length && i < calls.size(); i++) Due.same(calls.get(i), got[i], due.get(i));
    namesEveryCall(page);
    namesEveryTest(page);
    Due.end();
  }

  private static List<String> javaOf(String page) {
    List<String> lines = new ArrayList<>();
    Matcher block = Pattern.compile("(?s)```java\n(.*?)```").matcher(page);
    while (block.find()) lines.addAll(block.group(1).lines().toList());
    return lines;
  }

  private static String programOf(List<String> lines, List<String> calls, List<String> due) {
    StringBuilder b = new StringBuilder("public final class Shown {\n  public static String[] run() {\n");
    b.append("    java.util.List<String> got = new java.util.ArrayList<>();\n");
    for (String line : lines) {
      Matcher m = ASKED.matcher(line);
      if (m.matches()) {
        b.append("    got.add(String.valueOf(").append(m.group(1)).append("));\n");
        calls.add(m.group(1));
        due.add(m.group(2));
      } else {
        b.append("    ").append(line).append('\n');
      }
    }
    return b.append("    return got.toArray(new String[0]);\n  }\n}\n").toString();
  }

  private static String[] run(String program) throws Exception {
    Path folder = Files.createTempDirectory("shown");
    try {
      Path source = folder.resolve("Shown.java");
      Files.writeString(source, program);
      // As .ci/run does: javac is asked for by its name, so that nothing but javac and java must be there.
      Process javac = new ProcessBuilder("javac", "-cp", System.getProperty("java.class.path"), "-d", folder.toString(), source.toString())
          .redirectErrorStream(true).start();
      String said = new String(javac.getInputStream().readAllBytes());
      boolean compiled = javac.waitFor() == 0;
      Due.same("what javac says of the page", compiled ? "" : "'" + said + "'", "");
      if (!compiled) return new String[0];
      try (URLClassLoader loader = new URLClassLoader(new URL[] {folder.toUri().toURL()})) {
        return (String[]) loader.loadClass("Shown").getMethod("run").invoke(null);
      }
    } finally {
      remove(folder);
    }
  }

  private static void remove(Path folder) throws IOException {
    try (var files = Files.list(folder)) {
      for (Path file : files.toList()) Files.delete(file);
    }
    Files.delete(folder);
  }

  private static void namesEveryCall(String page) {
    for (var method : StampViews.class.getDeclaredMethods()) {
      if (!java.lang.reflect.Modifier.isPublic(method.getModifiers())) continue;
      Due.holds("the page names " + method.getName(), Pattern.compile("[`.]" + method.getName() + "[`(]").matcher(page).find());
    }
  }

  private static void namesEveryTest(String page) throws IOException {
    try (var files = Files.list(Path.of("src/test/java"))) {
      for (Path file : files.toList()) {
        String name = file.getFileName().toString();
        if (name.startsWith("StampViews")) Due.holds("the page names " + name, page.contains("`src/test/java/" + name + "`"));
      }
    }
  }
}

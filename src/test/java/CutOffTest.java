import java.lang.reflect.InvocationTargetException;
import java.net.URL;
import java.net.URLClassLoader;
import java.nio.file.Files;
import java.nio.file.Path;
import java.util.ArrayList;
import java.util.Comparator;
import java.util.List;
import java.util.stream.Stream;
import javax.tools.JavaCompiler;
import javax.tools.ToolProvider;

/**
 * Runs that are cut off. No set of ACTS comes to 600 STEPS (NOTES.md says why), so a copy of the class
 * in which nothing but that number is another one is compiled here, and asked.
 */
public final class CutOffTest {
  private static final String DUE = "MOST_STEPS = 600", SHORT = "MOST_STEPS = 20";

  public static void main(String[] args) throws Exception {
    Path room = Files.createTempDirectory("cutoff");
    try {
      compileShorter(room);
      try (URLClassLoader loader = new URLClassLoader(new URL[] {room.toUri().toURL()},
          ClassLoader.getPlatformClassLoader())) {
        callMain(loader, "CutOffScenes");
        callMain(loader, "AgainstModelTest", "1500", "0", "20");
      }
    } finally {
      remove(room);
    }
  }

  private static void compileShorter(Path room) throws Exception {
    String source = Files.readString(Path.of("src/main/java/CardIndex.java"));
    int at = source.indexOf(DUE);
    if (at < 0 || source.indexOf(DUE, at + 1) >= 0) throw new IllegalStateException(DUE + " is not there just once");
    Path copy = room.resolve("CardIndex.java");
    Files.writeString(copy, source.replace(DUE, SHORT));
    List<String> options = new ArrayList<>(List.of("-d", room.toString(), copy.toString(),
        "src/test/cutoff/CutOffScenes.java"));
    for (String name : List.of("Asking", "Model", "AgainstModelTest")) options.add("src/test/java/" + name + ".java");
    JavaCompiler compiler = ToolProvider.getSystemJavaCompiler();
    if (compiler.run(null, null, null, options.toArray(new String[0])) != 0) {
      throw new IllegalStateException("the shorter copy does not compile");
    }
  }

  private static void callMain(ClassLoader loader, String name, String... args) throws Exception {
    try {
      loader.loadClass(name).getMethod("main", String[].class).invoke(null, (Object) args);
    } catch (InvocationTargetException e) {
      throw new IllegalStateException(name + " threw", e.getCause());
    }
  }

  private static void remove(Path room) throws Exception {
    try (Stream<Path> files = Files.walk(room)) {
      for (Path file : files.sorted(Comparator.reverseOrder()).toList()) Files.delete(file);
    }
  }
}

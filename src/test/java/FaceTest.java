import java.io.IOException;
import java.lang.reflect.Constructor;
import java.lang.reflect.Field;
import java.lang.reflect.Member;
import java.lang.reflect.Method;
import java.lang.reflect.Modifier;
import java.nio.file.Files;
import java.nio.file.Path;
import java.util.Arrays;
import java.util.HashSet;
import java.util.Set;
import java.util.TreeSet;
import java.util.stream.Collectors;

/** The public face, and what of LANGUAGE.md can be seen from outside. */
public final class FaceTest {
    private static final String[] FACE = {
        "int feed(int,int,int,int,int) IllegalStateException",
        "int loadArray(int) IllegalArgumentException,IllegalStateException",
        "int loadTrace(int) IllegalArgumentException,IllegalStateException",
        "int errorCode() ", "int errorPosition() ",
        "int diskCount() ", "int stripeCount() ", "int tenantCount() ",
        "int stripeOf(int) NoSuchElementException", "int diskOf(int) NoSuchElementException",
        "int parityDisk(int) NoSuchElementException",
        "int share(int,int) NoSuchElementException,IllegalArgumentException",
        "int submit(int,int,boolean,int) NoSuchElementException,IllegalArgumentException,IllegalStateException",
        "int fail(int) NoSuchElementException,IllegalStateException",
        "int advance(int) IllegalArgumentException,IllegalStateException",
        "int promise(int) IllegalArgumentException,IllegalStateException",
        "int setShare(int,int,int,int) NoSuchElementException,IllegalArgumentException",
        "int now() ", "int failedDisk() ",
        "int queueLength(int,int) NoSuchElementException",
        "long tag(int,int,int) NoSuchElementException,IllegalArgumentException",
        "int serving(int) NoSuchElementException", "int busyUntil(int) NoSuchElementException",
        "int position(int) NoSuchElementException", "int busyTime(int) NoSuchElementException",
        "int behind(int,int) NoSuchElementException",
        "int chosen(int,int) NoSuchElementException,IllegalArgumentException",
        "int requestCount() ", "int lostLines() ", "int traceLines() ",
        "int finishedAt(int) NoSuchElementException", "int pending(int) NoSuchElementException",
        "int finished(int) NoSuchElementException", "int totalLatency(int) NoSuchElementException",
        "int worstLatency(int) NoSuchElementException", "int late(int) NoSuchElementException",
        "int stripeState(int) NoSuchElementException", "boolean isHeld(int,int) NoSuchElementException",
        "int cachedUnits() ", "int rebuiltCount() ", "int completedAt() ", "int savedReads() ",
        "int piggybackedReads() ", "int stripeDeadline(int) NoSuchElementException",
        "int forecast() ", "int bound() ",
    };

    public static void main(String[] args) throws IOException {
        face();
        members();
        source(Files.readString(Path.of("src/main/java/RebuildScheduler.java")));
        Check.end();
    }

    private static String names(Class<?>[] types) {
        return Arrays.stream(types).map(Class::getSimpleName).collect(Collectors.joining(","));
    }

    private static void face() {
        Check.is("final", RebuildScheduler.class.getModifiers(), Modifier.PUBLIC | Modifier.FINAL);
        Set<String> got = new TreeSet<>();
        for (Method m : RebuildScheduler.class.getDeclaredMethods()) {
            if (Modifier.isPublic(m.getModifiers())) {
                got.add(m.getReturnType().getSimpleName() + " " + m.getName() + "(" + names(m.getParameterTypes()) + ") "
                        + names(m.getExceptionTypes()));
            }
        }
        Set<String> due = new TreeSet<>(Arrays.asList(FACE));
        if (!got.equals(due)) {
            Check.fail("the face is " + got + ", due is " + due);
        }
        Constructor<?>[] constructors = RebuildScheduler.class.getDeclaredConstructors();
        Check.is("constructors", constructors.length, 1);
        Check.is("parameters", constructors[0].getParameterCount(), 0);
        Check.is("public", Modifier.isPublic(constructors[0].getModifiers()), true);
    }

    private static void members() {
        Set<String> publicNames = new HashSet<>();
        for (Method m : RebuildScheduler.class.getDeclaredMethods()) {
            if (Modifier.isPublic(m.getModifiers())) {
                publicNames.add(m.getName());
            } else {
                hidden(m);
            }
        }
        for (Field f : RebuildScheduler.class.getDeclaredFields()) {
            hidden(f);
        }
        Class<?>[] inside = RebuildScheduler.class.getDeclaredClasses();
        Check.is("at most twelve classes", inside.length < 12, true);
        for (Class<?> c : inside) {
            Check.is(c + " is static", Modifier.isStatic(c.getModifiers()), true);
            for (Method m : c.getDeclaredMethods()) {
                Check.is(m + " has a name of the face", publicNames.contains(m.getName()), false);
                Check.is(m + " has at most seven parameters", m.getParameterCount() <= 7, true);
            }
            fields(c);
        }
        fields(RebuildScheduler.class);
    }

    private static void hidden(Member member) {
        Check.is(member + " is private", Modifier.isPrivate(member.getModifiers()), true);
    }

    private static void fields(Class<?> c) {
        int own = 0;
        for (Field f : c.getDeclaredFields()) {
            if (Modifier.isStatic(f.getModifiers())) {
                Check.is(f + " is final", Modifier.isFinal(f.getModifiers()), true);
            } else {
                own++;
            }
        }
        Check.is(c + " has at most twenty fields", own <= 20, true);
    }

    private static void source(String text) {
        String code = text.replaceAll("(?s)/\\*.*?\\*/", "").replaceAll("//[^\n]*", "").replaceAll("\"[^\"\n]*\"", "\"\"");
        for (String word : new String[] {"->", "::", "finally", "synchronized", "assert", "catch", "Exact", "package ",
            "System.out", "Random", "currentTimeMillis", "nanoTime", "protected", "getMessage", "double", "float"}) {
            Check.is("the source has " + word, code.contains(word), false);
        }
        for (String line : code.split("\n")) {
            boolean isFine = !line.startsWith("import ") || line.equals("import java.util.Arrays;")
                    || line.equals("import java.util.NoSuchElementException;");
            Check.is(line, isFine, true);
        }
    }
}

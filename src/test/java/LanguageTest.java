import java.io.IOException;
import java.lang.reflect.Constructor;
import java.lang.reflect.Field;
import java.lang.reflect.Method;
import java.lang.reflect.Modifier;
import java.nio.file.Files;
import java.nio.file.Path;
import java.util.HashSet;
import java.util.List;
import java.util.Set;
import java.util.TreeSet;
import java.util.regex.Matcher;
import java.util.regex.Pattern;
import java.util.stream.Collectors;
import java.util.stream.Stream;

/** The face of the class, and those rules of LANGUAGE.md that can be seen without much ado. */
public final class LanguageTest {
    private static final String[] FACE = {
        "int append(int,int,int,int,int)",
        "int parse(int) IllegalArgumentException",
        "int errorPosition()",
        "int size(int) IllegalArgumentException",
        "int setting(int) IllegalArgumentException",
        "int bank(int,int) IndexOutOfBoundsException IllegalArgumentException",
        "int row(int,int,int) IndexOutOfBoundsException IllegalArgumentException",
        "int request(int,int) IndexOutOfBoundsException IllegalArgumentException",
        "int waiting(int,int) IndexOutOfBoundsException",
        "int weakest()",
        "int next(int,int) IndexOutOfBoundsException IllegalArgumentException",
        "int nextLoss()",
        "int lossesAhead(int) IllegalArgumentException",
        "int leastSetting(int,int) IllegalArgumentException",
        "int waitOf(int) IndexOutOfBoundsException",
        "int gainOfTrading(int) IllegalArgumentException",
        "double meanWait()",
        "int greatestWait()",
        "boolean isWhole()",
        "int account(int) IllegalArgumentException",
        "int pass(int) IllegalArgumentException IllegalStateException",
        "int ask(int,int) IndexOutOfBoundsException IllegalStateException",
        "int trade(int,int) IndexOutOfBoundsException IllegalArgumentException IllegalStateException",
        "int set(int,int) IllegalArgumentException",
        "boolean setTrading(boolean)",
        "int undo()",
        "boolean saveSnapshot(int) IndexOutOfBoundsException",
        "int restoreSnapshot(int) IndexOutOfBoundsException IllegalStateException"};

    public static void main(String[] args) throws IOException {
        face();
        names();
        String source = Files.readString(Path.of(args[0]));
        words(source);
        methodsAreShort(source);
        callsMakeNoObjects();
        Check.end();
    }

    private static void face() {
        Set<String> found = new TreeSet<>();
        for (Method m : RefreshTrader.class.getDeclaredMethods()) {
            if (Modifier.isPublic(m.getModifiers())) {
                found.add(told(m));
            } else {
                Check.holds("private: " + m, Modifier.isPrivate(m.getModifiers()));
            }
        }
        Check.same("the public methods", found, new TreeSet<>(List.of(FACE)));
        for (Field f : RefreshTrader.class.getDeclaredFields()) {
            Check.same("private: " + f, Modifier.isPrivate(f.getModifiers()), !f.getName().equals("NONE"));
        }
        Constructor<?>[] constructors = RefreshTrader.class.getDeclaredConstructors();
        Check.same("constructors", constructors.length, 1);
        Check.same("parameters", constructors[0].getParameterCount(), 0);
        Check.holds("the constructor is public", Modifier.isPublic(constructors[0].getModifiers()));
        Check.holds("the class is final", Modifier.isFinal(RefreshTrader.class.getModifiers()));
    }

    private static String told(Method m) {
        String parameters = Stream.of(m.getParameterTypes()).map(Class::getSimpleName)
                .collect(Collectors.joining(","));
        String exceptions = Stream.of(m.getExceptionTypes()).map(c -> " " + c.getSimpleName())
                .collect(Collectors.joining());
        return m.getReturnType().getSimpleName() + " " + m.getName() + "(" + parameters + ")" + exceptions;
    }

    private static void names() {
        Set<String> taken = new HashSet<>();
        for (Method m : RefreshTrader.class.getDeclaredMethods()) {
            if (Modifier.isPublic(m.getModifiers())) {
                taken.add(m.getName());
            }
        }
        for (Method m : RefreshTrader.class.getDeclaredMethods()) {
            Check.holds("a name of its own: " + m, Modifier.isPublic(m.getModifiers()) || !taken.contains(m.getName()));
        }
        Class<?>[] inside = RefreshTrader.class.getDeclaredClasses();
        Check.holds("at most twelve classes", inside.length < 12);
        for (Class<?> c : inside) {
            Check.holds("static and private: " + c, Modifier.isStatic(c.getModifiers())
                    && Modifier.isPrivate(c.getModifiers()));
            for (Method m : c.getDeclaredMethods()) {
                Check.holds("a name of its own: " + m, !taken.contains(m.getName()));
                Check.holds("at most seven parameters: " + m, m.getParameterCount() <= 7);
            }
            long fields = Stream.of(c.getDeclaredFields()).filter(f -> !Modifier.isStatic(f.getModifiers())).count();
            Check.holds("at most twenty fields: " + c, fields <= 20);
        }
    }

    private static void words(String source) {
        Matcher imports = Pattern.compile("(?m)^import (.*);$").matcher(source);
        while (imports.find()) {
            Check.same("import", imports.group(1), "java.util.Arrays");
        }
        String[] none = {"->", "::", "catch", "finally", "synchronized", "assert", "System.out", "Exact(", "Object",
            "Random", "currentTime", "nanoTime", "Thread", "package ", "\t"};
        for (String word : none) {
            Check.same("there is no " + word, source.contains(word), false);
        }
        for (int i = 0; i < source.length(); i++) {
            Check.holds("sign " + i, source.charAt(i) < 128);
        }
    }

    private static void methodsAreShort(String source) {
        Matcher method = Pattern.compile("(?ms)^( {4}| {8})(?:public|private) [^;={]*\\([^;{]*\\{$(.*?)^\\1\\}$")
                .matcher(source);
        int methods = 0;
        while (method.find()) {
            methods++;
            Check.holds("a short method: " + method.group().lines().findFirst().get(),
                    method.group().lines().count() <= 60);
        }
        Check.holds("the methods are found", methods > 100);
    }

    /** All objects are made with the first one, so that a run of 512 calls needs no more room. */
    private static void callsMakeNoObjects() {
        com.sun.management.ThreadMXBean threads =
                (com.sun.management.ThreadMXBean) java.lang.management.ManagementFactory.getThreadMXBean();
        RefreshTrader x = Memory.of("memory 4 16 40 3; trading; hot 3; gain 2; ask 3 1 1; ask 3 1 2; ask 9 0 4;");
        long id = Thread.currentThread().getId();
        long before = threads.getThreadAllocatedBytes(id);
        for (int i = 0; i < 2000; i++) {
            callAll(x, i);
        }
        long made = threads.getThreadAllocatedBytes(id) - before;
        Check.holds("bytes made by 2000 times 20 calls: " + made, made < 100_000);
    }

    private static void callAll(RefreshTrader x, int i) {
        x.append(0x6d656d6f, 0x72792032, 0x20332034, 0x20353b73, 0x6c6f7473);
        x.parse(i % 10 == 0 ? 15 : 20);
        x.pass(3);
        x.ask(1, 1);
        x.set(2, 8);
        if (x.bank(0, 0) > -8 && x.bank(1, 0) < x.setting(1)) {
            x.trade(0, 1);
        }
        x.setTrading(true);
        x.saveSnapshot(i % 2);
        x.undo();
        x.restoreSnapshot(i % 2);
        x.next(0, 0);
        x.nextLoss();
        x.lossesAhead(9);
        x.leastSetting(6, 9);
        x.waitOf(0);
        x.gainOfTrading(9);
        x.weakest();
        x.waiting(0, 0);
        x.meanWait();
        x.size(7);
        x.undo();
        if (x.size(4) > 1900 || x.size(5) > 30) {
            Memory.parse(x, "memory 2 3 9 2;");
        }
    }
}

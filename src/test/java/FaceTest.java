import java.io.IOException;
import java.lang.reflect.Constructor;
import java.lang.reflect.Field;
import java.lang.reflect.Method;
import java.lang.reflect.Modifier;
import java.nio.file.Files;
import java.nio.file.Path;
import java.util.HashSet;
import java.util.Set;
import java.util.TreeSet;
import java.util.regex.Pattern;

/** The public face just as the document's code block gives it, and some rules of LANGUAGE.md. */
public final class FaceTest {
    private static final String[] CONSTANTS = {
        "BAD_INDEX=-1", "BAD_VALUE=-2", "NOT_POSSIBLE=-3", "FULL=-4", "REFUSED=-5", "NONE=-6", "DISC=0", "REEL=1",
        "CASSETTE=2", "FULL_TRACK=0", "HALF_TRACK=1", "QUARTER_TRACK=2", "PAIRED_TRACK=3", "LISTEN=0", "COPY=1",
        "BROADCAST=2"};
    private static final String[] METHODS = {
        "addCarrier/5", "addMachine/4", "addRecording/4", "addPart/5", "transfer/4", "permit/4", "revoke/1", "request/6",
        "setDue/2", "withdraw/1", "answer/1", "passDays/1", "append/1", "clearText/0", "faultPosition/0", "run/0",
        "undo/0", "save/1", "restore/1", "carrier/2", "machine/2", "recording/2", "part/3", "pass/2", "captured/2",
        "quality/2", "bestPass/1", "permission/2", "requested/2", "lacking/5", "fee/5", "income/1", "paid/1", "next/1",
        "total/1", "heard/5", "duration/2", "planned/2", "fewestPasses/2"};
    private static final Set<String> FACE = namesOf(METHODS);
    private static final String[] FORBIDDEN = {
        "\\bthrow\\b", "\\btry\\b", "\\bcatch\\b", "\\bsynchronized\\b", "\\bassert\\b", "->", "::", "\\bimport\\b",
        "\\bpackage\\b", "Exact\\(", "\\bSystem\\.(?!arraycopy)", "\\bInteger\\.[A-Z]", "\\bprotected\\b"};

    private static Set<String> namesOf(String[] methods) {
        Set<String> names = new HashSet<>();
        for (String method : methods) {
            names.add(method.substring(0, method.indexOf('/')));
        }
        return names;
    }

    private static void constants() throws IllegalAccessException {
        Set<String> found = new TreeSet<>();
        for (Field f : SoundArchive.class.getDeclaredFields()) {
            int m = f.getModifiers();
            if (Modifier.isPublic(m)) {
                Check.holds(f.getName() + " is static, final and an int",
                        Modifier.isStatic(m) && Modifier.isFinal(m) && f.getType() == int.class);
                found.add(f.getName() + "=" + f.getInt(null));
            } else {
                Check.holds(f.getName() + " is private", Modifier.isPrivate(m));
                Check.holds(f.getName() + " is no static state", !Modifier.isStatic(m) || Modifier.isFinal(m));
            }
        }
        Check.holds("the constants are " + found, found.equals(new TreeSet<>(Set.of(CONSTANTS))));
    }

    private static void methods() {
        Set<String> found = new TreeSet<>();
        for (Method m : SoundArchive.class.getDeclaredMethods()) {
            if (!Modifier.isPublic(m.getModifiers())) {
                Check.holds(m.getName() + " is private", Modifier.isPrivate(m.getModifiers()));
                Check.holds(m.getName() + " bears no public name", !FACE.contains(m.getName()));
                Check.holds(m.getName() + " takes few parameters", m.getParameterCount() <= 7);
                continue;
            }
            found.add(m.getName() + "/" + m.getParameterCount());
            Check.holds(m.getName() + " answers an int", m.getReturnType() == int.class);
            Check.holds(m.getName() + " is no static method", !Modifier.isStatic(m.getModifiers()));
            for (Class<?> parameter : m.getParameterTypes()) {
                Check.holds("a parameter of " + m.getName() + " is an int", parameter == int.class);
            }
        }
        Check.holds("the methods are " + found, found.equals(new TreeSet<>(Set.of(METHODS))));
    }

    private static void classes() {
        int m = SoundArchive.class.getModifiers();
        Check.holds("the class is public and final", Modifier.isPublic(m) && Modifier.isFinal(m));
        Constructor<?>[] all = SoundArchive.class.getDeclaredConstructors();
        Check.due("constructors", all.length, 1);
        Check.holds("it is public and takes nothing",
                Modifier.isPublic(all[0].getModifiers()) && all[0].getParameterCount() == 0);
        for (Class<?> inside : SoundArchive.class.getDeclaredClasses()) {
            Check.holds(inside.getName() + " is static", Modifier.isStatic(inside.getModifiers()));
            Check.holds(inside.getName() + " has few fields", inside.getDeclaredFields().length <= 20);
            for (Method own : inside.getDeclaredMethods()) {
                Check.holds(own.getName() + " bears no public name", !FACE.contains(own.getName()));
                Check.holds(own.getName() + " takes few parameters", own.getParameterCount() <= 7);
            }
        }
        Check.holds("at most 12 classes", SoundArchive.class.getDeclaredClasses().length <= 11);
    }

    private static void source(Path file) throws IOException {
        String source = Files.readString(file);
        String code = source.replaceAll("(?s)/\\*.*?\\*/", "").replaceAll("//[^\n]*", "");
        for (String word : FORBIDDEN) {
            Check.holds("no " + word, !Pattern.compile(word).matcher(code).find());
        }
        Check.holds("signs 1 to 127", source.chars().allMatch(c -> c >= 1 && c <= 127));
    }

    public static void main(String[] args) throws IllegalAccessException, IOException {
        constants();
        methods();
        classes();
        source(Path.of(args[0], "src", "main", "java", "SoundArchive.java"));
        Check.finish();
    }
}

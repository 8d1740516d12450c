import java.lang.reflect.Constructor;
import java.lang.reflect.Field;
import java.lang.reflect.Method;
import java.lang.reflect.Modifier;
import java.nio.file.Files;
import java.nio.file.Path;
import java.util.ArrayList;
import java.util.List;
import java.util.Set;
import java.util.TreeSet;
import java.util.regex.Matcher;
import java.util.regex.Pattern;

/** The public face, member by member, and what can be seen of LANGUAGE.md's rules in the class and its source. */
public final class FaceTest {
    private static final String FACE = """
        book(1)I count(1) cell(2)NI cup(2)NI ahead(2)NI down(3)NI duel(3)NI fault(0) feed(5) fits(2)NI flies(2)NI
        gain(2)NI house(2)NI image(0) law(1)I level(2)NI look(2)NI match(0) matched(1)N mean(4)NI odds(4)NI
        panic(2)I play(1)I presses(2)NI restore(0) richest(1)I room(1)I season(4)I span(5)I status(1) told(1)I
        trust(1)I undo(0) way(2)NI wink(2)NI would(9)I""";

    public static void main(String[] args) throws Exception {
        face();
        asTheDocumentSays();
        classes();
        source();
        Check.done();
    }

    private static void same(String what, Object got, Object want) {
        Check.checked++;
        if (!got.equals(want)) {
            Check.wrong++;
            System.out.println(what + ": " + got + ", due is " + want);
        }
    }

    private static void face() throws Exception {
        Set<String> got = new TreeSet<>();
        Set<String> hidden = new TreeSet<>();
        for (Method m : WinkBank.class.getDeclaredMethods()) {
            if (Modifier.isPublic(m.getModifiers())) {
                StringBuilder s = new StringBuilder(m.getName() + "(" + m.getParameterCount() + ")");
                for (Class<?> e : m.getExceptionTypes()) {
                    s.append(e.getSimpleName().charAt(0));
                }
                got.add(s.toString());
                same(m.getName() + " answers", m.getReturnType(), int.class);
                for (Class<?> p : m.getParameterTypes()) {
                    same(m.getName() + " takes", p, int.class);
                }
            } else {
                hidden.add(m.getName());
                same(m.getName() + " is private", Modifier.isPrivate(m.getModifiers()), true);
            }
        }
        same("face", got, new TreeSet<>(List.of(FACE.trim().split("\\s+"))));
        for (String s : got) {
            same("no private " + s, hidden.contains(s.substring(0, s.indexOf('('))), false);
        }
        List<String> fields = new ArrayList<>();
        for (Field f : WinkBank.class.getDeclaredFields()) {
            if (!Modifier.isPrivate(f.getModifiers())) {
                fields.add(Modifier.toString(f.getModifiers()) + " " + f.getType() + " " + f.getName());
            }
        }
        same("open fields", fields, List.of("public static final int NONE"));
        Constructor<?>[] made = WinkBank.class.getDeclaredConstructors();
        same("constructors", made.length, 1);
        same("open constructor", Modifier.isPublic(made[0].getModifiers()), true);
        same("its arguments", made[0].getParameterCount(), 0);
        same("class", Modifier.toString(WinkBank.class.getModifiers()), "public final");
    }

    private static String fileAt(String variable, String otherwise) throws Exception {
        String path = System.getenv(variable);
        return Files.readString(Path.of(path == null ? otherwise : path));
    }

    private static String sourceText() throws Exception {
        return fileAt("WINKBANK_SOURCE", "src/main/java/WinkBank.java");
    }

    /** Each line of the document's face stands in the source to the letter, but for its end and where lines break. */
    private static void asTheDocumentSays() throws Exception {
        String doc = fileAt("WINKBANK_DOC", "../shared/DOC.md");
        int from = doc.indexOf("```java", doc.indexOf("## The public face"));
        String[] lines = doc.substring(from, doc.indexOf("\n```", from)).split("\n");
        String source = sourceText().replaceAll("\\s+", " ");
        int members = 0;
        for (String line : lines) {
            String plain = line.trim().replaceAll("\\s+", " ");
            if (plain.startsWith("public ") && plain.endsWith(";")) {
                members++;
                String due = plain.contains("(") ? plain.replace(";", " {") : plain;
                same("stands in the source: " + plain, source.contains(due), true);
            }
        }
        same("the document's constant, constructor and methods", members, 38);
        same("open members of the source", source.split("public (?!final class)", -1).length - 1, members);
    }

    private static void classes() {
        Class<?>[] inside = WinkBank.class.getDeclaredClasses();
        same("some twelve classes", inside.length < 12, true);
        for (Class<?> c : inside) {
            same(c + " is static", Modifier.isStatic(c.getModifiers()), true);
            int fields = 0;
            for (Field f : c.getDeclaredFields()) {
                if (Modifier.isStatic(f.getModifiers())) {
                    same(f + " is final", Modifier.isFinal(f.getModifiers()), true);
                } else {
                    fields++;
                }
            }
            same(c + " has some twenty fields", fields <= 20, true);
            for (Method m : c.getDeclaredMethods()) {
                same(m + " parameters", m.getParameterCount() <= 7, true);
            }
        }
    }

    private static void source() throws Exception {
        String text = sourceText();
        String code = text.replaceAll("(?s)/\\*.*?\\*/", "").replaceAll("//[^\n]*", "");
        for (String banned : new String[] {"->", "::", "Exact", "\\btry\\b", "\\bcatch\\b", "\\bfinally\\b", "\\bassert\\b",
            "static \\{", "\\bsynchronized\\b", "\\bequals\\b", "\\bhashCode\\b", "\\btoString\\b", "System\\.(?!arraycopy)",
            "\\bRandom\\b", "\\bThread\\b", "\\bpackage\\b", "\\bprotected\\b", "\\bdouble\\b", "\\bfloat\\b", "\" \\+", "\\+ \""}) {
            Matcher m = Pattern.compile(banned).matcher(code);
            same("no " + banned, m.find(), false);
        }
        same("one import", code.split("\\bimport\\b", -1).length - 1, 1);
        for (int i = 0; i < text.length(); i++) {
            if (text.charAt(i) > 126) {
                same("signs", i, -1);
            }
        }
        int from = 0;
        String[] lines = text.split("\n");
        for (int i = 0; i < lines.length; i++) {
            if (lines[i].matches("    (    )?\\S.*\\) ?(throws .*)?\\{")) {
                from = i;
            }
            if (lines[i].matches("    (    )?\\}")) {
                same("short method at line " + from, i - from <= 60 || lines[i].matches("    \\}"), true);
            }
        }
    }
}

import java.lang.management.ManagementFactory;
import java.lang.reflect.Field;
import java.lang.reflect.Method;
import java.lang.reflect.Modifier;
import java.nio.charset.StandardCharsets;
import java.nio.file.Files;
import java.nio.file.Path;
import java.util.ArrayList;
import java.util.List;
import java.util.TreeSet;
import java.util.regex.Matcher;
import java.util.regex.Pattern;

/** What of LANGUAGE.md can be seen from the text and from the loaded class. */
public final class LanguageTests {
    private static final Path SOURCE = Path.of("src/main/java/DimpleWells.java");
    private static final String FACE = "ahead(int,int):int alike(int):int best():int book(int):int comedians(int,int,int,int):int "
        + "comfort():int count(int):int driest(int):int dry():int enough(int):int fault():int feed(int,int,int,int,int):int "
        + "fits(int,int):int given(int):int image():int joke(int,int):int land(int):int lasts(int,int):int laugh(int,int):int "
        + "law(int):int likes(int,int):int look(int,int):int parts():int person(int,int):int restore():int "
        + "share(int,int,int):int solemn(int):int some(int,int,int,int):long span(int,int,int,int,int,int):int "
        + "status(int):int street(int,int):int told(int):int undo():int water(int,int):int way(int,int):int "
        + "well(int,int):int work(int):int worn(int,int):int "
        + "would(int,int,int,int,int,int,int,int,int,int):int year(int,int,int,int):int ";
    private static int wrong = 0;

    private static void check(String what, boolean good) {
        if (!good) {
            wrong++;
            System.out.println("not so: " + what);
        }
    }

    private static boolean isOwn(int modifiers) {
        return Modifier.isPrivate(modifiers);
    }

    private static void theFace() {
        TreeSet<String> face = new TreeSet<>();
        TreeSet<String> names = new TreeSet<>();
        for (Method m : DimpleWells.class.getDeclaredMethods()) {
            if (!isOwn(m.getModifiers())) {
                List<String> types = new ArrayList<>();
                for (Class<?> type : m.getParameterTypes()) {
                    types.add(type.getName());
                }
                face.add(m.getName() + "(" + String.join(",", types) + "):" + m.getReturnType());
                names.add(m.getName());
                check("public: " + m, Modifier.isPublic(m.getModifiers()) && !Modifier.isStatic(m.getModifiers()));
            }
        }
        check("the face is the document's: " + face, (String.join(" ", face) + " ").equals(FACE));
        check("forty methods", names.size() == 40);
        check("a final class", Modifier.isFinal(DimpleWells.class.getModifiers()));
        for (Field f : DimpleWells.class.getDeclaredFields()) {
            check("private: " + f, isOwn(f.getModifiers()) || f.getName().equals("NONE"));
        }
        for (Class<?> c : all()) {
            for (Method m : c.getDeclaredMethods()) {
                check("rule 1, name of a private method: " + m, !isOwn(m.getModifiers()) || !names.contains(m.getName()));
            }
        }
    }

    private static List<Class<?>> all() {
        List<Class<?>> all = new ArrayList<>(List.of(DimpleWells.class.getDeclaredClasses()));
        all.add(DimpleWells.class);
        return all;
    }

    private static void theClasses() {
        check("rule 11, twelve classes", all().size() <= 12);
        for (Class<?> c : all()) {
            int fields = 0;
            for (Field f : c.getDeclaredFields()) {
                fields += Modifier.isStatic(f.getModifiers()) ? 0 : 1;
                check("rule 5: " + f, !Modifier.isStatic(f.getModifiers()) || Modifier.isFinal(f.getModifiers()));
            }
            check("rule 11, fields of " + c, fields <= 20);
            check("rule 2: " + c, c == DimpleWells.class || Modifier.isStatic(c.getModifiers()));
            for (Method m : c.getDeclaredMethods()) {
                check("rule 11, parameters of " + m, m.getParameterCount() <= 7 || m.getName().equals("would"));
            }
        }
    }

    private static void theText() throws java.io.IOException {
        String text = new String(Files.readAllBytes(SOURCE), StandardCharsets.ISO_8859_1);
        for (int i = 0; i < text.length(); i++) {
            check("rule 4, sign at " + i, text.charAt(i) < 128);
        }
        String code = text.replaceAll("(?s)/\\*.*?\\*/", "").replaceAll("//[^\n]*", "").replaceAll("\"[^\"\n]*\"", "\"\"");
        String[] never = {"\\btry\\b", "\\bcatch\\b", "\\bfinally\\b", "->", "::", "\\bsynchronized\\b", "\\bassert\\b",
            "static \\{", "\\binstanceof\\b", "\\bpackage\\b", "Exact\\b", "\\bvar\\b", "\\bdouble\\b", "\\bfloat\\b",
            "hashCode", "toString", "getMessage", "\\brecord\\b", "\\bObject\\b", "\\bprotected\\b"};
        for (String word : never) {
            check("none of " + word, !Pattern.compile(word).matcher(code).find());
        }
        Matcher imports = Pattern.compile("(?m)^import (.*);").matcher(code);
        while (imports.find()) {
            check("rule 4: " + imports.group(1), List.of("java.util.Arrays", "java.util.NoSuchElementException").contains(imports.group(1)));
        }
        Matcher library = Pattern.compile("\\b(Math|Integer|Arrays|System|Long|String)\\.(\\w+)").matcher(code);
        while (library.find()) {
            check("rule 4: " + library.group(), List.of("Math.min", "Math.max", "Math.abs", "Integer.bitCount", "Arrays.fill",
                "System.arraycopy").contains(library.group()));
        }
        Matcher thrown = Pattern.compile("\\bthrow\\b[^;]*").matcher(code);
        while (thrown.find()) {
            check("rule 6: " + thrown.group(),
                thrown.group().matches("throw new (NoSuchElementException|IllegalArgumentException)\\(\"\"\\)"));
        }
        String[] lines = code.split("\n");
        int from = 0;
        for (int i = 0; i < lines.length; i++) {
            if (lines[i].matches("    (    )?(public|private)[^=;]*\\{") && !lines[i].contains(" class ")) {
                from = i;
            }
            check("rule 11, a long method at line " + (from + 1),
                !lines[i].matches("    (    )?\\}") || i - from <= 60 || lines[from].contains(" class "));
            from = lines[i].matches("    (    )?\\}") ? i : from;
        }
    }

    private static void put(DimpleWells x, String text) {
        for (int i = 0; i < text.length(); i += 20) {
            int[] n = new int[5];
            for (int k = 0; k < 20; k++) {
                n[k / 4] = n[k / 4] << 8 | (i + k < text.length() ? text.charAt(i + k) : 0);
            }
            x.feed(n[0], n[1], n[2], n[3], n[4]);
        }
    }

    /** Rule 12: nothing is made by the dearest calls, so that no run fills its room. */
    private static void theRoom() {
        com.sun.management.ThreadMXBean threads = (com.sun.management.ThreadMXBean) ManagementFactory.getThreadMXBean();
        long id = Thread.currentThread().getId();
        DimpleWells x = new DimpleWells();
        String land = "person 3 9;".repeat(7) + "joke 9 20;".repeat(6) + "street 0 1;street 1 2;";
        put(x, land);
        check("land", x.land(land.length()) == 7);
        long before = 0;
        for (int i = 0; i < 100; i++) {
            if (i == 50) {
                before = threads.getThreadAllocatedBytes(id);
            }
            x.feed(0x6461793b, 0x6461793b, 0x6461793b, 0x6461793b, 0x6461793b);
            x.work(20);
            x.image();
            x.restore();
            x.undo();
            x.best();
            x.given(5);
            x.enough(900);
            x.look(6, 1);
            x.comfort();
            x.dry();
            x.some(12, 3, 5, 0);
            x.span(i, 20, 96, 8, 2, 6);
        }
        long made = threads.getThreadAllocatedBytes(id) - before;
        check("rule 12, bytes made by calls: " + made, made < 20000);
    }

    public static void main(String[] args) throws java.io.IOException {
        theFace();
        theClasses();
        theText();
        theRoom();
        System.out.println(wrong == 0 ? "all is as the rules say" : wrong + " things are not as the rules say");
        if (wrong != 0) {
            System.exit(1);
        }
    }
}

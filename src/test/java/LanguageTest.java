import java.io.IOException;
import java.lang.reflect.Constructor;
import java.lang.reflect.Field;
import java.lang.reflect.Method;
import java.lang.reflect.Modifier;
import java.nio.file.DirectoryStream;
import java.nio.file.Files;
import java.nio.file.Path;
import java.util.Set;
import java.util.TreeSet;
import java.util.regex.Matcher;
import java.util.regex.Pattern;

/** The face of the class, and what of ../shared/LANGUAGE.md can be seen from outside. */
public final class LanguageTest {
    private static final Due DUE = new Due("LanguageTest");
    private static final String FACE = "int master(int,int,int);int of(int,int);int set(int,int,int);"
        + "int away(int,boolean);int ring(int);int cross(int,int);int row(int,int,int);int feed(int);"
        + "int house();int told(int);int pass(int);int on(int,int);int bell(int,int);int shared(int);"
        + "int see(int,int,int);int from(int);int can(int,int);long odds(int,int);long mean(int,int);"
        + "int plan(int,int);int ends(int);int book(int,int);int looked();int judge(int,int);"
        + "int image();int undo();int act(int,int,int);int trace(int);int taken(int,int);"
        + "int count(int);int tape(int,int,int);int item(int,int,long);long read(int,int);"
        + "int shift(int,int,int,int,int)";
    private static final String NEVER = "\\b(throw|throws|try|catch|finally|synchronized|assert|"
        + "import|package|record|volatile|transient|native|instanceof|goto|yield|var|"
        + "Object|Thread|Random|hashCode|equals|toString)\\b|->|::|\\w+Exact\\b";
    private static final String LIBRARY = "String|StringBuilder|Integer|Long|Math|System|Arrays";
    private static final String CALLS = "Integer\\.(compare|bitCount)|Long\\.MIN_VALUE|"
        + "Math\\.(min|max|abs)|System\\.arraycopy";
    /** As the document's last Terms say; each of its headings stands ahead of its calls. */
    private static final String ORDER = "---- masters, houses, bells;master;of;set;away;ring;cross;row;"
        + "feed;house;told;---- minutes;pass;on;bell;shared;---- seen, odds;see;from;can;odds;mean;"
        + "---- plans, books;plan;ends;book;looked;---- judging, the image, acts, tapes;judge;image;"
        + "undo;act;trace;taken;count;tape;item;read;shift";

    public static void main(String[] args) throws IOException {
        face();
        classes();
        nameless();
        String source = Files.readString(Path.of("src/main/java/BellsBelow.java"));
        text(source);
        order(source);
        methods(code(source));
        DUE.ends();
    }

    private static void face() {
        Set<String> want = new TreeSet<>(Set.of(FACE.split(";")));
        Set<String> got = new TreeSet<>();
        Set<String> names = new TreeSet<>();
        for (Method m : BellsBelow.class.getDeclaredMethods()) {
            if (Modifier.isPrivate(m.getModifiers())) {
                continue;
            }
            DUE.is(m + " is plainly public", m.getModifiers(), Modifier.PUBLIC);
            got.add(told(m));
            names.add(m.getName());
        }
        DUE.isSo("the face is " + got, got.equals(want));
        privateNames(BellsBelow.class, names);
        for (Class<?> c : BellsBelow.class.getDeclaredClasses()) {
            privateNames(c, names);
        }
        DUE.is("class", BellsBelow.class.getModifiers(), Modifier.PUBLIC | Modifier.FINAL);
        Constructor<?>[] made = BellsBelow.class.getDeclaredConstructors();
        DUE.is("constructors", made.length, 1);
        DUE.is("constructor", made[0].getModifiers(), Modifier.PUBLIC);
        DUE.is("its arguments", made[0].getParameterCount(), 0);
    }

    private static String told(Method m) {
        StringBuilder all = new StringBuilder(m.getReturnType().getName());
        all.append(' ').append(m.getName()).append('(');
        for (Class<?> c : m.getParameterTypes()) {
            all.append(all.charAt(all.length() - 1) == '(' ? "" : ",").append(c.getName());
        }
        return all.append(')').toString();
    }

    /** What the interface says ahead of its calls, and the calls, one behind the other. */
    private static void order(String source) {
        StringBuilder got = new StringBuilder();
        Pattern said = Pattern.compile("// (----.*)|public (?:int|long|boolean) (\\w+)\\(");
        Matcher m = said.matcher(source.substring(0, Math.max(0, source.indexOf("private static boolean"))));
        while (m.find()) {
            String what = m.group(1) == null ? m.group(2) : m.group(1);
            if (!what.equals("---- what the calls share")) {
                got.append(got.length() == 0 ? "" : ";").append(what);
            }
        }
        DUE.isSo("the interface is " + got, got.toString().equals(ORDER));
    }

    private static void privateNames(Class<?> c, Set<String> names) {
        for (Method m : c.getDeclaredMethods()) {
            boolean apart = c == BellsBelow.class && Modifier.isPublic(m.getModifiers());
            DUE.isSo(m + " bears no name of the face", apart || !names.contains(m.getName()));
            DUE.isSo(m + " takes seven at most", m.getParameterCount() <= 7);
        }
    }

    private static void classes() {
        Class<?>[] inside = BellsBelow.class.getDeclaredClasses();
        DUE.isSo("twelve classes at most", inside.length + 1 <= 12);
        fields(BellsBelow.class);
        Set<String> open = new TreeSet<>();
        for (Field f : BellsBelow.class.getDeclaredFields()) {
            if (!Modifier.isPrivate(f.getModifiers())) {
                open.add(Modifier.toString(f.getModifiers()) + " " + f.getType() + " " + f.getName());
            }
        }
        DUE.isSo("constants of the face are " + open, open.equals(Set.of("public static final int NONE",
            "public static final int BAD", "public static final int STATE", "public static final int FULL",
            "public static final long NO")));
        for (Class<?> c : inside) {
            DUE.isSo(c + " is static", Modifier.isStatic(c.getModifiers()));
            DUE.isSo(c + " is not open", !Modifier.isPublic(c.getModifiers()));
            DUE.is(c + " has none inside", c.getDeclaredClasses().length, 0);
            fields(c);
        }
    }

    /** Local and anonymous classes are compiled to BellsBelow$1.., and declared by none. */
    private static void nameless() throws IOException {
        Set<String> declared = new TreeSet<>(Set.of("BellsBelow.class"));
        for (Class<?> c : BellsBelow.class.getDeclaredClasses()) {
            declared.add(c.getName() + ".class");
        }
        Set<String> compiled = new TreeSet<>();
        Path here = Path.of(BellsBelow.class.getProtectionDomain().getCodeSource().getLocation().getPath());
        try (DirectoryStream<Path> all = Files.newDirectoryStream(here, "BellsBelow{.,$}*")) {
            for (Path file : all) {
                compiled.add(file.getFileName().toString());
            }
        }
        DUE.isSo("the classes are " + compiled, compiled.equals(declared));
    }

    private static void fields(Class<?> c) {
        int many = 0;
        for (Field f : c.getDeclaredFields()) {
            boolean constant = Modifier.isStatic(f.getModifiers());
            DUE.isSo(f + " is final", !constant || Modifier.isFinal(f.getModifiers()));
            many += constant ? 0 : 1;
        }
        DUE.isSo(c + " has " + many + " fields", many <= 20);
    }

    /** The source without comments and without what stands in texts. */
    private static String code(String source) {
        return source.replaceAll("(?s)/\\*.*?\\*/", " ").replaceAll("//[^\n]*", " ")
            .replaceAll("\"[^\"\n]*\"", "\"\"").replaceAll("'.'", "' '");
    }

    private static void text(String source) {
        for (int i = 0; i < source.length(); i++) {
            if (source.charAt(i) > 126 || source.charAt(i) < 32 && source.charAt(i) != '\n') {
                DUE.is("sign at " + i, source.charAt(i), ' ');
            }
        }
        String code = code(source);
        Matcher never = Pattern.compile(NEVER).matcher(code);
        while (never.find()) {
            DUE.isSo(never.group() + " stands in it", false);
        }
        DUE.isSo("no text is joined by +", !code.contains("\"\" +") && !code.contains("+ \"\""));
        Matcher calls = Pattern.compile("\\b(?:" + LIBRARY + ")\\.\\w+").matcher(code);
        while (calls.find()) {
            DUE.isSo("the library's " + calls.group(), calls.group().matches(CALLS));
        }
        DUE.isSo("no object is made in a static field",
            !Pattern.compile("static final [^;={]*= new").matcher(code).find());
    }

    /** By braces: a method opens on the first or second level and is not a class. */
    private static void methods(String code) {
        int level = 0;
        int began = 0;
        int line = 1;
        String head = "";
        for (String text : code.split("\n")) {
            boolean opens = level >= 1 && level <= 2 && text.matches(" +[\\w<>\\[\\] ]+\\(.*\\) \\{.*");
            if (opens && !text.contains(" class ")) {
                head = text.trim();
                began = line;
            }
            for (char c : text.toCharArray()) {
                level += c == '{' ? 1 : c == '}' ? -1 : 0;
            }
            if (!head.isEmpty() && level <= 2 && text.matches(" +\\}")) {
                DUE.isSo(head + " has " + (line - began + 1) + " lines", line - began + 1 <= 60);
                head = "";
            }
            line++;
        }
    }
}

import com.sun.management.ThreadMXBean;
import java.lang.management.ManagementFactory;
import java.lang.reflect.Field;
import java.lang.reflect.Method;
import java.lang.reflect.Modifier;
import java.nio.file.Files;
import java.nio.file.Path;
import java.util.ArrayList;
import java.util.HashSet;
import java.util.List;
import java.util.Set;
import java.util.TreeSet;
import java.util.regex.Matcher;
import java.util.regex.Pattern;

/** The rules of LANGUAGE.md that can be looked up: the face, the words of the source, sizes, room. */
public final class RulesTest {
    private static final String SOURCE = "src/main/java/DeckChairs.java";
    private static final String FACE = "int feed(int,int,int,int,int) int end(int) int beach() int fault(int) "
            + "int chair(int,int) int sitter(int,int) int had(int,int) int hour() int sit(int,int) int rise(int) "
            + "int change(int,int) int move(int,int) int fill(int,int) boolean undo() boolean redo() int will(int,int) "
            + "int standing(int) int out(int) int seat() int toll(int) int opening(int) int trade(int) int ring() "
            + "int envy(int) int row(int,int) int rivals(int,int) int best(int,int) int noon(int,int) int lonely() "
            + "int gap() int broke() int throne() int couples() int veteran() int richest() int takings() int law(int) "
            + "int worst(int) int odds(int,int) int lies(int) int seen(int,int,boolean) boolean untell(int) "
            + "int later(int) int fits(int) int sure(int,int) int ask(int,int) int image(int) int back(int) int about(int)";

    private RulesTest() {
    }

    public static void main(String[] args) throws Exception {
        face();
        classesInside();
        source();
        room();
        Check.end("RulesTest");
    }

    private static String told(Method m) {
        StringBuilder text = new StringBuilder(m.getReturnType().getSimpleName() + " " + m.getName() + "(");
        for (int i = 0; i < m.getParameterCount(); i++) {
            text.append(i == 0 ? "" : ",").append(m.getParameterTypes()[i].getSimpleName());
        }
        return text.append(")").toString();
    }

    private static void face() {
        Set<String> want = new TreeSet<>();
        Matcher m = Pattern.compile("\\w+ \\w+\\([a-z,]*\\)").matcher(FACE);
        while (m.find()) {
            want.add(m.group());
        }
        Check.due("methods of the face", want.size(), 49);
        Set<String> got = new TreeSet<>();
        for (Method method : DeckChairs.class.getDeclaredMethods()) {
            if (!Modifier.isPrivate(method.getModifiers())) {
                got.add(told(method));
            }
        }
        Check.due("the face is " + got, got.equals(want), true);
        for (Field f : DeckChairs.class.getDeclaredFields()) {
            Check.due(f + " is private", Modifier.isPrivate(f.getModifiers()) || f.getName().equals("NONE"), true);
        }
        Check.due("public and final", DeckChairs.class.getModifiers(), Modifier.PUBLIC | Modifier.FINAL);
    }

    private static void classesInside() {
        Set<String> names = new HashSet<>();
        for (Method m : DeckChairs.class.getMethods()) {
            names.add(m.getName());
        }
        List<Class<?>> all = new ArrayList<>(List.of(DeckChairs.class.getDeclaredClasses()));
        Check.due(all.size() + " classes inside are few", all.size() <= 11, true);
        for (Class<?> c : all) {
            Check.due(c + " is static", Modifier.isStatic(c.getModifiers()), true);
            Check.due(c + " is not public", Modifier.isPublic(c.getModifiers()), false);
            for (Method m : c.getDeclaredMethods()) {
                Check.due(m + " has a name of its own", names.contains(m.getName()), false);
                Check.due(m + " takes few", m.getParameterCount() <= 7, true);
            }
        }
        all.add(DeckChairs.class);
        for (Class<?> c : all) {
            int fields = 0;
            for (Field f : c.getDeclaredFields()) {
                boolean isStatic = Modifier.isStatic(f.getModifiers());
                Check.due(f + " is final if static", !isStatic || Modifier.isFinal(f.getModifiers()), true);
                fields += isStatic ? 0 : 1;
            }
            Check.due(c + " has few fields", fields <= 20, true);
        }
    }

    private static void source() throws Exception {
        String text = Files.readString(Path.of(SOURCE));
        String code = text.replaceAll("(?s)/\\*.*?\\*/", "").replaceAll("//[^\n]*", "");
        for (String word : new String[] {"throw", "throws", "try", "catch", "synchronized", "assert", "import", "package",
            "Object", "equals", "hashCode", "toString", "Thread", "Random", "System\\.(?!arraycopy)\\w+", "\\w+Exact",
            "double", "float", "protected"}) {
            Matcher m = Pattern.compile("\\b" + word + "\\b").matcher(code);
            Check.due("the source says " + word, m.find(), false);
        }
        Check.due("the source has ->", code.contains("->"), false);
        Check.due("the source has ::", code.contains("::"), false);
        Check.due("a while without a counter", Pattern.compile("\\bwhile\\b").matcher(code).find(), false);
        int start = 0;
        int line = 0;
        String name = "";
        for (String s : text.split("\n")) {
            line++;
            if (s.matches(" {4,8}[a-zA-Z].*\\) \\{")) {
                start = line;
                name = s.trim();
            }
            if (s.equals("    }") || s.equals("        }")) {
                Check.due(name + " is short", start == 0 || line - start <= 60, true);
                start = 0;
            }
            Check.due("line " + line + " is in plain signs", s.matches("[ -~]*"), true);
        }
    }

    /** What a call allots, in bytes: nothing, but for what is made in the constructor. */
    private static void room() {
        ThreadMXBean threads = (ThreadMXBean) ManagementFactory.getThreadMXBean();
        long me = Thread.currentThread().getId();
        String text = "chair a stripes 0;chair b stripes 1;chair c stripes 2;sitter s purse 9 likes 1;"
                + "sitter t purse 99 likes 2;sitter u purse 50 likes 3;had likes * 2 + alone - stripes;gust 20;draw 3;";
        DeckChairs x = Check.told(text);
        useAll(x);
        Check.feed(x, text);
        long before = threads.getThreadAllocatedBytes(me);
        useAll(x);
        long made = threads.getThreadAllocatedBytes(me) - before;
        Check.due(made + " bytes made by calls are next to none", made < 2000, true);
        before = threads.getThreadAllocatedBytes(me);
        DeckChairs y = new DeckChairs();
        made = threads.getThreadAllocatedBytes(me) - before;
        Check.due(made + " bytes made by a constructor are few", y.about(0) == 0 && made < 100_000, true);
    }

    private static void useAll(DeckChairs x) {
        x.beach();
        x.sit(0, 0);
        x.sit(1, 2);
        x.image(0);
        for (int i = 0; i < 50; i++) {
            x.hour();
        }
        x.back(0);
        x.change(0, 1);
        x.undo();
        x.redo();
        x.move(1, 2);
        x.fill(2, 3);
        x.will(0, 60);
        x.standing(60);
        x.out(1);
        x.seat();
        x.toll(1);
        x.opening(1);
        x.trade(2);
        x.ring();
        x.envy(0);
        x.rise(0);
        x.rivals(0, 2);
        x.best(0, 1);
        x.noon(0, 1);
        x.law(3);
        x.worst(0);
        x.odds(4, 1);
        x.seen(0, 3, true);
        x.later(1);
        x.untell(0);
        x.fits(3);
        x.sure(1, 3);
        x.ask(0, 3);
    }
}

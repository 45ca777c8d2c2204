import java.lang.reflect.Constructor;
import java.lang.reflect.Field;
import java.lang.reflect.Method;
import java.lang.reflect.Modifier;
import java.nio.file.Files;
import java.nio.file.Path;
import java.util.ArrayList;
import java.util.List;
import java.util.TreeSet;

/** The public face, and those rules of LANGUAGE.md that can be seen from outside. */
public final class FaceTest {
    private static final String[] FACE = {
        "int sign(int)", "boolean end(int)", "int prisoners()", "int values()", "int witnesses()", "int law()",
        "int rule()", "int prisoner(int,int)", "int witness(int,int)", "int ends(int)",
        "int sheet(int,int,int,int)", "int lay(int,int)", "int ask(int)", "int judge(int)", "int nights(int)",
        "int assize()", "int undo()", "int left(int,int)", "int dies(int)", "int speaks(int,int)",
        "int least(int,int)", "int mercy(int,int)", "int longest(int)", "int alike(int,int)",
        "int stones(int)", "int silent(int)", "int proof(int,int)", "int till(int)", "int gains(int,int)",
        "int lacks(int,int)", "int best(int)", "int trials()", "int docket()", "int parts()",
        "int hopes(int)", "int reading()", "int wants(int)", "int dumb(int,int,int)", "int sure(int,int,int)",
        "int house(int,int)", "int search(int,int)", "int rests(int,int)", "int years(int,int)",
        "boolean keep(int)", "boolean again(int)", "int count(int)", "long row(int)",
    };

    public static void main(String[] args) throws Exception {
        members();
        classesInside();
        source();
        Check.finish();
    }

    private static String face(Method method) {
        StringBuilder text = new StringBuilder(method.getReturnType().getName());
        text.append(' ').append(method.getName()).append('(');
        String comma = "";
        for (Class<?> type : method.getParameterTypes()) {
            text.append(comma).append(type.getName());
            comma = ",";
        }
        return text.append(')').toString();
    }

    private static void members() {
        Class<?> type = HeWillNotPlead.class;
        TreeSet<String> open = new TreeSet<>();
        TreeSet<String> names = new TreeSet<>();
        for (Method method : type.getDeclaredMethods()) {
            if (Modifier.isPrivate(method.getModifiers())) {
                continue;
            }
            open.add(face(method));
            names.add(method.getName());
            Check.due(method + " is public", Modifier.isPublic(method.getModifiers()), true);
        }
        Check.same("the face", open.toString(), new TreeSet<>(List.of(FACE)).toString());
        for (Class<?> any : all()) {
            for (Method method : any.getDeclaredMethods()) {
                boolean isHidden = any != type || Modifier.isPrivate(method.getModifiers());
                Check.due(method + " bears a public one's name", isHidden && names.contains(method.getName()), false);
            }
        }
        Check.due("final", Modifier.isFinal(type.getModifiers()), true);
        for (Field field : type.getDeclaredFields()) {
            boolean isFace = field.getName().equals("NONE");
            Check.due(field + " is private", Modifier.isPrivate(field.getModifiers()), !isFace);
        }
        Constructor<?>[] makers = type.getDeclaredConstructors();
        Check.due("one constructor", makers.length, 1);
        Check.due("public", Modifier.isPublic(makers[0].getModifiers()), true);
    }

    private static List<Class<?>> all() {
        List<Class<?>> all = new ArrayList<>(List.of(HeWillNotPlead.class.getDeclaredClasses()));
        all.add(HeWillNotPlead.class);
        return all;
    }

    private static void classesInside() {
        Check.due("at most twelve classes", all().size() <= 12, true);
        for (Class<?> any : all()) {
            int fields = 0;
            for (Field field : any.getDeclaredFields()) {
                boolean isStatic = Modifier.isStatic(field.getModifiers());
                fields += isStatic ? 0 : 1;
                Check.due(field + " is final, if static", !isStatic || Modifier.isFinal(field.getModifiers()), true);
            }
            Check.due(any + " has at most twenty fields", fields <= 20, true);
            for (Method method : any.getDeclaredMethods()) {
                Check.due(method + " takes at most seven", method.getParameterCount() <= 7, true);
            }
        }
    }

    private static void source() throws Exception {
        List<String> lines = Files.readAllLines(Path.of("src/main/java/HeWillNotPlead.java"));
        String[] never = {
            "catch", "finally", "synchronized", "assert ", "->", "::", "package ", "@", "Exact(", "System.out",
            "static {", "instanceof", "Object", "double", "float",
        };
        int start = 0;
        for (int k = 0; k < lines.size(); k++) {
            String line = lines.get(k);
            for (String word : never) {
                Check.due("line " + (k + 1) + " has " + word, line.contains(word), false);
            }
            Check.due("line " + (k + 1) + " is long", line.length() > 110, false);
            boolean isHead = line.matches(" {4,8}[a-z].*\\) (throws \\w+ )?\\{");
            start = isHead ? k : start;
            if (line.matches(" {4,8}\\}")) {
                Check.due("line " + (k + 1) + " ends a long method", k - start > 60, false);
            }
        }
    }
}

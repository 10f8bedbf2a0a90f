import java.lang.reflect.Constructor;
import java.lang.reflect.Field;
import java.lang.reflect.Method;
import java.lang.reflect.Modifier;
import java.nio.file.Files;
import java.nio.file.Path;
import java.util.Arrays;
import java.util.Set;
import java.util.TreeSet;

/** The public face as the document tells it, and those rules of LANGUAGE.md that can be seen easily. */
public final class FaceTest {
    private static final String FACE = "feed(int,int,int,int,int):int end(int):int syllabus(int):int"
        + " fault(int):int grade(int,int,int):int entry(int,int,int,int,int,int):int piece(int,long):int"
        + " judge(int):int centre():int way(int,int,int):boolean examiner(int,int):int"
        + " session(int,int):int put(int,int):boolean of(int,int):int may(int,int):int tour():int"
        + " toured(int):int stuck():int later(int):int mark(int,int,int,int):int appeal(int,int,int):int"
        + " untell(int):boolean known(int,int,int):int main(int,int):int result(int,int):int"
        + " hardness(int):int certify(int):int certificate(int,int):int holds(int,int):int about(int):int";

    public static void main(String[] args) throws Exception {
        face();
        insides();
        words();
        Due.close();
    }

    private static void face() {
        Class<?> type = ExamTour.class;
        Due.is("public and final", type.getModifiers(), Modifier.PUBLIC | Modifier.FINAL);
        Constructor<?>[] made = type.getDeclaredConstructors();
        Due.is("one constructor", made.length, 1);
        Due.is("it is public", Modifier.isPublic(made[0].getModifiers()), true);
        Due.is("and takes nothing", made[0].getParameterCount(), 0);
        Set<String> wanted = new TreeSet<>(Arrays.asList(FACE.split(" ")));
        Set<String> names = new TreeSet<>();
        for (Method m : type.getDeclaredMethods()) {
            if (!Modifier.isPrivate(m.getModifiers())) {
                String told = m.getName() + Arrays.toString(m.getParameterTypes()).replace(" ", "")
                    .replace('[', '(').replace(']', ')') + ":" + m.getReturnType();
                Due.is(told + " is in the face", wanted.remove(told), true);
                Due.is(told + " is public alone", m.getModifiers(), Modifier.PUBLIC);
                names.add(m.getName());
            }
        }
        Due.is("methods that are not there: " + wanted, wanted.size(), 0);
        for (Method m : type.getDeclaredMethods()) {
            boolean hides = Modifier.isPrivate(m.getModifiers()) && names.contains(m.getName());
            Due.is(m.getName() + " is no private one of a public name", hides, false);
        }
        for (Field f : type.getDeclaredFields()) {
            boolean isPrivate = Modifier.isPrivate(f.getModifiers());
            Due.is(f.getName() + " is private, or NONE", isPrivate || f.getName().equals("NONE"), true);
        }
        Due.is("NONE", ExamTour.NONE, -1);
    }

    private static void insides() {
        Class<?>[] inside = ExamTour.class.getDeclaredClasses();
        Due.is("twelve classes at most", inside.length <= 12, true);
        for (Class<?> type : inside) {
            Due.is(type + " is static", Modifier.isStatic(type.getModifiers()), true);
            Due.is(type + " is not open", type.getModifiers() & (Modifier.PUBLIC | Modifier.PROTECTED), 0);
            fields(type);
        }
        fields(ExamTour.class);
    }

    private static void fields(Class<?> type) {
        int own = 0;
        for (Field f : type.getDeclaredFields()) {
            boolean isStatic = Modifier.isStatic(f.getModifiers());
            Due.is(f + " is final if static", !isStatic || Modifier.isFinal(f.getModifiers()), true);
            own += isStatic ? 0 : 1;
        }
        Due.is(type + " has twenty fields at most", own <= 20, true);
    }

    private static void words() throws Exception {
        String code = Files.readString(Path.of("src/main/java/ExamTour.java"))
            .replaceAll("(?s)/\\*.*?\\*/", "").replaceAll("//[^\n]*", "");
        for (String word : ("throw throws try catch synchronized assert import package float double"
            + " native volatile yield System Thread Object record").split(" ")) {
            Due.is("'" + word + "' does not stand in the code", code.matches("(?s).*\\b" + word + "\\b.*"), false);
        }
        Due.is("no lambda", code.contains("->"), false);
        Due.is("no method reference", code.contains("::"), false);
        Due.is("no static block", code.matches("(?s).*static\\s*\\{.*"), false);
    }
}

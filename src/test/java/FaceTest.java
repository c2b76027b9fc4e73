import java.lang.reflect.Constructor;
import java.lang.reflect.Field;
import java.lang.reflect.Method;
import java.lang.reflect.Modifier;
import java.util.Set;
import java.util.TreeSet;

/** The face is the document's, whole and nothing beside it; rules 1, 2, 5 and 11 of LANGUAGE.md. */
public final class FaceTest {
    private static final String[] FACE = {
        "int sign(int)", "boolean end(int)", "int book()", "int deeds()", "int fault(int)",
        "int tie(int,int,int,int)", "int play(int,int,int)", "int close(int,int)", "int undo()",
        "boolean keep(int)", "boolean again(int)", "int club(int,int)", "int cup(int,int)",
        "int tieOf(int,int)", "int game(int,int,int)", "int pool(int,int,int)", "int all(int)",
        "int balance(int)", "int fewest(int)", "int pays(int,int)", "long mark()", "int met(int)",
        "int chain(int,int)", "int in(int)", "int ranked(int)", "int bands()",
        "int brings(int,int,int)", "int least(int,int,int)", "int byCup(int,int,int)",
        "int fairest(int)", "int tempt(int,int,int)", "int ifGate(int,int,int)", "int count(int)"};

    public static void main(String[] args) {
        Set<String> told = new TreeSet<>(Set.of(FACE));
        Set<String> names = new TreeSet<>();
        for (Method m : CupPot.class.getDeclaredMethods()) {
            if (Modifier.isPublic(m.getModifiers())) {
                names.add(m.getName());
                Check.due(signature(m) + " is of the face", true, told.remove(signature(m)));
            } else {
                Check.due(m.getName() + " is private", true, Modifier.isPrivate(m.getModifiers()));
            }
        }
        Check.due("methods of the face that lack " + told, 0, told.size());
        Constructor<?>[] makers = CupPot.class.getDeclaredConstructors();
        Check.due("constructors", 1, makers.length);
        Check.due("public constructor", true, Modifier.isPublic(makers[0].getModifiers()));
        Check.due("final class", true, Modifier.isFinal(CupPot.class.getModifiers()));
        Check.due("NONE", -1, CupPot.NONE);
        lookAt(CupPot.class, names);
        Class<?>[] inside = CupPot.class.getDeclaredClasses();
        Check.due("some twelve classes", true, inside.length + 1 <= 12);
        for (Class<?> c : inside) {
            Check.due(c.getName() + " is static", true, Modifier.isStatic(c.getModifiers()));
            Check.due(c.getName() + " is not public", false, Modifier.isPublic(c.getModifiers()));
            lookAt(c, names);
        }
        Check.finish("FaceTest");
    }

    private static void lookAt(Class<?> c, Set<String> names) {
        for (Method m : c.getDeclaredMethods()) {
            Check.due(m + ": parameters", true, m.getParameterCount() <= 7);
            if (!Modifier.isPublic(m.getModifiers())) {
                Check.due(m + " bears a public name", false, names.contains(m.getName()));
            }
        }
        int own = 0;
        for (Field f : c.getDeclaredFields()) {
            boolean isStatic = Modifier.isStatic(f.getModifiers());
            own += isStatic ? 0 : 1;
            Check.due(f + ": static is final", true, !isStatic || Modifier.isFinal(f.getModifiers()));
            boolean ofFace = f.getName().equals("NONE") && c == CupPot.class;
            Check.due(f + ": private", !ofFace, Modifier.isPrivate(f.getModifiers()));
        }
        Check.due(c + ": fields", true, own <= 20);
    }

    private static String signature(Method m) {
        StringBuilder text = new StringBuilder(m.getReturnType() + " " + m.getName() + "(");
        for (Class<?> p : m.getParameterTypes()) {
            text.append(text.charAt(text.length() - 1) == '(' ? "" : ",").append(p);
        }
        return text + ")";
    }
}

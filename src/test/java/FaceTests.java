import java.lang.reflect.Constructor;
import java.lang.reflect.Field;
import java.lang.reflect.Member;
import java.lang.reflect.Method;
import java.lang.reflect.Modifier;
import java.util.ArrayList;
import java.util.Arrays;
import java.util.HashSet;
import java.util.List;
import java.util.NoSuchElementException;
import java.util.Set;
import java.util.TreeSet;

/** The document's face, and what LANGUAGE.md says of it and of the classes inside. */
public final class FaceTests {
    private static final Trial trial = new Trial();
    private static final String FACE = "about/2 cite/2 cited/2 count/1 days/1 digest/3 fact/2 fault/0 feed/5 lift/1 "
            + "mention/2 name/2 order/3 quarrel/3 quarrels/1 read/4 right/2 shown/2 sitting/1 stands/2 status/3 told/1";
    private static final String THROWS = " sitting:Argument right:Element,Argument days:Argument about:Element "
            + "fact:Element stands:Element quarrel:Element mention:Element name:Element order:Element lift:Element "
            + "status:Element read:Element,Argument told:Element cite:Element shown:Element count:Element ";

    public static void main(String[] args) {
        face();
        inside();
        trial.finish();
    }

    private static void face() {
        Set<String> methods = new TreeSet<>();
        List<Member> members = new ArrayList<>(Arrays.asList(TestimonyBook.class.getDeclaredMethods()));
        members.addAll(Arrays.asList(TestimonyBook.class.getDeclaredFields()));
        members.addAll(Arrays.asList(TestimonyBook.class.getDeclaredConstructors()));
        for (Member m : members) {
            boolean open = Modifier.isPublic(m.getModifiers());
            trial.due(m + " is public or private", open || Modifier.isPrivate(m.getModifiers()) ? 1 : 0, 1);
            if (open && m instanceof Method method) {
                methods.add(m.getName() + "/" + method.getParameterCount());
                trial.due(m + " is no static one", Modifier.isStatic(m.getModifiers()) ? 1 : 0, 0);
                trial.due(m + " throws", thrownBy(method), THROWS.contains(" " + m.getName() + ":")
                        ? THROWS.replaceAll(".* " + m.getName() + ":([A-Za-z,]+).*", "$1") : "");
                for (Class<?> parameter : method.getParameterTypes()) {
                    trial.due(m + " takes", parameter.getName(), "int");
                }
                trial.due(m + " answers", method.getReturnType().getName(),
                        m.getName().equals("lift") ? "boolean" : "int");
            } else if (open && m instanceof Field field) {
                trial.due("the constant", m.getName(), "NONE");
                trial.due("its kind", Modifier.toString(m.getModifiers()) + " " + field.getType(),
                        "public static final int");
            } else if (open && m instanceof Constructor<?> made) {
                trial.due("the constructor's parameters", made.getParameterCount(), 0);
            }
        }
        trial.due("the methods", String.join(" ", methods), FACE);
        trial.due("the class is final", Modifier.isFinal(TestimonyBook.class.getModifiers()) ? 1 : 0, 1);
    }

    /** What a method says that it throws, in short. */
    private static String thrownBy(Method method) {
        List<String> all = new ArrayList<>();
        for (Class<?> one : method.getExceptionTypes()) {
            all.add(one == NoSuchElementException.class ? "Element"
                    : one == IllegalArgumentException.class ? "Argument" : one.getName());
        }
        return String.join(",", all);
    }

    private static void inside() {
        Set<String> open = new HashSet<>();
        for (String method : FACE.split(" ")) {
            open.add(method.substring(0, method.indexOf('/')));
        }
        List<Class<?>> all = new ArrayList<>(Arrays.asList(TestimonyBook.class.getDeclaredClasses()));
        trial.due("at most twelve classes", all.size() + 1 <= 12 ? 1 : 0, 1);
        for (Class<?> one : all) {
            trial.due(one + " is static", Modifier.isStatic(one.getModifiers()) ? 1 : 0, 1);
            trial.due(one + " isn't public", Modifier.isPublic(one.getModifiers()) ? 1 : 0, 0);
            for (Method m : one.getDeclaredMethods()) {
                trial.due(m + " has a name of its own", open.contains(m.getName()) ? 1 : 0, 0);
                trial.due(m + " takes at most seven", m.getParameterCount() <= 7 ? 1 : 0, 1);
            }
        }
        all.add(TestimonyBook.class);
        for (Class<?> one : all) {
            int fields = 0;
            for (Field f : one.getDeclaredFields()) {
                fields += Modifier.isStatic(f.getModifiers()) ? 0 : 1;
                trial.due(f + " is no state of the class",
                        Modifier.isStatic(f.getModifiers()) && !Modifier.isFinal(f.getModifiers()) ? 1 : 0, 0);
            }
            trial.due(one + " has at most twenty fields", fields <= 20 ? 1 : 0, 1);
        }
    }
}

import java.lang.reflect.Constructor;
import java.lang.reflect.Field;
import java.lang.reflect.Member;
import java.lang.reflect.Method;
import java.lang.reflect.Modifier;
import java.util.ArrayList;
import java.util.Collections;
import java.util.List;

/** The public face, and what LANGUAGE.md says of members, classes and fields. */
public final class FaceTest {
    private static final String FACE = "attribute(int) box(int,int) checked(int) count(int) end(int) fault(int,int) "
            + "feed(int,int,int,int,int) found(int) history(int) key(int) kid(int,int) name(int) node(int,int) out(int) page() "
            + "point(int,int) press(int,int) resolve() screen(int) script() select() serialise(int) server() style(int,int) "
            + "tick(int) top(int,int) value(int) visit() word(int,int) write(int)";

    public static void main(String[] args) {
        Class<?> house = BrowserHouse.class;
        House.due("public and final", house.getModifiers(), Modifier.PUBLIC | Modifier.FINAL);
        List<String> names = new ArrayList<>();
        for (Method method : house.getDeclaredMethods()) {
            if (Modifier.isPrivate(method.getModifiers())) {
                House.due(method + " has a name of its own", FACE.contains(method.getName() + "(") ? 1 : 0, 0);
                continue;
            }
            House.due(method + " is public", method.getModifiers(), Modifier.PUBLIC);
            House.due(method + " answers an int", method.getReturnType().getName(), "int");
            StringBuilder types = new StringBuilder();
            for (Class<?> type : method.getParameterTypes()) {
                types.append(types.length() == 0 ? "" : ",").append(type.getName());
            }
            names.add(method.getName() + "(" + types + ")");
        }
        Collections.sort(names);
        House.due("methods", String.join(" ", names), FACE);
        House.due("constructors", house.getConstructors().length, 1);
        House.due("NONE", BrowserHouse.NONE, -1);
        for (Field field : house.getDeclaredFields()) {
            House.due(field.getName(), isPrivate(field) ? 1 : 0, field.getName().equals("NONE") ? 0 : 1);
        }
        inside(house);
        House.finish();
    }

    private static void inside(Class<?> house) {
        List<String> face = new ArrayList<>();
        for (Method method : house.getMethods()) {
            face.add(method.getName());
        }
        House.due("twelve classes at most", house.getDeclaredClasses().length < 12 ? 1 : 0, 1);
        for (Class<?> inner : house.getDeclaredClasses()) {
            House.due(inner + " is static", Modifier.isStatic(inner.getModifiers()) ? 1 : 0, 1);
            House.due(inner + " has no class inside", inner.getDeclaredClasses().length, 0);
            int fields = 0;
            for (Field field : inner.getDeclaredFields()) {
                boolean isStatic = Modifier.isStatic(field.getModifiers());
                fields += isStatic ? 0 : 1;
                House.due(field + " is final if static", isStatic && !Modifier.isFinal(field.getModifiers()) ? 1 : 0, 0);
            }
            House.due(inner + " has twenty fields at most", fields <= 20 ? 1 : fields, 1);
            for (Method method : inner.getDeclaredMethods()) {
                House.due(method + " has a name of its own", face.contains(method.getName()) ? 1 : 0, 0);
                House.due(method + " has seven parameters at most", method.getParameterCount() <= 7 ? 1 : 0, 1);
            }
            for (Constructor<?> made : inner.getDeclaredConstructors()) {
                House.due(made + " has seven parameters at most", made.getParameterCount() <= 7 ? 1 : 0, 1);
            }
        }
    }

    private static boolean isPrivate(Member member) {
        return Modifier.isPrivate(member.getModifiers());
    }
}

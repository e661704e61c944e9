import java.lang.reflect.Constructor;
import java.lang.reflect.Field;
import java.lang.reflect.Method;
import java.lang.reflect.Modifier;
import java.util.Set;
import java.util.TreeSet;

/** The document's face: all of it, and no other member that others could see. */
public final class FaceTest {
    private static final String FACE = "[bread():int, broken(int):int, city(int):int, count(int):int, drawer(int,int):int,"
        + " fault():int, feed(int,int,int,int,int):int, harm(int):int, image():void, married(int,int):int, may(int):boolean,"
        + " move(int):int, odds(int,int,int):int, opens(int):int, person(int,int):int, rent():int, restore():boolean,"
        + " row(int):int, shuts(int):int, sleeps(int,boolean):void, undo():int, who(int):int, wind(int,int):int]";

    public static void main(String[] args) {
        Set<String> methods = new TreeSet<>();
        for (Method m : DrawerWall.class.getDeclaredMethods()) {
            if (!Modifier.isPrivate(m.getModifiers())) {
                StringBuilder b = new StringBuilder();
                for (Class<?> c : m.getParameterTypes()) {
                    b.append(b.length() == 0 ? "" : ",").append(c.getName());
                }
                methods.add(m.getName() + "(" + b + "):" + m.getReturnType().getName());
                Checks.same(m + " is public", Modifier.isPublic(m.getModifiers()), true);
            }
        }
        Checks.same("the methods " + methods, methods.toString().equals(FACE), true);
        for (Field f : DrawerWall.class.getDeclaredFields()) {
            Checks.same(f + " is NONE or private", f.getName().equals("NONE") || Modifier.isPrivate(f.getModifiers()), true);
        }
        Constructor<?>[] made = DrawerWall.class.getDeclaredConstructors();
        Checks.same("one constructor", made.length, 1);
        Checks.same("without parameters", made[0].getParameterCount(), 0);
        Checks.same("NONE", DrawerWall.NONE, -1);
        Checks.same("a final class", Modifier.isFinal(DrawerWall.class.getModifiers()), true);
        Checks.end();
    }
}

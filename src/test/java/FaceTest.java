import java.lang.reflect.Constructor;
import java.lang.reflect.Field;
import java.lang.reflect.Method;
import java.lang.reflect.Modifier;
import java.util.Set;
import java.util.TreeSet;

/** The public face is the document's, and no other member can be seen from outside. */
public final class FaceTest {
    private static final String[] FACE = {
        "public TourHouse()",
        "public int TourHouse.reset(boolean,int) throws java.lang.IllegalArgumentException",
        "public int TourHouse.edge(int,int,int) throws java.lang.IllegalArgumentException,java.lang.IllegalStateException",
        "public int TourHouse.drop() throws java.lang.IllegalStateException",
        "public long TourHouse.distance(int,int) throws java.lang.IllegalArgumentException",
        "public int TourHouse.tour(int) throws java.lang.IllegalArgumentException",
        "public long TourHouse.round(int) throws java.lang.IllegalArgumentException",
        "public int TourHouse.extra(int) throws java.util.NoSuchElementException,java.lang.IllegalStateException",
        "public int TourHouse.row(int) throws java.util.NoSuchElementException",
        "public int TourHouse.step(int) throws java.lang.IllegalStateException",
        "public long TourHouse.judge(int) throws java.lang.IllegalArgumentException",
        "public int TourHouse.look(int) throws java.lang.IllegalArgumentException",
    };

    public static void main(String[] args) {
        Set<String> due = new TreeSet<>(Set.of(FACE));
        Set<String> seen = new TreeSet<>();
        for (Constructor<?> c : TourHouse.class.getDeclaredConstructors()) {
            seen.add(c.toString());
        }
        Set<String> publicNames = new TreeSet<>();
        for (Method m : TourHouse.class.getDeclaredMethods()) {
            if (!Modifier.isPrivate(m.getModifiers())) {
                seen.add(m.toString());
                publicNames.add(m.getName());
            }
        }
        for (Field f : TourHouse.class.getDeclaredFields()) {
            if (!Modifier.isPrivate(f.getModifiers())) {
                seen.add(f.toString());
            }
        }
        Checks.due("the face", seen, due);
        Checks.due("public and final", Modifier.toString(TourHouse.class.getModifiers()), "public final");
        for (Method m : TourHouse.class.getDeclaredMethods()) {
            boolean hidesPublic = Modifier.isPrivate(m.getModifiers()) && publicNames.contains(m.getName());
            Checks.due("private " + m.getName() + " bears a public name", hidesPublic, false);
        }
        Checks.finish();
    }
}

import java.lang.reflect.Constructor;
import java.lang.reflect.Field;
import java.lang.reflect.Method;
import java.lang.reflect.Modifier;
import java.util.Set;
import java.util.TreeSet;

/** The class has the document's face, and nothing else that is not private. */
final class FaceTest {
    private static final String INDEX = " throws java.lang.IndexOutOfBoundsException";
    private static final String ARGUMENT = " throws java.lang.IllegalArgumentException";

    public static void main(String[] args) {
        Check check = new Check();
        check.about("the face");
        check.due("modifiers", Modifier.toString(RegionShares.class.getModifiers()), "public final");
        check.due("NONE", RegionShares.NONE, -1);
        check.due("members", membersNotPrivate(), Set.of(
                "public static final int RegionShares.NONE",
                "public RegionShares(int)",
                "public boolean RegionShares.value(int,double)" + INDEX + ",java.lang.IllegalArgumentException",
                "public boolean RegionShares.touches(int,int)" + INDEX,
                "public int RegionShares.batches()",
                "public int RegionShares.batch(int)" + INDEX,
                "public int RegionShares.run(int,long)" + ARGUMENT,
                "public double RegionShares.joined()",
                "public double RegionShares.plain()",
                "public boolean RegionShares.failAt(int,int)" + INDEX,
                "public int RegionShares.times(int)" + INDEX,
                "public int RegionShares.act(int)" + ARGUMENT,
                "public long RegionShares.work()",
                "public boolean RegionShares.stop(int)" + INDEX,
                "public int RegionShares.broken()",
                "public int RegionShares.live()"));
        check.end();
    }

    private static Set<String> membersNotPrivate() {
        Set<String> found = new TreeSet<>();
        for (Field f : RegionShares.class.getDeclaredFields()) {
            if (!Modifier.isPrivate(f.getModifiers())) {
                found.add(f.toString());
            }
        }
        for (Constructor<?> c : RegionShares.class.getDeclaredConstructors()) {
            if (!Modifier.isPrivate(c.getModifiers())) {
                found.add(c.toString());
            }
        }
        for (Method m : RegionShares.class.getDeclaredMethods()) {
            if (!Modifier.isPrivate(m.getModifiers())) {
                found.add(m.toString());
            }
        }
        return found;
    }
}

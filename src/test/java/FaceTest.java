import java.lang.reflect.Constructor;
import java.lang.reflect.Field;
import java.lang.reflect.Method;
import java.lang.reflect.Modifier;
import java.util.Set;
import java.util.TreeSet;

/** The public face: all that the document names, and nothing besides. */
public final class FaceTest {
    private static final Set<String> DUE = Set.of(
            "public static final int SunVillage.NONE",
            "public SunVillage(int,int)",
            "public int SunVillage.house(int,int)",
            "public boolean SunVillage.read(int,int,int,int)",
            "public int SunVillage.days(int)",
            "public int SunVillage.feed(long,long,long)",
            "public int SunVillage.text(int)",
            "public int SunVillage.other()",
            "public boolean SunVillage.known(int)",
            "public int SunVillage.had(int,int,int) throws java.util.NoSuchElementException",
            "public int SunVillage.quarter(int,int) throws java.util.NoSuchElementException",
            "public int SunVillage.by(int,int,int)",
            "public int SunVillage.would(int,int)",
            "public int SunVillage.bills()",
            "public int SunVillage.bill(int,int) throws java.util.NoSuchElementException",
            "public int SunVillage.count(int)");

    public static void main(String[] args) {
        Set<String> seen = new TreeSet<>();
        for (Field f : SunVillage.class.getDeclaredFields()) {
            add(seen, f.getModifiers(), f.toString(), f.isSynthetic());
        }
        for (Constructor<?> c : SunVillage.class.getDeclaredConstructors()) {
            add(seen, c.getModifiers(), c.toString(), c.isSynthetic());
        }
        for (Method m : SunVillage.class.getDeclaredMethods()) {
            add(seen, m.getModifiers(), m.toString(), m.isSynthetic());
        }
        for (String due : DUE) {
            Check.due("there: " + due, seen.contains(due), true);
        }
        for (String member : seen) {
            Check.due("due: " + member, DUE.contains(member), true);
        }
        Check.due("the class is public and final", SunVillage.class.getModifiers(), Modifier.PUBLIC | Modifier.FINAL);
        Check.due("NONE", SunVillage.NONE, -1);
        Check.end("FaceTest");
    }

    private static void add(Set<String> seen, int modifiers, String member, boolean synthetic) {
        if (!Modifier.isPrivate(modifiers) && !synthetic) {
            seen.add(member);
        }
    }
}

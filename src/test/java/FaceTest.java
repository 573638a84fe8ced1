import java.lang.reflect.Constructor;
import java.lang.reflect.Field;
import java.lang.reflect.Method;
import java.lang.reflect.Modifier;
import java.util.Set;
import java.util.TreeSet;

/** The public face is the document's, to the letter, and everything else is private. */
public final class FaceTest {
    private static final Set<String> FACE = Set.of(
            "public static final int SharedDiskFs.BAD_NODE",
            "public static final int SharedDiskFs.BAD_BLOCK",
            "public static final int SharedDiskFs.DOWN",
            "public static final int SharedDiskFs.NOTHING",
            "public SharedDiskFs(int)",
            "public int SharedDiskFs.read(int,int)",
            "public int SharedDiskFs.write(int,int,int)",
            "public int SharedDiskFs.swap(int,int,int)",
            "public int SharedDiskFs.sync(int)",
            "public int SharedDiskFs.crash(int)",
            "public int SharedDiskFs.crashInSync(int,boolean)",
            "public int SharedDiskFs.restart(int)",
            "public int SharedDiskFs.powerCut()",
            "public int SharedDiskFs.content(int)",
            "public int SharedDiskFs.safe(int)",
            "public int SharedDiskFs.owner(int)",
            "public int SharedDiskFs.unsafe(int)",
            "public boolean SharedDiskFs.up(int)");

    public static void main(String[] args) {
        membersThatAreNotPrivate();
        constants();
        Due.finish();
    }

    private static void membersThatAreNotPrivate() {
        Set<String> members = new TreeSet<>();
        for (Field field : SharedDiskFs.class.getDeclaredFields()) {
            if (!Modifier.isPrivate(field.getModifiers())) {
                members.add(field.toString());
            }
        }
        for (Constructor<?> constructor : SharedDiskFs.class.getDeclaredConstructors()) {
            members.add(constructor.toString());
        }
        for (Method method : SharedDiskFs.class.getDeclaredMethods()) {
            if (!Modifier.isPrivate(method.getModifiers())) {
                members.add(method.toString());
            }
        }
        Due.is("the face", new TreeSet<>(FACE).toString(), members.toString());
        Due.is("the class", "public final", Modifier.toString(SharedDiskFs.class.getModifiers()));
        Due.is("nested classes", 0, SharedDiskFs.class.getDeclaredClasses().length);
    }

    private static void constants() {
        Due.is("BAD_NODE", -1, SharedDiskFs.BAD_NODE);
        Due.is("BAD_BLOCK", -2, SharedDiskFs.BAD_BLOCK);
        Due.is("DOWN", -3, SharedDiskFs.DOWN);
        Due.is("NOTHING", -4, SharedDiskFs.NOTHING);
    }
}

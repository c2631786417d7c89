import java.lang.reflect.Constructor;
import java.lang.reflect.Field;
import java.lang.reflect.Method;
import java.lang.reflect.Modifier;
import java.util.Set;
import java.util.TreeSet;

/** The class shows the document's face and nothing beside it (LANGUAGE.md, rule 1). */
public final class FaceTest {
    private static int wrong = 0;

    public static void main(String[] args) {
        String illegal = " throws java.lang.IllegalArgumentException";
        String noSuch = " throws java.util.NoSuchElementException";
        Set<String> due = new TreeSet<>(Set.of(
            "public ChunkShelf()",
            "public int ChunkShelf.space(int)" + illegal,
            "public int ChunkShelf.take(int)" + illegal,
            "public int ChunkShelf.give(int)" + noSuch,
            "public int ChunkShelf.join(int)" + noSuch,
            "public int ChunkShelf.joinAll()",
            "public int ChunkShelf.suffices(int)" + illegal,
            "public int ChunkShelf.piece(int)",
            "public int ChunkShelf.cover(int)",
            "public int ChunkShelf.free(int,int)" + illegal,
            "public int ChunkShelf.count(int)" + illegal,
            "public int ChunkShelf.faults()"));
        Set<String> shown = shown();
        check(shown.equals(due), "the face is " + shown);
        int modifiers = ChunkShelf.class.getModifiers();
        check(Modifier.isPublic(modifiers) && Modifier.isFinal(modifiers), "the class is not public and final");
        System.out.println(wrong == 0 ? "the face is as due" : "the face is not as due");
        if (wrong != 0) {
            System.exit(1);
        }
    }

    private static Set<String> shown() {
        Set<String> shown = new TreeSet<>();
        for (Constructor<?> constructor : ChunkShelf.class.getDeclaredConstructors()) {
            shown.add(constructor.toString());
        }
        Set<String> names = new TreeSet<>();
        for (Method method : ChunkShelf.class.getDeclaredMethods()) {
            if (!Modifier.isPrivate(method.getModifiers())) {
                shown.add(method.toString());
                names.add(method.getName());
            }
        }
        for (Field field : ChunkShelf.class.getDeclaredFields()) {
            if (!Modifier.isPrivate(field.getModifiers())) {
                shown.add(field.toString());
            }
        }
        refuseNamesTwice(ChunkShelf.class, names);
        for (Class<?> inside : ChunkShelf.class.getDeclaredClasses()) {
            check(Modifier.isStatic(inside.getModifiers()), inside + " is not static");
            refuseNamesTwice(inside, names);
        }
        return shown;
    }

    private static void refuseNamesTwice(Class<?> owner, Set<String> names) {
        for (Method method : owner.getDeclaredMethods()) {
            boolean isPrivate = Modifier.isPrivate(method.getModifiers());
            check(!isPrivate || !names.contains(method.getName()), method + " bears a public name");
        }
    }

    private static void check(boolean holds, String text) {
        if (!holds) {
            wrong++;
            System.out.println(text);
        }
    }
}

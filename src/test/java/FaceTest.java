import java.lang.reflect.Constructor;
import java.lang.reflect.Field;
import java.lang.reflect.Method;
import java.lang.reflect.Modifier;
import java.util.TreeSet;

/** The face: the document's constructor and methods, with their exceptions, and nothing else. */
public final class FaceTest {
    private static final String[] FACE = {
        "public RevisionShelf()",
        "public int RevisionShelf.put(int,long) throws java.lang.IndexOutOfBoundsException",
        "public int RevisionShelf.remove(int) throws java.lang.IndexOutOfBoundsException",
        "public void RevisionShelf.test(int,int,int,long)"
            + " throws java.lang.IllegalArgumentException,java.lang.IllegalStateException",
        "public void RevisionShelf.step(boolean,int,boolean,long)"
            + " throws java.lang.IllegalStateException",
        "public int RevisionShelf.deal() throws java.lang.IndexOutOfBoundsException",
        "public long RevisionShelf.get(int,int)"
            + " throws java.lang.IllegalArgumentException,java.lang.IllegalStateException,"
            + "java.util.NoSuchElementException",
        "public int RevisionShelf.state(int,int,int)"
            + " throws java.lang.IllegalArgumentException,java.lang.IllegalStateException",
        "public int RevisionShelf.many(int,int,int)"
            + " throws java.lang.IllegalArgumentException,java.lang.IllegalStateException",
        "public int RevisionShelf.key(int,int,int,int)"
            + " throws java.lang.IllegalArgumentException,java.lang.IllegalStateException,"
            + "java.util.NoSuchElementException",
        "public void RevisionShelf.compact(int)"
            + " throws java.lang.IllegalArgumentException,java.lang.IllegalStateException",
        "public int RevisionShelf.event(int,int,int)"
            + " throws java.lang.IllegalArgumentException,java.lang.IllegalStateException,"
            + "java.util.NoSuchElementException",
        "public int RevisionShelf.count(int)",
    };

    public static void main(String[] args) {
        Check check = new Check();
        TreeSet<String> due = new TreeSet<>();
        for (String member : FACE) {
            due.add(member);
        }
        check.same("face", visibleMembers().toString(), due.toString());
        check.same("class", Modifier.toString(RevisionShelf.class.getModifiers()), "public final");
        for (Class<?> inside : RevisionShelf.class.getDeclaredClasses()) {
            check.same("static: " + inside, "" + Modifier.isStatic(inside.getModifiers()), "true");
        }
        check.end("FaceTest");
    }

    private static TreeSet<String> visibleMembers() {
        TreeSet<String> members = new TreeSet<>();
        for (Constructor<?> constructor : RevisionShelf.class.getDeclaredConstructors()) {
            members.add(constructor.toGenericString());
        }
        for (Method method : RevisionShelf.class.getDeclaredMethods()) {
            if (!Modifier.isPrivate(method.getModifiers())) {
                members.add(method.toGenericString());
            }
        }
        for (Field field : RevisionShelf.class.getDeclaredFields()) {
            if (!Modifier.isPrivate(field.getModifiers())) {
                members.add(field.toGenericString());
            }
        }
        return members;
    }
}

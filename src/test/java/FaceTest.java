import java.lang.reflect.Constructor;
import java.lang.reflect.Field;
import java.lang.reflect.Method;
import java.lang.reflect.Modifier;
import java.util.Set;
import java.util.TreeSet;

/** The public face, to the letter, and the room that a run of calls takes. */
public final class FaceTest {
    private static final String[] FACE = {
        "int feed(int,int,int,int,int)",
        "int disc(int) throws IllegalArgumentException",
        "int fault()",
        "int count(int) throws NoSuchElementException",
        "int block(int,int) throws NoSuchElementException",
        "int tells(int,int) throws NoSuchElementException",
        "int file(int,int) throws NoSuchElementException",
        "int lie(int,int) throws NoSuchElementException",
        "int read(int,int) throws NoSuchElementException",
        "int past(int,int,int) throws NoSuchElementException",
        "int versions(int) throws NoSuchElementException",
        "int since(int,int,int) throws NoSuchElementException",
        "int alike(int) throws NoSuchElementException",
        "int set(int,int,int)",
        "int cut(int,int)",
        "int erase(int)",
        "boolean rename(int,int)",
        "int copy(int,int)",
        "int revert(int,int)",
        "int sync()",
        "int tear(int)",
        "int close(boolean)",
        "int mount(int)",
        "int undo()",
        "int cost(int) throws NoSuchElementException",
        "int apart()",
        "int found(int) throws IllegalArgumentException",
        "int left()",
        "int ends()",
        "int toPack(int) throws NoSuchElementException",
        "int guess(int,int) throws NoSuchElementException",
        "long storms(int,int) throws IllegalArgumentException",
        "int years(int,int,int) throws NoSuchElementException IllegalArgumentException",
        "void image()",
        "boolean restore()",
    };

    public static void main(String[] args) {
        face();
        privateNames();
        room();
        Check.end();
    }

    private static String signature(Method method) {
        StringBuilder text = new StringBuilder(method.getReturnType().getSimpleName());
        text.append(' ').append(method.getName()).append('(');
        for (int i = 0; i < method.getParameterCount(); i++) {
            text.append(i == 0 ? "" : ",").append(method.getParameterTypes()[i].getSimpleName());
        }
        text.append(')');
        for (int i = 0; i < method.getExceptionTypes().length; i++) {
            text.append(i == 0 ? " throws " : " ").append(method.getExceptionTypes()[i].getSimpleName());
        }
        return text.toString();
    }

    private static void face() {
        Set<String> due = new TreeSet<>(Set.of(FACE));
        Set<String> there = new TreeSet<>();
        for (Method method : OnceVolume.class.getDeclaredMethods()) {
            if (Modifier.isPublic(method.getModifiers())) {
                there.add(signature(method));
            } else {
                Check.due(method + " is private", true, Modifier.isPrivate(method.getModifiers()));
            }
        }
        Check.due("the methods " + there, true, due.equals(there));
        for (Field field : OnceVolume.class.getDeclaredFields()) {
            boolean constant = field.getName().equals("NONE") && field.getType() == int.class
                && Modifier.toString(field.getModifiers()).equals("public static final");
            Check.due(field + " is NONE or private", true, constant || Modifier.isPrivate(field.getModifiers()));
        }
        Constructor<?>[] makers = OnceVolume.class.getDeclaredConstructors();
        Check.due("one constructor", 1, makers.length);
        Check.due("it is public", true, Modifier.isPublic(makers[0].getModifiers()));
        Check.due("it takes nothing", 0, makers[0].getParameterCount());
        Check.due("the class is public and final", true,
            Modifier.toString(OnceVolume.class.getModifiers()).equals("public final"));
    }

    private static void privateNames() {
        Set<String> names = new TreeSet<>();
        for (String line : FACE) {
            names.add(line.substring(line.indexOf(' ') + 1, line.indexOf('(')));
        }
        for (Class<?> inside : OnceVolume.class.getDeclaredClasses()) {
            Check.due(inside + " is static", true, Modifier.isStatic(inside.getModifiers()));
            for (Method method : inside.getDeclaredMethods()) {
                Check.due(method + " bears a name of the face", false, names.contains(method.getName()));
            }
        }
        for (Method method : OnceVolume.class.getDeclaredMethods()) {
            if (Modifier.isPrivate(method.getModifiers())) {
                Check.due(method + " bears a name of the face", false, names.contains(method.getName()));
            }
        }
    }

    private static long bytes() {
        java.lang.management.ThreadMXBean threads = java.lang.management.ManagementFactory.getThreadMXBean();
        if (threads instanceof com.sun.management.ThreadMXBean) {
            return ((com.sun.management.ThreadMXBean) threads).getThreadAllocatedBytes(Thread.currentThread().getId());
        }
        return 0;
    }

    /** All rows are made with the object: 512 of the dearest calls make next to nothing. */
    private static void room() {
        bytes();
        long start = bytes();
        OnceVolume x = new OnceVolume();
        Check.due("the object takes less than 300,000 bytes", true, bytes() - start < 300_000);
        for (int name = 0; name < 12; name++) {
            x.set(name, 0, name);
        }
        dearCalls(x);
        start = bytes();
        for (int i = 0; i < 512 / 8; i++) {
            dearCalls(x);
        }
        Check.due("the calls take less than 20,000 bytes", true, bytes() - start < 20_000);
    }

    private static void dearCalls(OnceVolume x) {
        x.image();
        x.guess(1, 0);
        x.years(7, 60, 0);
        x.sync();
        x.versions(1);
        x.count(13);
        x.block(1, 1);
        x.restore();
    }
}

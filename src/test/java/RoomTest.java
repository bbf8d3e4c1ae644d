import com.sun.management.ThreadMXBean;
import java.lang.management.ManagementFactory;
import java.lang.reflect.Constructor;
import java.lang.reflect.Field;
import java.lang.reflect.Method;
import java.lang.reflect.Modifier;
import java.util.Arrays;
import java.util.List;

/** What the rules ask of the class as a whole: its face, its room, and that nothing is thrown by the machine. */
public final class RoomTest {
    private static final int[] ANY = {Integer.MIN_VALUE, -65536, -2, -1, 0, 1, 2, 3, 4, 5, 6, 7, 8, 10, 11, 12, 13, 20, 21,
        60, 61, 999, 1000, 9999, 10000, Integer.MAX_VALUE};
    private static final List<String> FACE = Arrays.asList("feed", "trim", "teach", "errorAt", "count", "ward", "project",
        "share", "voter", "likes", "envy", "next", "approve", "give", "setBudget", "open", "pass", "until", "foresee",
        "advise", "spare", "mean", "digest");

    public static void main(String[] args) {
        face();
        anyArguments("");
        anyArguments(dearList());
        room();
        Due.end();
    }

    private static void face() {
        int methods = 0;
        for (Method method : BudgetJury.class.getDeclaredMethods()) {
            if (!method.isSynthetic()) {
                boolean isPrivate = Modifier.isPrivate(method.getModifiers());
                Due.same("the face has " + method.getName(), FACE.contains(method.getName()), !isPrivate);
                Due.same(method.getName() + " is public or private", isPrivate || Modifier.isPublic(method.getModifiers()), true);
                methods += isPrivate ? 0 : 1;
            }
        }
        Due.same("methods of the face", methods, FACE.size());
        for (Field field : BudgetJury.class.getDeclaredFields()) {
            Due.same(field.getName() + " is private", Modifier.isPrivate(field.getModifiers()), true);
        }
        Constructor<?>[] constructors = BudgetJury.class.getDeclaredConstructors();
        Due.same("constructors", constructors.length, 1);
        Due.same("the class is public and final", BudgetJury.class.getModifiers(), Modifier.PUBLIC | Modifier.FINAL);
    }

    /** A list with 12 projects, voters and bans. */
    private static String dearList() {
        StringBuilder list = new StringBuilder("ward a cap 12;ward b cap 1;");
        for (int i = 0; i < 12; i++) {
            list.append("project p").append(i).append(" cost ").append(90 + i).append(" in a grows 1;");
        }
        for (int i = 0; i < 12; i++) {
            list.append("voter v").append(i).append(" likes p").append(i).append(" p").append((i + 5) % 12).append(';');
        }
        list.append("budget 37;");
        for (int i = 0; i < 12; i++) {
            list.append("ban p").append(i).append(" when purse v").append(i).append("<pot/9;");
        }
        return list.toString();
    }

    private interface Call {
        void run();
    }

    /** A call may throw only what the document names, with a text of its own. */
    private static void documented(String call, Call run) {
        boolean is = true;
        try {
            run.run();
        } catch (IllegalArgumentException | IllegalStateException e) {
            is = e.getClass() == IllegalArgumentException.class || e.getClass() == IllegalStateException.class;
        } catch (IndexOutOfBoundsException e) {
            is = e.getClass() == IndexOutOfBoundsException.class && e.getStackTrace()[0].getClassName().equals("BudgetJury");
        } catch (RuntimeException e) {
            is = false;
        }
        Due.same(call + " throws only what the document names", is, true);
    }

    private static void anyArguments(String list) {
        BudgetJury x = Due.taught(list);
        for (int a : ANY) {
            documented("trim", () -> x.trim(a));
            documented("count", () -> x.count(a));
            documented("share", () -> x.share(a));
            documented("setBudget", () -> x.setBudget(a));
            documented("open", () -> x.open(a));
            documented("pass", () -> x.pass(a));
            documented("until", () -> x.until(a));
            documented("spare", () -> x.spare(a));
            documented("next", () -> x.next());
            documented("mean", () -> x.mean());
            documented("digest", () -> x.digest());
            for (int b : ANY) {
                documented("feed", () -> x.feed(a, b, a, b, a));
                documented("ward", () -> x.ward(a, b));
                documented("project", () -> x.project(a, b));
                documented("voter", () -> x.voter(a, b));
                documented("likes", () -> x.likes(a, b));
                documented("envy", () -> x.envy(a, b));
                documented("approve", () -> x.approve(a, b, (a & 1) == 0));
                documented("give", () -> x.give(a, b));
                documented("foresee", () -> x.foresee(a, b));
                documented("advise", () -> x.advise(a, b));
            }
        }
    }

    /** 512 of the dearest calls fit into the room of a run: they make nearly nothing anew. */
    private static void room() {
        ThreadMXBean threads = (ThreadMXBean) ManagementFactory.getThreadMXBean();
        long thread = Thread.currentThread().getId();
        BudgetJury jury = Due.taught(dearList());
        dearCalls(jury);
        long before = threads.getThreadAllocatedBytes(thread);
        dearCalls(jury);
        long made = threads.getThreadAllocatedBytes(thread) - before;
        Due.same("bytes made by 512 calls stay under a million (" + made + ")", made < 1000000, true);
    }

    private static void dearCalls(BudgetJury jury) {
        for (int i = 0; i < 64; i++) {
            jury.digest();
            jury.next();
            jury.advise(i % 12, 20);
            jury.spare(20);
            jury.until(i % 12);
            jury.foresee(60, 10);
            jury.feed(i, 0x20202020, 0, 0, 0);
            jury.teach();
        }
    }
}

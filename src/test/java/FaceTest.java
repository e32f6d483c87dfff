import java.lang.reflect.Constructor;
import java.lang.reflect.Field;
import java.lang.reflect.Method;
import java.lang.reflect.Modifier;
import java.util.TreeSet;

/** The public face, member by member with its throws clause, and promise 1. */
public final class FaceTest {
    private static final String I = "IndexOutOfBoundsException";
    private static final String A = "IllegalArgumentException";
    private static final String S = "IllegalStateException";

    private static final String[] METHODS = {
        "int append(int,int,int,int,int) " + S, "void truncate(int) " + A, "int load()", "int errorCode()",
        "int errorPosition()", "int find()", "int property(int) " + A, "int worker(int,int) " + I + " " + A,
        "int row(int,int) " + I + " " + A, "int taking(int,int,int) " + I + " " + A, "int finishers(int) " + I,
        "int refusal(int,int) " + I, "int offers(int) " + I, "int nextFor(int) " + I, "int takers(int) " + I,
        "boolean isStuck(int) " + I, "int bestPair(int) " + I, "int mostTakings()", "int strikes(int,int) " + I,
        "boolean isBarred(int,int) " + I, "int agreeing(int,int) " + I, "int differing(int,int) " + I,
        "float accuracy(int) " + I, "double meanTrust()", "int suspended()", "int risk(int) " + I, "int nextAudit()",
        "int nextDue()", "int lateIn(int) " + A, "int stateIf(int,int,int) " + I + " " + A + " " + S,
        "int trustIf(int,int,int,int) " + I + " " + A + " " + S, "int finishing(int,int) " + I + " " + S, "int lost()",
        "int finishedOf(int) " + A, "int left()", "int leader()", "int place(int) " + I, "int partner(int) " + I,
        "int take(int) " + I + " " + S, "int takeRow(int,int) " + I + " " + S,
        "int deliver(int,int,int) " + I + " " + A + " " + S, "int pass(int) " + A,
        "boolean audit(int,int) " + I + " " + A + " " + S, "int setAside(int) " + I + " " + S,
        "int pardon(int) " + I + " " + S, "boolean bar(int,int,boolean) " + I + " " + A,
        "int addRows(int,int) " + A + " " + S, "int setTable(int,int) " + A, "int keep(int) " + I,
        "int restore(int) " + I + " " + S, "int undo() " + S, "int undoCount()", "int writeRows()",
        "int writeRow(int) " + I, "int writeWorkers()", "int outputByte(int) NoSuchElementException"};

    private static String described(Method m) {
        StringBuilder text = new StringBuilder(m.getReturnType().getSimpleName() + " " + m.getName() + "(");
        for (Class<?> type : m.getParameterTypes()) {
            text.append(text.charAt(text.length() - 1) == '(' ? "" : ",").append(type.getSimpleName());
        }
        text.append(")");
        for (Class<?> type : m.getExceptionTypes()) {
            text.append(" ").append(type.getSimpleName());
        }
        return text.toString();
    }

    private static void faceIsThatOfTheDocument() {
        TreeSet<String> want = new TreeSet<>();
        TreeSet<String> publicNames = new TreeSet<>();
        for (String m : METHODS) {
            want.add(m);
        }
        TreeSet<String> got = new TreeSet<>();
        for (Method m : ReviewTable.class.getDeclaredMethods()) {
            if (Modifier.isPublic(m.getModifiers())) {
                got.add(described(m));
                publicNames.add(m.getName());
            } else if (!m.isSynthetic()) {
                Check.due(m + " is private", Modifier.isPrivate(m.getModifiers()), true);
            }
        }
        Check.due("public methods", got.toString(), want.toString());
        for (Method m : ReviewTable.class.getDeclaredMethods()) {
            Check.due(m + " bears a public name", !Modifier.isPublic(m.getModifiers()) && publicNames.contains(m.getName()), false);
        }
        for (Class<?> c : ReviewTable.class.getDeclaredClasses()) {
            Check.due(c + " is public", Modifier.isPublic(c.getModifiers()), false);
            for (Method m : c.getDeclaredMethods()) {
                Check.due(m + " bears a public name", publicNames.contains(m.getName()), false);
            }
        }
    }

    private static void fieldsAndConstructors() {
        int constants = 0;
        for (Field f : ReviewTable.class.getDeclaredFields()) {
            if (!Modifier.isPrivate(f.getModifiers())) {
                constants++;
                Check.due(f.getName(), f.getName().matches("NONE|PARSE_ERROR"), true);
            }
        }
        Check.due("public constants", constants, 2);
        Check.due("NONE", ReviewTable.NONE, -1);
        Check.due("PARSE_ERROR", ReviewTable.PARSE_ERROR, -4);
        Constructor<?>[] made = ReviewTable.class.getDeclaredConstructors();
        Check.due("constructors", made.length, 1);
        Check.due("parameters", made[0].getParameterCount(), 0);
        Check.due("final", Modifier.isFinal(ReviewTable.class.getModifiers()), true);
    }

    /** Promise 1: what the section on exceptions says of a table before the first load, with empty buffers and slots. */
    private static void newObject() {
        ReviewTable x = new ReviewTable();
        int[] want = {0, 0, 0, 0, 10, 5, 0, 0, 0, 0, 0};
        for (int what = 0; what <= 10; what++) {
            Check.due("new: property(" + what + ")", x.property(what), want[what]);
        }
        Check.due("new: errorCode()", x.errorCode(), 0);
        Check.due("new: errorPosition()", x.errorPosition(), -1);
        Check.due("new: undoCount()", x.undoCount(), 0);
        Check.due("new: meanTrust()", x.meanTrust(), 0.0);
        Check.due("new: leader()", x.leader(), -1);
        Check.due("new: mostTakings()", x.mostTakings(), 0);
        Check.due("new: suspended()", x.suspended(), 0);
        Check.due("new: nextAudit()", x.nextAudit(), -1);
        Check.due("new: nextDue()", x.nextDue(), -1);
        Check.due("new: lost()", x.lost(), 0);
        Check.due("new: left()", x.left(), 0);
        Check.due("new: find()", x.find(), -1);
        Check.noState("new: undo()", () -> x.undo());
        Check.noState("new: restore(0)", () -> x.restore(0));
        Check.noState("new: restore(1)", () -> x.restore(1));
        Check.noWorker("new: worker(0, 0)", () -> x.worker(0, 0));
        Check.noWorker("new: row(0, 0)", () -> x.row(0, 0));
        Check.dueThrow("new: outputByte(0)", java.util.NoSuchElementException.class, () -> x.outputByte(0));
        Check.noValue("new: truncate(1)", () -> x.truncate(1));
        Check.due("new: append(..)", x.append(0, 0, 0, 0, 0), 20);
    }

    public static void main(String[] args) {
        faceIsThatOfTheDocument();
        fieldsAndConstructors();
        newObject();
        Check.finish("FaceTest");
    }
}

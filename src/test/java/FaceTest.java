import java.lang.reflect.Constructor;
import java.lang.reflect.Field;
import java.lang.reflect.Method;
import java.lang.reflect.Modifier;
import java.util.ArrayList;
import java.util.Arrays;
import java.util.HashSet;
import java.util.List;
import java.util.Set;

/** The public face of the document, and of LANGUAGE.md rules 1, 5 and 11 as far as reflection shows them. */
public final class FaceTest {
    private static final List<String> DUE = List.of(
        "int annul(int) ISE NSE UOE", "int balance(int,int,int) ISE IAE", "int clock()",
        "int correct(int,int) ISE NSE IAE UOE AE", "int entries() ISE", "int field(int,int,int) ISE", "long head()",
        "int moved() ISE", "int next() ISE", "int open(int,int,int,int) ISE IAE",
        "int post(int,int,int,int) ISE IAE UOE AE", "boolean tamper(int,int,int)", "int trial(int,int) ISE IAE",
        "int turnover(int) ISE IAE", "int verify()");

    public static void main(String[] args) {
        int modifiers = AsOfLedger.class.getModifiers();
        Check.holds("the class is public and final", Modifier.isPublic(modifiers) && Modifier.isFinal(modifiers));
        looksAtMethods();
        looksAtConstructors();
        looksAtFields();
        Check.end();
    }

    private static void looksAtMethods() {
        List<String> found = new ArrayList<>();
        Set<String> publicNames = new HashSet<>();
        for (Method m : AsOfLedger.class.getDeclaredMethods()) {
            if (Modifier.isPublic(m.getModifiers())) {
                found.add(written(m));
                publicNames.add(m.getName());
            }
        }
        Check.holds("the public methods are " + DUE + ", found " + found,
                found.size() == DUE.size() && new HashSet<>(found).equals(new HashSet<>(DUE)));
        for (Method m : AsOfLedger.class.getDeclaredMethods()) {
            if (!Modifier.isPublic(m.getModifiers())) {
                Check.holds(m + " is private", Modifier.isPrivate(m.getModifiers()));
                Check.holds(m + " has a name of its own", !publicNames.contains(m.getName()));
                Check.holds(m + " has at most seven parameters", m.getParameterCount() <= 7);
            }
        }
    }

    private static String written(Method m) {
        List<String> parameters = new ArrayList<>();
        for (Class<?> type : m.getParameterTypes()) {
            parameters.add(type.getName());
        }
        StringBuilder text = new StringBuilder();
        text.append(m.getReturnType().getName()).append(' ').append(m.getName());
        text.append('(').append(String.join(",", parameters)).append(')');
        for (Class<?> type : m.getExceptionTypes()) {
            text.append(' ').append(shortened(type));
        }
        return text.toString();
    }

    private static String shortened(Class<?> exception) {
        switch (exception.getName()) {
            case "java.lang.IllegalStateException": return "ISE";
            case "java.lang.IllegalArgumentException": return "IAE";
            case "java.lang.UnsupportedOperationException": return "UOE";
            case "java.lang.ArithmeticException": return "AE";
            case "java.util.NoSuchElementException": return "NSE";
            default: return exception.getName();
        }
    }

    private static void looksAtConstructors() {
        Constructor<?>[] all = AsOfLedger.class.getDeclaredConstructors();
        Check.holds("one public constructor without parameters: " + Arrays.toString(all),
                all.length == 1 && Modifier.isPublic(all[0].getModifiers()) && all[0].getParameterCount() == 0);
    }

    private static void looksAtFields() {
        for (Field f : AsOfLedger.class.getDeclaredFields()) {
            int modifiers = f.getModifiers();
            boolean isNone = f.getName().equals("NONE") && f.getType() == int.class;
            Check.holds(f + " is private, or is NONE and public",
                    isNone ? Modifier.isPublic(modifiers) : Modifier.isPrivate(modifiers));
            Check.holds(f + " is final if static", !Modifier.isStatic(modifiers) || Modifier.isFinal(modifiers));
        }
    }
}

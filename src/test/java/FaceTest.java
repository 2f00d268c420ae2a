import java.io.IOException;
import java.lang.reflect.Constructor;
import java.lang.reflect.Field;
import java.lang.reflect.Method;
import java.lang.reflect.Modifier;
import java.nio.file.Files;
import java.nio.file.Path;
import java.util.ArrayList;
import java.util.Arrays;
import java.util.HashSet;
import java.util.List;
import java.util.Set;
import java.util.TreeSet;
import java.util.regex.Pattern;

/** The public face of the class, its constants, and the rules of LANGUAGE.md that a program can see. */
public final class FaceTest {
    private static final String[] FACE = {
        "int appendInput(int,int,int,int,int)", "boolean truncateInput(int)", "int loadSetup()", "int runScript()",
        "int errorCode()", "int errorOffset()", "int clock()", "int reserve()", "int holderCount()",
        "int nameByte(int,int)", "int balance(int)", "int dailyPremiums(int)", "int wind(int)", "int rain(int)",
        "int policyCount()", "boolean isKite(int)", "int holderOf(int)", "int firstHour(int)",
        "int insuredHours(int)", "int cover(int)", "int premium(int)", "boolean isActive(int)",
        "boolean hasLapsed(int)", "int damage(int)", "int claimObstacle(int)", "int claimCount()",
        "int policyOf(int)", "int assessorOf(int)", "boolean isUndecided(int)", "boolean isDenied(int)",
        "boolean isPaid(int)", "int grantedAmount(int)", "int assessorCount()", "int strictness(int)",
        "int workload(int)", "int nextAssessor()", "int nextPayment()", "int openPayments()",
        "int totalPremiums()", "int totalPaid()", "int totalDeposits()", "int luckiestHolder()",
        "int lapsedCount()", "double lossRatio()", "float grantedPart()", "int kitePremium(int,int)",
        "int picnicPremium(int,int,int)", "int hoursUntilDecision(int)", "int hoursUntilLapse(int)",
        "boolean isConsistent()", "int passHour(int,int)", "int buyKite(int,int,int,int,int,int)",
        "int buyPicnic(int,int,int,int,int)", "int fileClaim(int)", "int deposit(int,int)", "int undo()",
        "int writeClaim(int)", "int outputByte(int)", "int saveState()", "int restoreState()",
    };
    private static final String[] CONSTANTS = {
        "NONE=-1", "NO_ERROR=0", "SYNTAX=1", "OUT_OF_RANGE=2", "BAD_NAME=3", "TOO_MANY=4", "TOO_FEW=5",
        "MAY_CLAIM=0", "LAPSED=1", "NOT_OVER=2", "TOO_LATE=3", "ALREADY_CLAIMED=4", "DUPLICATE=5",
    };

    public static void main(String[] args) throws IllegalAccessException, IOException {
        face();
        constants();
        nestedClasses();
        for (Class<?> part : parts()) {
            fields(part);
            methods(part);
        }
        source(Files.readString(Path.of(args.length > 0 ? args[0] : "src/main/java/WeatherInsurance.java")));
        Check.end();
    }

    private static List<Class<?>> parts() {
        List<Class<?>> parts = new ArrayList<>(Arrays.asList(WeatherInsurance.class.getDeclaredClasses()));
        parts.add(WeatherInsurance.class);
        return parts;
    }

    private static void face() {
        Set<String> got = new TreeSet<>();
        for (Method method : WeatherInsurance.class.getDeclaredMethods()) {
            if (!Modifier.isPrivate(method.getModifiers()) && !method.isSynthetic()) {
                got.add(signature(method));
                Check.same("public: " + method, Modifier.isPublic(method.getModifiers()), true);
                Check.same("not static: " + method, Modifier.isStatic(method.getModifiers()), false);
            }
        }
        Check.same("the face", got, new TreeSet<>(Arrays.asList(FACE)));
        Check.same("constructors", WeatherInsurance.class.getDeclaredConstructors().length, 1);
        Constructor<?> constructor = WeatherInsurance.class.getDeclaredConstructors()[0];
        Check.same("constructor", constructor.toString(), "public WeatherInsurance()");
        Check.same("the class is final", Modifier.isFinal(WeatherInsurance.class.getModifiers()), true);
    }

    private static String signature(Method method) {
        List<String> types = new ArrayList<>();
        for (Class<?> type : method.getParameterTypes()) {
            types.add(type.getName());
        }
        return method.getReturnType().getName() + " " + method.getName() + "(" + String.join(",", types) + ")";
    }

    private static void constants() throws IllegalAccessException {
        Set<String> got = new TreeSet<>();
        for (Field field : WeatherInsurance.class.getDeclaredFields()) {
            if (!Modifier.isPrivate(field.getModifiers())) {
                got.add(field.getName() + "=" + field.get(null));
                Check.same("int: " + field, field.getType(), int.class);
            }
        }
        Check.same("the constants", got, new TreeSet<>(Arrays.asList(CONSTANTS)));
    }

    private static void nestedClasses() {
        Check.same("at most twelve classes", parts().size() <= 12, true);
        for (Class<?> part : WeatherInsurance.class.getDeclaredClasses()) {
            Check.same("static: " + part, Modifier.isStatic(part.getModifiers()), true);
            Check.same("private: " + part, Modifier.isPrivate(part.getModifiers()), true);
        }
    }

    private static void fields(Class<?> part) {
        int own = 0;
        for (Field field : part.getDeclaredFields()) {
            if (Modifier.isStatic(field.getModifiers())) {
                Check.same("final: " + field, Modifier.isFinal(field.getModifiers()), true);
            } else {
                own++;
            }
        }
        Check.same("at most twenty fields: " + part, own <= 20, true);
    }

    private static void methods(Class<?> part) {
        Set<String> publicNames = new HashSet<>();
        for (Method method : WeatherInsurance.class.getDeclaredMethods()) {
            if (Modifier.isPublic(method.getModifiers())) {
                publicNames.add(method.getName());
            }
        }
        for (Method method : part.getDeclaredMethods()) {
            Check.same("at most seven parameters: " + method, method.getParameterCount() <= 7, true);
            if (!Modifier.isPublic(method.getModifiers())) {
                Check.same("a name of its own: " + method, publicNames.contains(method.getName()), false);
            }
        }
    }

    private static void source(String source) {
        String code = source.replaceAll("(?s)/\\*.*?\\*/", "").replaceAll("//[^\n]*", "").replaceAll("\"[^\"\n]*\"", "\"\"");
        for (String word : new String[] {"->", "::", "\\btry\\b", "\\bcatch\\b", "\\bfinally\\b", "\\bsynchronized\\b",
            "\\bassert\\b", "\\bpackage\\b", "\\bvar\\b", "\\bjava\\.(?!util\\.NoSuchElementException)", "\\bSystem\\.(?!arraycopy)",
            "\"\" *\\+", "\\+ *\"\"", "while *\\(true\\)", "for *\\(;"}) {
            Check.same("no " + word, Pattern.compile(word).matcher(code).find(), false);
        }
        for (String line : source.split("\n")) {
            Check.same("a line of at most 120 signs: " + line, line.length() <= 120, true);
        }
    }
}

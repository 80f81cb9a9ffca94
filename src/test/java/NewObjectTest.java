import java.io.IOException;
import java.lang.reflect.Modifier;
import java.nio.file.Files;
import java.nio.file.Path;
import java.util.Arrays;
import java.util.List;
import java.util.stream.Collectors;
import java.util.stream.Stream;

/** Promise 1, and the face of the class. */
public final class NewObjectTest {
    private static final String FIRST_SCRIPT = "loft; trough 100; trough 200; trough 50; load 0 50 760; "
            + "load 1 200 780; fan 0 3; fan 1 4; monsoon 1; probe 0 top over 10; probe 1 bottom under 5; "
            + "hours 2; reverse 0; hours 1;";

    public static void main(String[] args) throws IOException {
        isAsByItsScript();
        isEmptyOtherwise();
        hasOnlyTheFace();
        hasTheFaceOfTheDocument();
        Check.end();
    }

    private static void isAsByItsScript() {
        WitheringLoft made = new WitheringLoft();
        Check.same("a new loft", Check.view(made), Check.view(Check.after(FIRST_SCRIPT)));
        Check.same("the report of a new loft", Check.report(made), "3d640/664 4u636/708 0u");
        Check.same("setTarget(664, 24) of a new loft", made.setTarget(664, 24), 1);
        Check.same("passHours(21)", made.passHours(21), 24);
        Check.same("isMonsoon()", made.isMonsoon(), true);
    }

    private static void isEmptyOtherwise() {
        WitheringLoft made = new WitheringLoft();
        Check.throwsArgument("truncateInput(1)", () -> made.truncateInput(1));
        Check.same("reportByte(0)", made.reportByte(0), -1);
        Check.throwsExactly("restoreSnapshot()", java.util.NoSuchElementException.class, made::restoreSnapshot);
        Check.same("undoCount()", made.undoCount(), 0);
        Check.same("undo()", made.undo(), -1);
        Check.same("scriptErrorKind()", made.scriptErrorKind(), 0);
        Check.same("scriptErrorOffset()", made.scriptErrorOffset(), -1);
    }

    private static void hasOnlyTheFace() {
        Class<WitheringLoft> face = WitheringLoft.class;
        int methods = 0;
        for (java.lang.reflect.Method method : face.getDeclaredMethods()) {
            if (Modifier.isPublic(method.getModifiers())) {
                methods++;
            } else if (!method.isSynthetic()) {
                boolean hidden = Modifier.isPrivate(method.getModifiers());
                Check.same("whether " + method.getName() + " is private", hidden, true);
            }
        }
        Check.same("the number of public methods", methods, 64);
        int constants = 0;
        for (java.lang.reflect.Field field : face.getDeclaredFields()) {
            if (Modifier.isPublic(field.getModifiers())) {
                constants++;
            } else {
                boolean hidden = Modifier.isPrivate(field.getModifiers());
                Check.same("whether " + field.getName() + " is private", hidden, true);
            }
        }
        Check.same("the number of public constants", constants, 7);
        Check.same("NONE", WitheringLoft.NONE, -1);
        Check.same("BOTTOM", WitheringLoft.BOTTOM, 0);
        Check.same("TOP", WitheringLoft.TOP, 1);
        Check.same("ALLOWED", WitheringLoft.ALLOWED, 0);
        Check.same("NO_LEAF", WitheringLoft.NO_LEAF, 1);
        Check.same("TOO_DRY", WitheringLoft.TOO_DRY, 2);
        Check.same("TOO_MOIST", WitheringLoft.TOO_MOIST, 3);
    }

    /** Names, parameters, answers and exceptions, as "The public face" lists them. */
    private static void hasTheFaceOfTheDocument() throws IOException {
        List<String> document = Files.readAllLines(Path.of("../shared/DOC.md"));
        int start = document.indexOf("public final class WitheringLoft {");
        int end = start + document.subList(start, document.size()).indexOf("}");
        List<String> due = document.subList(start, end).stream().map(String::strip)
                .filter(line -> line.endsWith(";") && line.contains("(") && !line.contains("WitheringLoft("))
                .map(line -> line.replaceAll("int [a-z]+([,)])", "int$1")).sorted().collect(Collectors.toList());
        List<String> got = Arrays.stream(WitheringLoft.class.getDeclaredMethods())
                .filter(method -> Modifier.isPublic(method.getModifiers()))
                .map(method -> Modifier.toString(method.getModifiers()) + " " + method.getReturnType() + " "
                        + method.getName() + "(" + names(method.getParameterTypes()) + ")"
                        + (method.getExceptionTypes().length == 0 ? "" : " throws ")
                        + names(method.getExceptionTypes()) + ";")
                .sorted().collect(Collectors.toList());
        Check.same("the number of the document's methods", due.size(), 64);
        Check.same("the face", String.join("\n", got), String.join("\n", due));
    }

    private static String names(Class<?>[] kinds) {
        return Stream.of(kinds).map(Class::getSimpleName).collect(Collectors.joining(", "));
    }
}

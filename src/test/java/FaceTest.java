import java.io.IOException;
import java.lang.reflect.Constructor;
import java.lang.reflect.Field;
import java.lang.reflect.Method;
import java.lang.reflect.Modifier;
import java.nio.file.Files;
import java.nio.file.Path;
import java.util.Set;
import java.util.TreeSet;
import java.util.regex.Pattern;

/** The document's face and constants, what can be checked of ../shared/LANGUAGE.md, and that calls make nothing anew. */
public final class FaceTest {
    private static final String FACE = "addTitle(int,int):int setPrice(int,int):int newEdition(int):int "
        + "addCourse(int,int,int):int setCourse(int,int,int):int set(int,int):int count(int):int title(int,int):int "
        + "course(int,int):int copy(int,int):int book(int):int buy(int,int):int offer(int,int,int):int "
        + "buyBack(int,int,int):int sell(int):int rent(int,int):int next(int):int giveBack(int,int):int "
        + "charge(int,int,int):int pass(int):int shelf(int,int):int customer(int,int):int lostIn(int):int "
        + "agingOf(int):int served():int undo():int type(int):int clearText():int textFault():int orders():int "
        + "digest():long";

    public static void main(String[] args) throws IOException {
        constants();
        members();
        source();
        Due.end();
    }

    private static void constants() {
        Due.is("NONE", BookRental.NONE, -1);
        Due.is("BAD_INDEX", BookRental.BAD_INDEX, -2);
        Due.is("BAD_VALUE", BookRental.BAD_VALUE, -3);
        Due.is("BAD_STATE", BookRental.BAD_STATE, -4);
        Due.is("FULL", BookRental.FULL, -5);
    }

    private static void members() {
        Due.isTrue("the class is public and final", BookRental.class.getModifiers() == (Modifier.PUBLIC | Modifier.FINAL));
        Set<String> face = new TreeSet<>();
        Set<String> hidden = new TreeSet<>();
        for (Method method : BookRental.class.getDeclaredMethods()) {
            if (Modifier.isPrivate(method.getModifiers())) {
                hidden.add(method.getName());
            } else {
                face.add(signature(method));
            }
        }
        Due.isTrue("the methods are those of the document: " + face, face.equals(Set.of(FACE.split(" "))));
        for (String method : face) {
            String name = method.substring(0, method.indexOf('('));
            Due.isTrue("no private method is named " + name, !hidden.contains(name));
        }
        for (Field field : BookRental.class.getDeclaredFields()) {
            boolean isConstant = "NONE BAD_INDEX BAD_VALUE BAD_STATE FULL".contains(field.getName());
            int due = Modifier.PUBLIC | Modifier.STATIC | Modifier.FINAL;
            Due.isTrue("field " + field.getName(),
                isConstant ? field.getModifiers() == due : Modifier.isPrivate(field.getModifiers()));
        }
        Constructor<?>[] constructors = BookRental.class.getDeclaredConstructors();
        Due.is("constructors", constructors.length, 1);
        Due.is("it is public", constructors[0].getModifiers(), Modifier.PUBLIC);
        Due.is("its parameters", constructors[0].getParameterCount(), 0);
        for (Class<?> inside : BookRental.class.getDeclaredClasses()) {
            Due.isTrue(inside.getName() + " is static", Modifier.isStatic(inside.getModifiers()));
            Due.isTrue(inside.getName() + " is not public", !Modifier.isPublic(inside.getModifiers()));
        }
    }

    private static String signature(Method method) {
        StringBuilder text = new StringBuilder(method.getName()).append('(');
        for (Class<?> type : method.getParameterTypes()) {
            text.append(text.charAt(text.length() - 1) == '(' ? "" : ",").append(type.getName());
        }
        return text.append("):").append(method.getReturnType().getName()).toString();
    }

    private static void source() throws IOException {
        String source = Files.readString(Path.of("src/main/java/BookRental.java"));
        String code = source.replaceAll("(?s)/\\*.*?\\*/", "").replaceAll("//[^\n]*", "");
        String[] words = {"throw", "throws", "try", "catch", "finally", "synchronized", "assert", "import", "package",
            "protected", "hashCode", "equals", "toString", "double", "float", "Object", "System\\.(?!arraycopy)"};
        for (String word : words) {
            Due.isTrue("the class does without " + word, !Pattern.compile("\\b" + word + "\\b").matcher(code).find());
        }
        Due.isTrue("no lambda and no arrow", !code.contains("->") && !code.contains("::"));
        long made = code.lines().filter(line -> line.contains("new ") && !line.contains("private final")).count();
        Due.is("what is made beside the fields: the history's places", made, 1);
        Due.isTrue("plain signs alone", source.chars().allMatch(sign -> sign == '\n' || (sign >= 32 && sign < 127)));
    }
}

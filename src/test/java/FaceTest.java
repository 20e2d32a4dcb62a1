import java.lang.reflect.Constructor;
import java.lang.reflect.Field;
import java.lang.reflect.Method;
import java.lang.reflect.Modifier;
import java.util.ArrayList;
import java.util.Arrays;
import java.util.List;
import java.util.TreeSet;

/** The class has the document's face, and nothing else that can be seen from outside. */
public final class FaceTest {
    private static final String FACE = "areKin(int,int)boolean areOne(int,int)boolean at(int,int)int back()boolean "
            + "came(int,int)int canon(int,int,int)int close(int)int compare(int,int)int constant()int count(int)int "
            + "falls(int)boolean far(int,int)int fault()int feed(int,int,int,int,int)int free(int)int go(int,int)int "
            + "head(int,boolean,int)int image()void letter(int,int)int made(int,int,int)int make(int,int)int "
            + "meet(int,int,int)int overlap(int,int)int run(int,int,int)int said(int)int say()int "
            + "side(int,boolean,int)int step(int,int,int)int system(int)int take(int,int,int)int tell(int,int)int "
            + "tidy()int undo()int word(int,int)int";

    public static void main(String[] args) {
        TreeSet<String> face = new TreeSet<>();
        for (Method method : RewrittenWords.class.getDeclaredMethods()) {
            if (!Modifier.isPrivate(method.getModifiers()) && !method.isSynthetic()) {
                List<String> types = new ArrayList<>();
                for (Class<?> type : method.getParameterTypes()) {
                    types.add(type.getSimpleName());
                }
                face.add(method.getName() + "(" + String.join(",", types) + ")" + method.getReturnType());
                Check.due(method + " public", true, Modifier.isPublic(method.getModifiers()));
                Check.due(method + " static", false, Modifier.isStatic(method.getModifiers()));
            }
        }
        Check.due("face", new TreeSet<>(Arrays.asList(FACE.split(" "))), face);
        Constructor<?>[] constructors = RewrittenWords.class.getDeclaredConstructors();
        Check.due("constructors", 1, constructors.length);
        Check.due("constructor's arguments", 0, constructors[0].getParameterCount());
        Check.due("final", true, Modifier.isFinal(RewrittenWords.class.getModifiers()));
        Check.due("NONE", -1, RewrittenWords.NONE);
        for (Field field : RewrittenWords.class.getDeclaredFields()) {
            Check.due(field + " private", !field.getName().equals("NONE"), Modifier.isPrivate(field.getModifiers()));
        }
        Check.end("FaceTest");
    }
}

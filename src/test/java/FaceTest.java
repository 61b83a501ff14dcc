import java.lang.reflect.Constructor;
import java.lang.reflect.Field;
import java.lang.reflect.Member;
import java.lang.reflect.Method;
import java.lang.reflect.Modifier;
import java.util.Arrays;
import java.util.TreeMap;

/** The class shows what the document's public face says and nothing else (LANGUAGE.md, rule 1). */
public final class FaceTest {
    /** The methods with how many ints each takes; b: it answers a boolean. */
    private static final String FACE = "feed 5,text 1,fault 1,named 1,trader 2,asset 2,sale 3,buy 3,late 4,heads 3b,"
        + "acquire 4,use 2b,sell 3,hand 2,close 1,sum 3,provisional 2,recovered 2,annual 3,interval 3,taken 1,last 1,"
        + "booked 2,total 2,by 5,bestMethod 2,bestStep 2,joint 3,limitFor 2,byBasis 3,leader 1,rise 1,need 2,room 2,"
        + "would 2,bestWait 2,project 2,ifUse 2,owners 1,even 2,worth 1,tried 3,chance 3,farthest 1,undo 0,keep 0,"
        + "back 0,count 1";

    public static void main(String[] args) {
        Check check = new Check();
        TreeMap<String, String> due = new TreeMap<>();
        for (String one : FACE.split(",")) {
            due.put(one.split(" ")[0], one.split(" ")[1]);
        }
        for (Method method : ExemptDesk.class.getDeclaredMethods()) {
            String told = due.get(method.getName());
            if (told == null) {
                check.due(method + " is private", true, isHidden(method));
                check.due(method + " bears no public name", false, isPublicName(method.getName()));
                continue;
            }
            String shown = method.getParameterCount() + (method.getReturnType() == boolean.class ? "b" : "");
            check.due(method + " is as told", true, Modifier.isPublic(method.getModifiers()) && told.equals(shown)
                && Arrays.stream(method.getParameterTypes()).allMatch(type -> type == int.class)
                && (method.getReturnType() == boolean.class || method.getReturnType() == int.class)
                && !Modifier.isStatic(method.getModifiers()));
            check.due(method + " declares", method.getName().equals("trader") ? 2 : 0,
                method.getExceptionTypes().length);
            due.remove(method.getName());
        }
        check.due("methods that are missing: " + due.keySet(), 0, due.size());
        for (Field field : ExemptDesk.class.getDeclaredFields()) {
            check.due(field + " is private", true, isHidden(field) || field.getName().equals("NONE"));
        }
        check.due("NONE", -1, ExemptDesk.NONE);
        for (Class<?> inside : ExemptDesk.class.getDeclaredClasses()) {
            check.due(inside + " is seen from outside", 0, inside.getModifiers() & (Modifier.PUBLIC | Modifier.PROTECTED));
            check.due(inside + " is static", true, Modifier.isStatic(inside.getModifiers()));
        }
        for (Constructor<?> constructor : ExemptDesk.class.getDeclaredConstructors()) {
            check.due("constructor takes nothing", 0, constructor.getParameterCount());
            check.due("constructor is public", true, Modifier.isPublic(constructor.getModifiers()));
        }
        check.due("final", true, Modifier.isFinal(ExemptDesk.class.getModifiers()));
        check.end();
    }

    private static boolean isPublicName(String name) {
        return Arrays.stream(FACE.split(",")).anyMatch(one -> one.split(" ")[0].equals(name));
    }

    private static boolean isHidden(Member member) {
        return Modifier.isPrivate(member.getModifiers()) || member.isSynthetic();
    }
}

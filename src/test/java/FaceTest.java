import java.lang.reflect.Constructor;
import java.lang.reflect.Field;
import java.lang.reflect.Method;
import java.lang.reflect.Modifier;
import java.util.Arrays;
import java.util.TreeSet;

/** The class has the document's face and no other. */
public final class FaceTest {
    private static final String[] FACE = {
        "int feed(int)", "int mill()", "int lawOf(int,int)", "int pockets(int)", "int law(int,int,int)",
        "int person(int)", "int takes(int,int)", "int brings(int,int)", "int turn(int,int,int)", "int clears()",
        "int day()", "int back()", "int at(int,int,int)", "int done(int,int)", "int when(int,int)",
        "int instead(int,int,int)", "int stopped(int,int)", "int allStopped(int,int)", "int agrees(int,int)",
        "int bring(int,int)", "int empty(int)", "int had(int)", "long inIt(int,int)", "int feel(int)",
        "int which(int,int,int)", "int tray(int)", "int onTray(int)", "int guard(int,int)", "int rounds()",
        "long chance(int,int,int,int)", "int idle(int,int)", "int never(int)", "int alike(int)",
        "int dropped(int)", "int key(int)", "int latest(int,int)", "int needed(int,int)",
        "int trade(int,int,int)", "int earliest(int,int)", "int safe(int)", "long adds(int,int,int)",
        "int ways(int,int)", "int behind(int,int)", "int give(int,int)", "int ever(int,int)", "int row(int)",
        "int judge(int)", "int clear()", "int lots(int,int,int)", "int image()", "int restore()", "int count(int)"
    };

    public static void main(String[] args) {
        Class<?> face = SearchedAtTheGate.class;
        TreeSet<String> found = new TreeSet<>();
        TreeSet<String> names = new TreeSet<>();
        for (Method method : face.getDeclaredMethods()) {
            if (Modifier.isPrivate(method.getModifiers())) continue;
            Check.due(method + " is public", Modifier.toString(method.getModifiers()).equals("public") ? 1 : 0, 1);
            StringBuilder text = new StringBuilder(method.getReturnType() + " " + method.getName() + "(");
            for (Class<?> type : method.getParameterTypes()) text.append(text.charAt(text.length() - 1) == '(' ? "" : ",").append(type);
            found.add(text.append(")").toString());
            names.add(method.getName());
        }
        TreeSet<String> due = new TreeSet<>(Arrays.asList(FACE));
        if (!found.equals(due)) System.out.println("found " + found + ", due is " + due);
        Check.due("the methods", found.equals(due) ? 1 : 0, 1);
        for (Method method : face.getDeclaredMethods()) {
            if (Modifier.isPrivate(method.getModifiers())) Check.due("private " + method, names.contains(method.getName()) ? 1 : 0, 0);
        }
        for (Field field : face.getDeclaredFields()) {
            Check.due(field + " is private", Modifier.isPrivate(field.getModifiers()) ? 1 : 0, 1);
        }
        Constructor<?>[] constructors = face.getDeclaredConstructors();
        Check.due("constructors", constructors.length, 1);
        Check.due("the constructor's parameters", constructors[0].getParameterCount(), 0);
        Check.due("it is final", Modifier.isFinal(face.getModifiers()) ? 1 : 0, 1);
        Check.end();
    }
}

import java.lang.reflect.Method;
import java.lang.reflect.Modifier;
import java.util.Set;
import java.util.TreeSet;

/** The face has just the members that the document names. */
public final class FaceTest {
    public static void main(String[] args) {
        Set<String> due = new TreeSet<>(Set.of(
            "int feed(int,int,int,int,int)", "int text(int)", "int fault()", "int ticks(int)", "int cut(int)",
            "int heal()", "int fall(int)", "int rise(int)", "int rule(int,int)", "int undo()", "int told(int)",
            "int member(int,int)", "int units(int,int,int)", "int job(int,int)", "boolean link(int,int)",
            "int letter(int,int)", "int sent(int,int)", "int tally(int,int)", "int change(int,int)", "int chiefs()",
            "int ranked(int,int)", "int until()", "int untilBy(int)", "int hardest(int)", "int untilRule(int,int)",
            "int untilLinks(int,int)", "int ahead(int,int)", "int storms(int,int,int)", "long print()",
            "int status(int)"));
        Set<String> there = new TreeSet<>();
        Set<String> open = new TreeSet<>();
        Set<String> closed = new TreeSet<>();
        int wrong = 0;
        for (Method method : ChiefCircles.class.getDeclaredMethods()) {
            if (Modifier.isPublic(method.getModifiers())) {
                StringBuilder sb = new StringBuilder();
                sb.append(method.getReturnType()).append(' ').append(method.getName()).append('(');
                for (int k = 0; k < method.getParameterCount(); k++) {
                    sb.append(k > 0 ? "," : "").append(method.getParameterTypes()[k]);
                }
                there.add(sb.append(')').toString());
                open.add(method.getName());
            } else {
                closed.add(method.getName());
                wrong += report(!Modifier.isPrivate(method.getModifiers()), "not private: " + method);
            }
        }
        for (Class<?> inside : ChiefCircles.class.getDeclaredClasses()) {
            for (Method method : inside.getDeclaredMethods()) {
                closed.add(method.getName());
            }
            wrong += report(!Modifier.isStatic(inside.getModifiers()), "not static: " + inside);
        }
        wrong += report(!there.equals(due), "methods are " + there + ", due are " + due);
        closed.retainAll(open);
        wrong += report(!closed.isEmpty(), "names of the face inside: " + closed);
        for (var field : ChiefCircles.class.getDeclaredFields()) {
            boolean named = field.getName().equals("NONE");
            wrong += report(named != Modifier.isPublic(field.getModifiers()), "field: " + field);
            wrong += report(!named && !Modifier.isPrivate(field.getModifiers()), "not private: " + field);
        }
        wrong += report(ChiefCircles.NONE != -1, "NONE");
        wrong += report(ChiefCircles.class.getDeclaredConstructors().length != 1, "constructors");
        wrong += report(!Modifier.isFinal(ChiefCircles.class.getModifiers()), "not final");
        System.exit(wrong == 0 ? 0 : 1);
    }

    private static int report(boolean bad, String text) {
        if (bad) {
            System.out.println(text);
        }
        return bad ? 1 : 0;
    }
}

import java.lang.reflect.Method;
import java.lang.reflect.Modifier;
import java.util.TreeSet;

/** The public face is the document's and no other; a new object is empty (promise 1). */
public final class FaceTest {
    private static final String[] FACE = {
        "int seconds(int)", "int rack(int,int,int)", "boolean outlet(int,int,int,int,int)", "boolean zone(int,int)",
        "int line(int,int,int)", "boolean out(int,boolean)", "boolean faulty(int,boolean)", "int lift(int)",
        "int dial(int,int)", "boolean answer(int)", "int end(int)", "int feed(long,long,long)", "int tariff()",
        "boolean word(int,int)", "int bill(int,int,int,int)", "int would(int,int,int)",
        "int block(int,int,int,int,int,int)", "int laid(int,int,int,int)", "int lost(int,int,int)",
        "int more(int,int,int,int)", "int test(int,int,int)", "int explain(int)", "int sure(int)", "int forget()",
        "int look(int,int)", "int path(int,int)", "int held(int)", "int book(int,int)", "int count(int)"};

    public static void main(String[] args) {
        Class<?> type = TownExchange.class;
        TreeSet<String> want = new TreeSet<>(java.util.List.of(FACE));
        TreeSet<String> got = new TreeSet<>();
        TreeSet<String> publicNames = new TreeSet<>();
        for (Method m : type.getDeclaredMethods()) {
            if (!Modifier.isPrivate(m.getModifiers()) && !m.isSynthetic()) {
                got.add(signature(m));
                publicNames.add(m.getName());
            }
        }
        Due.is("methods " + got, got.equals(want), true);
        for (Method m : type.getDeclaredMethods()) {
            if (Modifier.isPrivate(m.getModifiers())) {
                Due.is("private " + m.getName() + " has a public name", publicNames.contains(m.getName()), false);
            }
        }
        Due.is("public final", Modifier.isFinal(type.getModifiers()) && Modifier.isPublic(type.getModifiers()), true);
        Due.is("constructors", type.getConstructors().length, 1);
        Due.is("public fields", type.getFields().length, 1);
        Due.is("NONE", TownExchange.NONE, -1);

        TownExchange x = new TownExchange();
        for (int what = 0; what <= 12; what++) {
            Due.is("new: count(" + what + ")", x.count(what), 0);
        }
        Due.is("new: lift(0)", x.lift(0), -1);
        Due.is("new: book(0, 0)", x.book(0, 0), -1);
        Due.is("new: explain(0)", x.explain(0), 0);
        Due.is("new: held(0)", x.held(0), -1);
        Due.is("new: held(100)", x.held(100), -1);
        Due.finish("FaceTest");
    }

    private static String signature(Method m) {
        StringBuilder text = new StringBuilder(m.getReturnType().getName()).append(' ').append(m.getName()).append('(');
        for (int i = 0; i < m.getParameterTypes().length; i++) {
            text.append(i == 0 ? "" : ",").append(m.getParameterTypes()[i].getName());
        }
        return text.append(')').toString();
    }
}

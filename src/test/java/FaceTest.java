import java.lang.reflect.Constructor;
import java.lang.reflect.Field;
import java.lang.reflect.Method;
import java.lang.reflect.Modifier;
import java.util.Arrays;
import java.util.HashSet;
import java.util.Set;
import java.util.TreeSet;

/** The public face is that of the document and no more, and no argument makes a call throw. */
public final class FaceTest {
    private static final String[] CALLS = {
        "int type(int)", "int wipe()", "int fault()", "int undo()", "int bidder(int,int,int)",
        "int value(int,int,int)", "int joy(int,int,int)", "int evening(int,int,int)", "int set(int,int)",
        "int busy(int,int,int)", "int read(int,int)", "int holds(int)", "int judged()", "int owner(int)",
        "int price(int)", "int has(int,int)", "int happy(int)", "int wet(int,int)", "int harm(int)",
        "int gain(int)", "int without(int,int)", "int meet(int,int,int)", "int each(int)", "int pays(int)",
        "int club(int)", "long share(int,int)", "int rather(int)", "int seen(int,int)", "int forget()",
        "int owners(int)", "long worth(int,int,int)", "int swap(int,int)", "int sheet(int,int,int)",
        "int lose(int)", "int lay(int,int,int,int)", "int get(int,int,int)", "int copy(int,int,int,int,int)",
        "int write(int)", "int count(int)", "long digest()"};
    private static final Due due = new Due("FaceTest");

    public static void main(String[] args) throws Exception {
        constants();
        methods();
        classesInside();
        anyArguments();
        due.finish();
    }

    private static void constants() {
        due.is("NONE", EveningAuction.NONE, -1);
        due.is("BAD", EveningAuction.BAD, -2);
        due.is("NOT", EveningAuction.NOT, -3);
        due.is("FULL", EveningAuction.FULL, -4);
        int open = 0;
        for (Field field : EveningAuction.class.getDeclaredFields()) {
            int m = field.getModifiers();
            open += Modifier.isPrivate(m) ? 0 : 1;
            boolean changing = Modifier.isStatic(m) && !Modifier.isFinal(m);
            due.is("static state in " + field.getName(), changing ? 1 : 0, 0);
        }
        due.is("fields that are not private", open, 4);
    }

    private static void methods() {
        due.is("public and final", EveningAuction.class.getModifiers(), Modifier.PUBLIC | Modifier.FINAL);
        Set<String> face = new TreeSet<>();
        Set<String> names = new HashSet<>();
        for (Method method : EveningAuction.class.getDeclaredMethods()) {
            if (!Modifier.isPrivate(method.getModifiers())) {
                String of = Arrays.toString(method.getParameterTypes()).replace(" ", "");
                String in = of.substring(1, of.length() - 1);
                face.add(method.getReturnType() + " " + method.getName() + "(" + in + ")");
                names.add(method.getName());
            }
        }
        Set<String> want = new TreeSet<>(Arrays.asList(CALLS));
        if (!face.equals(want)) {
            System.out.println("the face is " + face);
        }
        due.is("the face is the document's", face.equals(want) ? 1 : 0, 1);
        for (Method method : EveningAuction.class.getDeclaredMethods()) {
            boolean hidden = Modifier.isPrivate(method.getModifiers());
            due.is("private " + method.getName(), hidden && names.contains(method.getName()) ? 1 : 0, 0);
        }
        Constructor<?>[] makers = EveningAuction.class.getDeclaredConstructors();
        due.is("constructors", makers.length, 1);
        due.is("public constructor", makers[0].getModifiers(), Modifier.PUBLIC);
        due.is("constructor's parameters", makers[0].getParameterCount(), 0);
    }

    private static void classesInside() {
        Class<?>[] inside = EveningAuction.class.getDeclaredClasses();
        due.is("at most twelve classes", inside.length + 1 <= 12 ? 1 : 0, 1);
        Set<String> face = new HashSet<>();
        for (String call : CALLS) {
            face.add(call.substring(call.indexOf(' ') + 1, call.indexOf('(')));
        }
        for (Class<?> one : inside) {
            due.is("static " + one.getName(), Modifier.isStatic(one.getModifiers()) ? 1 : 0, 1);
            due.is("not public " + one.getName(), Modifier.isPublic(one.getModifiers()) ? 1 : 0, 0);
            due.is("fields of " + one.getName(), one.getDeclaredFields().length <= 20 ? 1 : 0, 1);
            for (Method method : one.getDeclaredMethods()) {
                due.is("a call's name " + method.getName(), face.contains(method.getName()) ? 1 : 0, 0);
            }
        }
    }

    /** Every call with every row of odd and plain numbers, in a state with and one without bids. */
    private static void anyArguments() throws Exception {
        int[] odd = {0, 1, 2, 3, 4, 5, 9, 10, 60, 61, -1, -2, Integer.MIN_VALUE, Integer.MAX_VALUE};
        EveningAuction[] states = {new EveningAuction(), Due.withBids("0010;1120;0030;9499")};
        states[1].sheet(0, 2, 60);
        states[1].sheet(1, 0, 3);
        java.util.Random random = new java.util.Random(1);
        for (Method method : EveningAuction.class.getDeclaredMethods()) {
            if (Modifier.isPublic(method.getModifiers())) {
                for (int n = 0; n < 3000; n++) {
                    Object[] row = new Object[method.getParameterCount()];
                    for (int i = 0; i < row.length; i++) {
                        row[i] = odd[random.nextInt(odd.length)];
                    }
                    method.invoke(states[n % 2], row);
                }
            }
        }
        due.is("no call has thrown", 0, 0);
    }
}

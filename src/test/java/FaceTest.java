import java.lang.reflect.Constructor;
import java.lang.reflect.Field;
import java.lang.reflect.Member;
import java.lang.reflect.Method;
import java.lang.reflect.Modifier;
import java.util.Random;
import java.util.Set;
import java.util.TreeSet;

/** The public face, the rules of LANGUAGE.md about members, and that no call ever throws. */
public final class FaceTest {
    private static final Set<String> FACE = Set.of("int code()", "int which()", "int range(int,int)",
            "int shapeless()", "int make(int)", "int raw(int,int)", "int see(int)", "int turn(int)",
            "int cut(int)", "int deep(int)", "int flat(int)", "int ragged(int,int,int)",
            "int without(int,int)", "int tie(int,int,int,int)", "long get(int,int,int,int)",
            "int put(int,int,int,int,long)", "int empty(int,int,int,int)", "int pair(int,int,int,long)",
            "int gather(int,int)", "int join(int,int,int)", "long sum(int)", "long mean(int)",
            "int about(int,int)", "int same(int,int)", "int compare(int,int)", "int clear()");
    private static final int[] EDGES = {Integer.MIN_VALUE, -1, 0, 1, 2, 3, 4, 5, 100, 499, 500,
            Integer.MAX_VALUE - 1, Integer.MAX_VALUE};
    private static boolean wrong = false;

    private static void check(boolean right, String told) {
        if (!right) {
            wrong = true;
            System.out.println(told);
        }
    }

    private static String signature(Method method) {
        StringBuilder text = new StringBuilder(method.getReturnType().getName());
        text.append(' ').append(method.getName()).append('(');
        String comma = "";
        for (Class<?> type : method.getParameterTypes()) {
            text.append(comma).append(type.getName());
            comma = ",";
        }
        return text.append(')').toString();
    }

    private static boolean isPublic(Member member) {
        return Modifier.isPublic(member.getModifiers());
    }

    private static void face() throws ReflectiveOperationException {
        Class<?> type = ArrayMaker.class;
        check(isFinalAndPublic(type), "the class is not public and final");
        Set<String> found = new TreeSet<>();
        Set<String> names = new TreeSet<>();
        for (Method method : type.getDeclaredMethods()) {
            if (isPublic(method)) {
                found.add(signature(method));
                names.add(method.getName());
            }
        }
        check(found.equals(new TreeSet<>(FACE)), "the methods are " + found);
        for (Method method : type.getDeclaredMethods()) {
            boolean hidden = Modifier.isPrivate(method.getModifiers());
            check(hidden || isPublic(method), method + " is neither public nor private");
            check(!hidden || !names.contains(method.getName()), method + " bears a public name");
        }
        check(type.getDeclaredConstructors().length == 1, "there is more than one constructor");
        for (Constructor<?> constructor : type.getDeclaredConstructors()) {
            check(isPublic(constructor) && constructor.getParameterCount() == 0, constructor + " is another one");
        }
        for (Field field : type.getDeclaredFields()) {
            boolean constant = field.getName().equals("NONE") || field.getName().equals("OUTSIDE");
            check(isPublic(field) == constant, field + " is not as the face has it");
            check(constant || Modifier.isPrivate(field.getModifiers()), field + " is not private");
        }
        check(type.getField("NONE").getInt(null) == -1, "NONE is not -1");
        check(type.getField("OUTSIDE").getInt(null) == -2000000001, "OUTSIDE is not -2000000001");
    }

    private static boolean isFinalAndPublic(Class<?> type) {
        return Modifier.isFinal(type.getModifiers()) && Modifier.isPublic(type.getModifiers());
    }

    private static void classesInside() {
        Class<?>[] inside = ArrayMaker.class.getDeclaredClasses();
        check(inside.length < 12, "there are too many classes");
        for (Class<?> type : inside) {
            int modifiers = type.getModifiers();
            check(Modifier.isStatic(modifiers), type + " is not static");
            check(!Modifier.isPublic(modifiers) && !Modifier.isProtected(modifiers), type + " is public");
            for (Field field : type.getDeclaredFields()) {
                boolean fixed = Modifier.isFinal(field.getModifiers());
                check(fixed || !Modifier.isStatic(field.getModifiers()), field + " is static state");
            }
        }
    }

    private static Object drawn(Class<?> type, Random random) {
        int edge = EDGES[random.nextInt(EDGES.length)];
        int number = random.nextBoolean() ? edge : random.nextInt(5) - 1;
        if (type == long.class) {
            return random.nextBoolean() ? (long) number : random.nextLong();
        }
        return number;
    }

    /** Far more calls than the 512 that have promised answers: still none of them throws. */
    private static void neverThrows() {
        Method[] methods = ArrayMaker.class.getDeclaredMethods();
        for (int seed = 0; seed < 20; seed++) {
            Random random = new Random(seed);
            ArrayMaker x = new ArrayMaker();
            for (int n = 0; n < 20000; n++) {
                Method method = methods[random.nextInt(methods.length)];
                boolean clears = method.getName().equals("clear");
                if (isPublic(method) && (!clears || random.nextInt(50) == 0)) {
                    callOnce(x, method, random);
                }
            }
        }
    }

    private static void callOnce(ArrayMaker x, Method method, Random random) {
        Class<?>[] types = method.getParameterTypes();
        Object[] arguments = new Object[types.length];
        for (int p = 0; p < types.length; p++) {
            arguments[p] = drawn(types[p], random);
        }
        try {
            method.invoke(x, arguments);
        } catch (ReflectiveOperationException thrown) {
            check(false, method + " threw " + thrown.getCause());
        }
    }

    /** Each call that makes a row, where the store is just full, nearly full and more. */
    private static void growingStore() {
        for (int rows = 0; rows < 140; rows++) {
            for (int call = 0; call < 7; call++) {
                ArrayMaker x = new ArrayMaker();
                x.raw(1, 1);
                x.range(0, 0);
                x.range(0, 0);
                int square = x.see(0);
                x.put(square, 0, 0, 0, 7);
                x.range(1, rows);
                x.range(1, 1);
                int table = x.make(4);
                x.range(0, 0);
                x.range(0, 0);
                boolean done = switch (call) {
                    case 0 -> x.make(1) == 3;
                    case 1 -> x.raw(1, 1) == 3;
                    case 2 -> x.turn(square) == 3 && x.sum(3) == 7;
                    case 3 -> x.cut(square) == 3 && x.sum(3) == 7;
                    case 4 -> x.deep(square) == 3 && x.sum(3) == 7;
                    case 5 -> x.flat(table) == 3 && x.about(3, 2) == rows;
                    default -> rows == 0 || x.ragged(table, rows, 2) == 1;
                };
                check(done && x.code() == 0 && x.get(square, 0, 0, 0) == 7, "call " + call + " behind " + rows + " rows");
            }
        }
    }

    /** A table's rows made anew until the store refuses them, then everything else. */
    private static void fullStore() {
        ArrayMaker x = new ArrayMaker();
        x.raw(2, 1);
        x.range(0, 1);
        x.range(0, 1);
        int table = x.make(4);
        for (int n = 0; n < 20000; n++) {
            x.ragged(table, n % 2, n % 101);
        }
        x.put(table, 0, 0, 0, 5);
        for (int n = 0; n < 30; n++) {
            x.raw(0, 500);
            x.flat(table);
            x.deep(0);
        }
        check(x.clear() >= 2, "clear() of a full store");
        check(x.raw(0, 500) == 0 && x.code() == 0, "raw behind clear() of a full store");
    }

    public static void main(String[] args) throws ReflectiveOperationException {
        face();
        classesInside();
        neverThrows();
        growingStore();
        fullStore();
        System.out.println(wrong ? "the face is not as due" : "the face is as due");
        if (wrong) {
            System.exit(1);
        }
    }
}

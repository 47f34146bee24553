import java.lang.reflect.Field;
import java.lang.reflect.Member;
import java.lang.reflect.Method;
import java.lang.reflect.Modifier;
import java.util.ArrayList;
import java.util.Arrays;
import java.util.Collections;
import java.util.List;
import java.util.Random;

/** The public face is that of the document, and no call of it ever throws, whatever it is given. */
public final class FaceTest {
    private static final String[] FACE = {
        "int row(int, int, int)", "int set(int, int, long)", "int copy(int, int, int, int, int)",
        "long element(int, int)", "int holds(int)", "int show(int, int)", "int says(int, int)", "int feed(int)",
        "int wipe()", "int sky()", "int keeper(int)", "int plan(int, int)", "int plans(int)", "int tell(int, int)",
        "int boat(int, int)", "int ship(int, int)", "int pass(int)", "int weather(int)", "int dark(int)",
        "int keeperOf(int, int)", "int shipOf(int, int)", "int shipAt(int, int)", "int many(int, int)",
        "int log(int, int)", "int logged(int)", "int difference(int, int)", "int differences(int)", "int unlit()",
        "int would(int, int)", "int fails()", "int comes()", "int oil(int)", "int better(int, int)",
        "int other(int, int)", "int idle(int)", "int judge(int, int, int)", "int days(int)", "int seed(int)",
        "int image()", "int back()", "int status(int)",
    };
    private static final int[] EDGES = {Integer.MIN_VALUE, -1000000, -2, -1, 0, 1, 2, 3, 4, 5, 6, 7, 8, 19, 20, 23, 24,
        39, 40, 60, 99, 102, 115, 200, 201, 399, 400, 999, 9999, 10000, 1000000, Integer.MAX_VALUE};

    public static void main(String[] args) throws Exception {
        face();
        noOtherMembers();
        neverThrows();
        longPastTheLastCall();
        Check.end();
    }

    private static void face() {
        List<String> found = new ArrayList<>();
        for (Method method : KeptLight.class.getDeclaredMethods()) {
            if (Modifier.isPublic(method.getModifiers())) {
                found.add(said(method));
            }
        }
        List<String> wanted = new ArrayList<>(Arrays.asList(FACE));
        Collections.sort(found);
        Collections.sort(wanted);
        Check.due("the face " + found, found.equals(wanted) ? 1 : 0, 1);
        Check.due("NONE", KeptLight.NONE, -1);
        Check.due("final", Modifier.isFinal(KeptLight.class.getModifiers()) ? 1 : 0, 1);
        Check.due("constructors", KeptLight.class.getConstructors().length, 1);
    }

    private static String said(Method method) {
        StringBuilder text = new StringBuilder(method.getReturnType() + " " + method.getName() + "(");
        for (Class<?> type : method.getParameterTypes()) {
            text.append(text.charAt(text.length() - 1) == '(' ? "" : ", ").append(type);
        }
        return text.append(")").toString();
    }

    private static void noOtherMembers() {
        List<Member> members = new ArrayList<>(Arrays.asList(KeptLight.class.getDeclaredFields()));
        members.addAll(Arrays.asList(KeptLight.class.getDeclaredMethods()));
        List<String> names = new ArrayList<>();
        for (String call : FACE) {
            names.add(call.substring(call.indexOf(' ') + 1, call.indexOf('(')));
        }
        for (Member member : members) {
            boolean isPublic = Modifier.isPublic(member.getModifiers());
            boolean isPrivate = Modifier.isPrivate(member.getModifiers());
            Check.due(member + " is public or private", isPublic || isPrivate ? 1 : 0, 1);
            if (member instanceof Field) {
                Check.due(member + " is public", isPublic ? 1 : 0, member.getName().equals("NONE") ? 1 : 0);
            } else if (isPrivate) {
                Check.due(member + " bears a public name", names.contains(member.getName()) ? 1 : 0, 0);
            }
        }
    }

    private static void neverThrows() throws Exception {
        List<Method> face = new ArrayList<>();
        for (Method method : KeptLight.class.getDeclaredMethods()) {
            if (Modifier.isPublic(method.getModifiers())) {
                face.add(method);
            }
        }
        face.sort((a, b) -> a.getName().compareTo(b.getName()));
        for (int run = 0; run < 60; run++) {
            Random random = new Random(run);
            KeptLight light = new KeptLight();
            for (int call = 0; call < 2000; call++) {
                Method method = face.get(random.nextInt(face.size()));
                Class<?>[] types = method.getParameterTypes();
                Object[] given = new Object[types.length];
                for (int i = 0; i < given.length; i++) {
                    int edge = EDGES[random.nextInt(EDGES.length)];
                    given[i] = types[i] == long.class ? (Object) (long) edge : (Object) edge;
                }
                try {
                    method.invoke(light, given);
                } catch (java.lang.reflect.InvocationTargetException thrown) {
                    Check.due(method.getName() + Arrays.toString(given) + " threw " + thrown.getCause(), 1, 0);
                }
            }
        }
    }

    /** What is answered then is free, but nothing is thrown. */
    private static void longPastTheLastCall() {
        KeptLight light = new KeptLight();
        light.keeper(2);
        light.row(0, 0, 24);
        light.plans(0);
        for (int call = 0; call < 20000; call++) {
            light.pass(200);
            light.days(60);
        }
        Check.due("status(7)", light.status(7), 400);
        Check.due("status(6)", light.status(6), 200);
        Check.due("status(0)", light.status(0), 20000 * 260);
    }
}

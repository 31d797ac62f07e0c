import java.io.IOException;
import java.lang.reflect.Constructor;
import java.lang.reflect.Field;
import java.lang.reflect.Member;
import java.lang.reflect.Method;
import java.lang.reflect.Modifier;
import java.nio.file.Files;
import java.nio.file.Path;
import java.util.ArrayList;
import java.util.Arrays;
import java.util.HashSet;
import java.util.List;
import java.util.Set;
import java.util.TreeSet;

/** 'The public face' of the document, rules 1 and 5 of LANGUAGE.md on it, and that README.md has each call and a true example. */
public final class FaceTest extends Checks {
    private static final String[] METHODS = {
        "folder 2", "file 2", "hide 2", "link 3", "data 3", "owner 3", "clear 0", "build 1", "feed 5", "end 1", "load 0",
        "drop 0", "out 2", "image 2", "same 2", "node 3", "over 1", "bare 0", "look 2", "list 2", "view 2", "read 2", "count 1"
    };

    public static void main(String[] args) throws IOException {
        theClass();
        methods();
        constants();
        nothingElseIsSeen();
        privateNames();
        staticState();
        readmeNamesEachCall();
        readmeExample();
        finish();
    }

    private static void theClass() {
        int modifiers = TreeImages.class.getModifiers();
        dueTrue("the class is public and final", Modifier.isPublic(modifiers) && Modifier.isFinal(modifiers));
        dueTrue("the class has no package", TreeImages.class.getPackageName().isEmpty());
        dueTrue("it is above none and implements none",
                TreeImages.class.getSuperclass() == Object.class && TreeImages.class.getInterfaces().length == 0);
        Constructor<?>[] constructors = TreeImages.class.getDeclaredConstructors();
        due("constructors", constructors.length, 1);
        due("parameters of the constructor", constructors[0].getParameterCount(), 0);
        dueTrue("the constructor is public", Modifier.isPublic(constructors[0].getModifiers()));
    }

    private static void methods() {
        Set<String> seen = new TreeSet<>();
        for (Method method : TreeImages.class.getDeclaredMethods()) {
            if (Modifier.isPublic(method.getModifiers())) {
                seen.add(method.getName() + " " + method.getParameterCount());
                dueTrue(method + " is of int alone", isOfInts(method));
                dueTrue(method + " is no static one", !Modifier.isStatic(method.getModifiers()));
                Class<?>[] thrown = method.getExceptionTypes();
                boolean tells = thrown.length == 1 && thrown[0] == ArrayIndexOutOfBoundsException.class;
                dueTrue(method + " tells what it throws", method.getName().equals("out") ? tells : thrown.length == 0);
            }
        }
        dueText("public methods", seen.toString(), new TreeSet<>(Arrays.asList(METHODS)).toString());
    }

    private static boolean isOfInts(Method method) {
        boolean ints = method.getReturnType() == int.class;
        for (Class<?> parameter : method.getParameterTypes()) {
            ints = ints && parameter == int.class;
        }
        return ints;
    }

    /** 'NONE = 0, UNKNOWN = -1, OUTSIDE = -2, STATE = -3, ROOM = -4' */
    private static void constants() {
        Set<String> seen = new TreeSet<>();
        for (Field field : TreeImages.class.getDeclaredFields()) {
            int modifiers = field.getModifiers();
            if (Modifier.isPublic(modifiers)) {
                seen.add(field.getName());
                dueTrue(field + " is a constant of int",
                        Modifier.isStatic(modifiers) && Modifier.isFinal(modifiers) && field.getType() == int.class);
            }
        }
        dueText("public fields", seen.toString(), "[NONE, OUTSIDE, ROOM, STATE, UNKNOWN]");
        due("NONE", TreeImages.NONE, 0);
        due("UNKNOWN", TreeImages.UNKNOWN, -1);
        due("OUTSIDE", TreeImages.OUTSIDE, -2);
        due("STATE", TreeImages.STATE, -3);
        due("ROOM", TreeImages.ROOM, -4);
    }

    /** Rule 1: 'no other public, protected or package-visible member, but for the classes inside it' */
    private static void nothingElseIsSeen() {
        List<Member> members = new ArrayList<>(Arrays.asList(TreeImages.class.getDeclaredFields()));
        members.addAll(Arrays.asList(TreeImages.class.getDeclaredMethods()));
        for (Member member : members) {
            int modifiers = member.getModifiers();
            dueTrue(member + " is public or private",
                    member.isSynthetic() || Modifier.isPublic(modifiers) || Modifier.isPrivate(modifiers));
        }
        for (Class<?> inside : TreeImages.class.getDeclaredClasses()) {
            int modifiers = inside.getModifiers();
            dueTrue(inside + " is static, private or package-visible", Modifier.isStatic(modifiers)
                    && !Modifier.isPublic(modifiers) && !Modifier.isProtected(modifiers));
        }
    }

    /** Rule 1: 'No private method bears the name of a public one.' */
    private static void privateNames() {
        Set<String> names = faceNames();
        for (Class<?> inside : allClasses()) {
            for (Method method : inside.getDeclaredMethods()) {
                boolean ofFace = inside == TreeImages.class && Modifier.isPublic(method.getModifiers());
                dueTrue(method + " has a name of its own", ofFace || !names.contains(method.getName()));
            }
        }
    }

    /** Rule 5: 'Static fields are final' */
    private static void staticState() {
        for (Class<?> inside : allClasses()) {
            for (Field field : inside.getDeclaredFields()) {
                int modifiers = field.getModifiers();
                dueTrue(field + " is final, if it is static", !Modifier.isStatic(modifiers) || Modifier.isFinal(modifiers));
            }
        }
    }

    private static void readmeNamesEachCall() throws IOException {
        String readme = Files.readString(Path.of("README.md"));
        for (String name : faceNames()) {
            dueTrue("README.md has a row for " + name, readme.contains("| `" + name + "("));
        }
        dueTrue("README.md names the document", readme.contains("../shared/DOC.md"));
        dueTrue("README.md names .ci/run", readme.contains("`.ci/run`"));
    }

    /** Each line of the example of README.md, with the answer that it tells. */
    private static void readmeExample() {
        TreeImages images = new TreeImages();
        int folder = images.folder(0, 3);
        due("README: folder", folder, 1);
        int file = images.file(folder, 9);
        due("README: file", file, 2);
        due("README: data", images.data(file, 7, 10), 10);
        int image = images.build(8);
        due("README: build", image, 0);
        due("README: out", images.out(image, 0), 84);
        due("README: over", images.over(image), 1);
        int inside = images.look(0, 3);
        due("README: look at the folder", inside, 1);
        int view = images.look(inside, 9);
        due("README: look at the file", view, 2);
        due("README: read", images.read(view, 4), 7);
        due("README: read beyond", images.read(view, 10), OUTSIDE);
    }

    private static Set<String> faceNames() {
        Set<String> names = new HashSet<>();
        for (String method : METHODS) {
            names.add(method.substring(0, method.indexOf(' ')));
        }
        return names;
    }

    private static List<Class<?>> allClasses() {
        List<Class<?>> all = new ArrayList<>(Arrays.asList(TreeImages.class.getDeclaredClasses()));
        all.add(TreeImages.class);
        return all;
    }

    private static void dueTrue(String what, boolean holds) {
        due(what + " (1 it holds, 0 not)", holds ? 1 : 0, 1);
    }

    private static void dueText(String what, String got, String want) {
        due(what + " are " + got + " and not " + want + " (1 they differ)", got.equals(want) ? 0 : 1, 0);
    }
}

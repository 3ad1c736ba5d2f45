import java.lang.reflect.Field;
import java.lang.reflect.Method;
import java.lang.reflect.Modifier;
import java.util.Arrays;
import java.util.Set;
import java.util.TreeSet;

/** Promise 1, a new object, and the face that LANGUAGE.md's rule 1 asks for. */
public final class FaceTest {
    private static final Set<String> FACE = new TreeSet<>(Arrays.asList(
            "int domain(int,boolean)", "int home(int)", "boolean silent(int,boolean)",
            "int host(int,int,int)", "int rule(int,int,int,int,int)", "boolean key(int,int,int)",
            "boolean policy(int,int,int,int,int)", "boolean mail(int,int,int)", "int header(int)",
            "int type(int,long,int)", "int length(int,boolean)", "int sign(int,int,int,int,int)",
            "boolean spoil(int,int)", "int signature(int)", "int sender()", "int counted(int)",
            "int chain()", "int link(int,int)", "int judge(int)", "int row(int,int)", "int tick(int)"));

    public static void main(String[] args) {
        constants();
        members();
        aNewObject();
        objectsAreApart();
        Due.end();
    }

    private static void constants() {
        Due.is("NONE", MailArbiter.NONE, -1);
        Due.is("FULL", MailArbiter.FULL, -2);
    }

    private static void members() {
        Set<String> seen = new TreeSet<>();
        Set<String> names = new TreeSet<>();
        for (Method m : MailArbiter.class.getDeclaredMethods()) {
            if (!Modifier.isPrivate(m.getModifiers())) {
                seen.add(signatureOf(m));
                names.add(m.getName());
            }
        }
        Due.is("the face is " + seen, seen.equals(FACE), true);
        for (Method m : MailArbiter.class.getDeclaredMethods()) {
            if (Modifier.isPrivate(m.getModifiers())) {
                Due.is("private " + m.getName() + " has a public name", names.contains(m.getName()), false);
            }
        }
        for (Field f : MailArbiter.class.getDeclaredFields()) {
            boolean constant = f.getName().equals("NONE") || f.getName().equals("FULL");
            Due.is(f.getName() + " is private", Modifier.isPrivate(f.getModifiers()), !constant);
        }
        for (Class<?> c : MailArbiter.class.getDeclaredClasses()) {
            Due.is(c.getName() + " is static", Modifier.isStatic(c.getModifiers()), true);
        }
        Due.is("the class is final", Modifier.isFinal(MailArbiter.class.getModifiers()), true);
        Due.is("constructors", MailArbiter.class.getDeclaredConstructors().length, 1);
    }

    private static String signatureOf(Method m) {
        StringBuilder text = new StringBuilder(m.getReturnType() + " " + m.getName() + "(");
        for (Class<?> type : m.getParameterTypes()) {
            text.append(text.charAt(text.length() - 1) == '(' ? "" : ",").append(type);
        }
        return text.append(")").toString();
    }

    private static void aNewObject() {
        MailArbiter x = new MailArbiter();
        Due.is("home(0)", x.home(0), -1);
        Due.is("silent(0, true)", x.silent(0, true), false);
        Due.is("header(0)", x.header(0), -1);
        Due.is("type(-1, 65, 1)", x.type(-1, 65, 1), -1);
        Due.is("length(-1, false)", x.length(-1, false), -1);
        Due.is("spoil(0, 1)", x.spoil(0, 1), false);
        Due.is("signature(0)", x.signature(0), -1);
        Due.is("sender()", x.sender(), -1);
        Due.is("counted(0)", x.counted(0), 0);
        Due.is("counted(1)", x.counted(1), 0);
        Due.is("chain()", x.chain(), -1);
        Due.is("judge(0)", x.judge(0), -1);
        Due.is("row(0, 0)", x.row(0, 0), -1);
        Due.is("tick(0)", x.tick(0), 0);
        Due.is("domain(-1, false)", x.domain(-1, false), 0);
        Due.is("header(0) with a domain, without mail", x.header(0), -1);
        Due.is("sign without mail", x.sign(0, 0, 0, 0, 0), -1);
        Due.is("key(0, 0, 1)", x.key(0, 0, 1), true);
        Due.is("sign without mail, with a key", x.sign(0, 0, 0, 0, 0), -1);
        Due.is("link without mail, with a key", x.link(0, 0), -1);
    }

    private static void objectsAreApart() {
        MailArbiter x = new MailArbiter();
        MailArbiter y = new MailArbiter();
        x.domain(-1, false);
        x.mail(0, 0, 1);
        x.judge(0);
        x.tick(9);
        Due.is("home(0) of another object", y.home(0), -1);
        Due.is("sender() of another object", y.sender(), -1);
        Due.is("row(0, 4) of another object", y.row(0, 4), -1);
        Due.is("tick(0) of another object", y.tick(0), 0);
    }
}

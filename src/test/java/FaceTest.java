import java.lang.reflect.Constructor;
import java.lang.reflect.Field;
import java.lang.reflect.Method;
import java.lang.reflect.Modifier;
import java.util.Set;
import java.util.TreeSet;

/** The face is that of the document: its constant, its constructor and its methods, and nothing more. */
public final class FaceTest {
    private static final String[] METHODS = {
        "int price(int, int) IndexOutOfBoundsException IllegalArgumentException",
        "int pay(int, int) IndexOutOfBoundsException IllegalArgumentException IllegalStateException",
        "int set(int, int) IndexOutOfBoundsException IllegalArgumentException",
        "int bid(int, int, int) IndexOutOfBoundsException IllegalArgumentException IllegalStateException",
        "int withdraw(int, int) IndexOutOfBoundsException IllegalStateException",
        "int pause(int) IllegalArgumentException",
        "int open() IllegalStateException",
        "int fish(int) IndexOutOfBoundsException IllegalStateException",
        "int nextDay()",
        "int append(int) IllegalArgumentException IllegalStateException",
        "int clearBuffer()",
        "int firstError()",
        "int run() IllegalArgumentException",
        "int keep()",
        "int goBack() IllegalStateException",
        "int undo() IllegalStateException",
        "int spot(int, int) IndexOutOfBoundsException IllegalArgumentException",
        "int bidder(int, int) IndexOutOfBoundsException IllegalArgumentException",
        "int sealed(int, int, int) IndexOutOfBoundsException IllegalArgumentException",
        "int count(int) IllegalArgumentException",
        "int setting(int) IndexOutOfBoundsException",
        "int why(int, int, int) IndexOutOfBoundsException IllegalArgumentException",
        "int worth(int, int) IllegalArgumentException",
        "int ifOpened(int, int) IndexOutOfBoundsException IllegalArgumentException",
        "int ifBid(int, int, int, int) IndexOutOfBoundsException IllegalArgumentException",
        "int least(int, int) IndexOutOfBoundsException",
        "int keenest()",
        "double chestShare()",
        "float meanPrice()",
        "long digest()",
    };

    public static void main(String[] args) {
        Check check = new Check();
        Set<String> due = new TreeSet<>(Set.of(METHODS));
        Set<String> found = new TreeSet<>();
        Set<String> hidden = new TreeSet<>();
        for (Method method : SealedSpots.class.getDeclaredMethods()) {
            if (Modifier.isPrivate(method.getModifiers())) {
                hidden.add(method.getName());
            } else {
                check.isTrue(method.getName() + " is public", method.getModifiers() == Modifier.PUBLIC);
                found.add(told(method));
            }
        }
        check.isTrue("the methods " + found + " are those that are due", found.equals(due));
        for (String method : due) {
            String name = method.substring(method.indexOf(' ') + 1, method.indexOf('('));
            check.isTrue("no private method is named " + name, !hidden.contains(name));
        }
        for (Field field : SealedSpots.class.getDeclaredFields()) {
            boolean constant = field.getName().equals("NONE");
            int due1 = Modifier.PUBLIC | Modifier.STATIC | Modifier.FINAL;
            check.isTrue(field.getName() + " is private or the constant",
                    constant ? field.getModifiers() == due1 : Modifier.isPrivate(field.getModifiers()));
        }
        Constructor<?>[] constructors = SealedSpots.class.getDeclaredConstructors();
        check.same("constructors", constructors.length, 1);
        check.isTrue("the constructor is public and takes nothing",
                constructors[0].getModifiers() == Modifier.PUBLIC && constructors[0].getParameterCount() == 0);
        check.isTrue("the class is public and final",
                SealedSpots.class.getModifiers() == (Modifier.PUBLIC | Modifier.FINAL));
        check.same("NONE", SealedSpots.NONE, -1);
        check.end();
    }

    private static String told(Method method) {
        StringBuilder text = new StringBuilder();
        text.append(method.getReturnType().getName()).append(' ').append(method.getName()).append('(');
        String between = "";
        for (Class<?> type : method.getParameterTypes()) {
            text.append(between).append(type.getName());
            between = ", ";
        }
        text.append(')');
        for (Class<?> type : method.getExceptionTypes()) {
            text.append(' ').append(type.getSimpleName());
        }
        return text.toString();
    }
}

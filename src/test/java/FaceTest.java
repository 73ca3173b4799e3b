import java.lang.reflect.Constructor;
import java.lang.reflect.Field;
import java.lang.reflect.Method;
import java.lang.reflect.Modifier;
import java.util.HashSet;
import java.util.Set;

/** The class shows the document's face and no more (rule 1 of LANGUAGE.md). */
public final class FaceTest {
    private static final String FACE = "feed(IIIII)I shire(I)I fault()I where()I folly(II)I estate(II)I answers(IZ)I "
        + "signs(IZ)I signer(IZ)I course(IZ)I courseAt(IZI)I served()I rounds()I idle()I serves(I)I best(I)I "
        + "shortest(I)I widest()I change()I changeServes()I servedIf(II)I signsIn(IZI)I servedIn(I)I firstServed(I)I "
        + "lastServed(I)I plan(I)I planServes(I)I keep()I pillar()I fits()I fitAt(II)I shapedBy(II)I tryLetter()I "
        + "tryLeaves()I judge()I power(IZ)J rule()I sues(IZZZ)I rests(I)I rest(I)I odds(IZZZ)J lostOdds(IZZ)J "
        + "blown(IZI)I yeses(IZII)I year()I mend(I)I hire(I)I send(II)Z undo()Z image()I back(I)Z led(I)I size(I)I "
        + "trouble()I";

    public static void main(String[] args) {
        Set<String> due = new HashSet<>(Set.of(FACE.split(" ")));
        Set<String> publicNames = new HashSet<>();
        for (String each : due) {
            publicNames.add(each.substring(0, each.indexOf('(')));
        }
        for (Method method : FollyShire.class.getDeclaredMethods()) {
            if (Modifier.isPublic(method.getModifiers())) {
                Check.due(form(method) + " is of the face", due.remove(form(method)), true);
            } else {
                Check.due(method + " is private", Modifier.isPrivate(method.getModifiers()), true);
                Check.due(method + " bears a public name", publicNames.contains(method.getName()), false);
            }
        }
        Check.due("methods lacking: " + due, due.size(), 0);
        for (Field field : FollyShire.class.getDeclaredFields()) {
            boolean none = field.getName().equals("NONE") && Modifier.isPublic(field.getModifiers());
            Check.due(field + " is private or NONE", none || Modifier.isPrivate(field.getModifiers()), true);
            boolean fixed = !Modifier.isStatic(field.getModifiers()) || Modifier.isFinal(field.getModifiers());
            Check.due(field + " is no changing static", fixed, true);
        }
        for (Class<?> inside : FollyShire.class.getDeclaredClasses()) {
            for (Method method : inside.getDeclaredMethods()) {
                Check.due(method + " bears a public name", publicNames.contains(method.getName()), false);
            }
            Check.due(inside + " has some twenty fields", inside.getDeclaredFields().length <= 40, true);
        }
        Constructor<?>[] makers = FollyShire.class.getDeclaredConstructors();
        Check.due("constructors", makers.length, 1);
        Check.due("public constructor", Modifier.isPublic(makers[0].getModifiers()), true);
        Check.due("final", Modifier.isFinal(FollyShire.class.getModifiers()), true);
        Check.due("NONE", FollyShire.NONE, -1);
        Check.end();
    }

    private static String form(Method method) {
        StringBuilder form = new StringBuilder(method.getName()).append('(');
        for (Class<?> type : method.getParameterTypes()) {
            form.append(letter(type));
        }
        return form.append(')').append(letter(method.getReturnType())).toString();
    }

    private static String letter(Class<?> type) {
        return type == int.class ? "I" : type == boolean.class ? "Z" : type == long.class ? "J" : type.getName();
    }
}

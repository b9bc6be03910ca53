import java.lang.reflect.Field;

/**
 * Promise 38 from its other side: the calls of the face lead to no plan that is not sound, so this test
 * reaches into the object, spoils the plan there, and looks whether isSound tells.
 */
public final class SoundnessTest {
    public static void main(String[] args) throws ReflectiveOperationException {
        Checks.due("as planned", planned().isSound(), true);
        spoilStarts();
        spoilVersions();
        spoilWeight();
        manyOrders();
        Checks.end();
    }

    /** Facts 0 to 2 in the plan, from 26, 13 and 0 on, each with 10 ticks, and a fourth one without room. */
    private static SaywhatSeen planned() {
        SaywhatSeen x = new SaywhatSeen();
        for (int i = 0; i < 3; i++) {
            x.fact(0, 36, 10, 0, true);
            x.version(i, 4);
            x.version(i, 5);
        }
        x.fact(0, 36, 9, 0, true);
        x.version(3, 4);
        x.plan();
        return x;
    }

    private static Object part(Object whole, String name) throws ReflectiveOperationException {
        Field field = whole.getClass().getDeclaredField(name);
        field.setAccessible(true);
        return field.get(whole);
    }

    private static int[] row(SaywhatSeen x, String name) throws ReflectiveOperationException {
        return (int[]) part(part(x, "plan"), name);
    }

    private static void setWeight(SaywhatSeen x, int weight) throws ReflectiveOperationException {
        Object plan = part(x, "plan");
        Field field = plan.getClass().getDeclaredField("weight");
        field.setAccessible(true);
        field.setInt(plan, weight);
    }

    private static void spoilStarts() throws ReflectiveOperationException {
        SaywhatSeen late = planned();
        row(late, "starts")[2]++;
        Checks.due("the last one ends too late", late.isSound(), false);
        SaywhatSeen near = planned();
        row(near, "starts")[0]++;
        Checks.due("no breath behind the first one", near.isSound(), false);
        SaywhatSeen ahead = planned();
        row(ahead, "starts")[0]--;
        Checks.due("ahead of the film", ahead.isSound(), false);
    }

    private static void spoilVersions() throws ReflectiveOperationException {
        SaywhatSeen longer = planned();
        row(longer, "versions")[1] = 1;
        Checks.due("a version that takes the breath", longer.isSound(), false);
        SaywhatSeen none = planned();
        row(none, "versions")[1] = 2;
        Checks.due("no such version", none.isSound(), false);
    }

    private static void spoilWeight() throws ReflectiveOperationException {
        SaywhatSeen x = planned();
        setWeight(x, 29);
        Checks.due("a set with a greater weight can be told", x.isSound(), false);
        setWeight(x, 30);
        Checks.due("none greater", x.isSound(), true);
    }

    private static void manyOrders() throws ReflectiveOperationException {
        SaywhatSeen x = new SaywhatSeen();
        x.voice(4, 0);
        for (int i = 0; i < 10; i++) {
            x.fact(10 * (9 - i), 10 * (10 - i), 10 + i, 0, true);
            x.version(i, 4);
        }
        x.thing(9, 1, 1);
        x.thing(8, 1, 2);
        x.plan();
        Checks.due("all but one", x.weight(), 145 - 18);
        int ofFive = 19 + 17 + 16 + 15 + 14;
        setWeight(x, ofFive);
        Checks.due("none of five facts is greater", x.isSound(), true);
        setWeight(x, ofFive - 1);
        Checks.due("one of five facts is greater", x.isSound(), false);
    }
}

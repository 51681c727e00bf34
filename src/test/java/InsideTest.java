import java.lang.reflect.Field;

/** Promise 36, where it says no: by the calls alone no nest can be spoilt, so this goes inside. */
public final class InsideTest {
    private InsideTest() {
    }

    public static void main(String[] args) throws ReflectiveOperationException {
        for (int nest = 0; nest < 4; nest++) {
            for (int index = 0; index < 6; index++) {
                spoiltDate(nest, index);
            }
        }
        Check.end();
    }

    private static void spoiltDate(int nest, int index) throws ReflectiveOperationException {
        PenNursery x = Edge.full();
        int[] dates = datesInside(x, nest);
        int kept = dates[index];
        // The first one gets blunter than its children, any other one sharper than its parent.
        dates[index] = index == 0 ? 999 : 0;
        Check.due("isConsistent, nest " + nest + " spoilt at " + index, x.isConsistent(), false);
        dates[index] = kept;
        Check.due("isConsistent, nest " + nest + " mended", x.isConsistent(), true);
    }

    private static int[] datesInside(PenNursery nursery, int nest) throws ReflectiveOperationException {
        Object state = inside(nursery, "now");
        Object heap = ((Object[]) inside(state, "nests"))[nest];
        return (int[]) inside(heap, "dates");
    }

    private static Object inside(Object owner, String name) throws ReflectiveOperationException {
        Field field = owner.getClass().getDeclaredField(name);
        field.setAccessible(true);
        return field.get(owner);
    }
}

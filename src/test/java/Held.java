import java.lang.reflect.Field;
import java.lang.reflect.Modifier;
import java.util.Arrays;

/** All that an object holds, as a text: to see a change that no call tells. */
final class Held {
    private Held() {
    }

    static String by(SheetRows sheet) {
        StringBuilder held = new StringBuilder();
        try {
            for (Field field : SheetRows.class.getDeclaredFields()) {
                if (!Modifier.isStatic(field.getModifiers())) {
                    field.setAccessible(true);
                    String value = Arrays.deepToString(new Object[] {field.get(sheet)});
                    held.append(field.getName()).append(value).append('\n');
                }
            }
        } catch (IllegalAccessException e) {
            throw new IllegalStateException(e);
        }
        return held.toString();
    }
}

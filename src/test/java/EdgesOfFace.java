import java.lang.reflect.InvocationTargetException;
import java.lang.reflect.Method;
import java.lang.reflect.Modifier;
import java.util.Arrays;
import java.util.List;
import java.util.regex.Matcher;
import java.util.regex.Pattern;

/** The public face: its lines, and that each call throws what its line says and nothing else, whatever it is asked in whatever state. */
final class EdgesOfFace extends Edges {
    private static final Pattern LINE = Pattern.compile("public (int|boolean|void) (\\w+)\\(([^)]*)\\)(?: throws ([\\w, ]+))?;");
    private static final int[] ODD = {Integer.MIN_VALUE, -99, -2, -1, 0, 1, 2, 7, 8, 60, 61, 121, Integer.MAX_VALUE};
    private static final int[] FEW = {Integer.MIN_VALUE, -1, 0, 0x20202020, Integer.MAX_VALUE};

    private final Doc doc;
    private BarterIsles isles = new BarterIsles();
    private int calls = 0;

    EdgesOfFace(Check check, Doc doc) {
        super(check, doc);
        this.doc = doc;
    }

    @Override
    void run() {
        lines();
        for (int state = 0; state < 6; state++) {
            for (Method method : BarterIsles.class.getDeclaredMethods()) {
                if (Modifier.isPublic(method.getModifiers())) {
                    renew(state);
                    askAll(method, state, new Object[method.getParameterCount()], 0);
                }
            }
        }
    }

    private void lines() {
        Matcher line = LINE.matcher(doc.text("Face"));
        int found = 0;
        while (line.find()) {
            found++;
            of("Face", line.group());
            int parameters = line.group(3).isEmpty() ? 0 : line.group(3).split(",").length;
            Class<?>[] ints = new Class<?>[parameters];
            Arrays.fill(ints, int.class);
            try {
                Method method = BarterIsles.class.getDeclaredMethod(line.group(2), ints);
                check.yes("public, of its kind", Modifier.isPublic(method.getModifiers()) && method.getReturnType().getName().equals(line.group(1)));
                check.yes("throws as told", thrown(method).equals(line.group(4) == null ? "" : line.group(4).trim()));
            } catch (NoSuchMethodException e) {
                check.yes("is there", false);
            }
        }
        is("methods", doc.isThere() ? 36 : 0, found);
    }

    private static String thrown(Method method) {
        StringBuilder names = new StringBuilder();
        for (Class<?> kind : method.getExceptionTypes()) {
            names.append(names.length() == 0 ? "" : ", ").append(kind.getSimpleName());
        }
        return names.toString();
    }

    /** New, without ISLES but with ACTS; one ISLE; eight of them; eight with all that can be full; six with a LAW; a SEA behind another one. */
    private void renew(int state) {
        calls = 0;
        isles = new BarterIsles();
        switch (state) {
            case 0:
                break;
            case 1:
                isles.year();
                isles.image();
                break;
            case 2:
                Check.tell(isles, "name a 60 60 north;wish 0 0;speed 9;");
                break;
            case 3:
                fill();
                break;
            case 4:
                Check.tell(isles, "name a 0 0;name bb 9 0;name ccc 0 9;name dd 9 9;name eee 0 60;name f 60 60;law far/debt<mine-yours or 1/0;");
                break;
            default:
                fill();
                Check.tell(isles, "name a 0 0;name b 0 0;");
        }
    }

    private void fill() {
        Check.tell(isles, names(6) + "name ggggggggg 60 60;name hhhhhhhhh 60 60;wish 0 7 6 5 4 3 2 1 0;" + "fair 0 0 7;".repeat(12));
        for (int i = 0; i < 45; i++) {
            isles.year();
            isles.swap(i % 8, (i + 3) % 8);
        }
        for (int i = 0; i < 9; i++) {
            isles.see(i % 8, isles.has(i % 8));
        }
        isles.image();
        Check.feed(isles, " ".repeat(700));
    }

    private void askAll(Method method, int state, Object[] values, int at) {
        if (at == values.length) {
            ask(method, state, values);
            return;
        }
        for (int value : values.length > 3 ? FEW : ODD) {
            values[at] = value;
            askAll(method, state, values, at + 1);
        }
    }

    private void ask(Method method, int state, Object[] values) {
        calls++;
        if (calls > 300) {
            renew(state);
        }
        try {
            method.invoke(isles, values);
        } catch (InvocationTargetException e) {
            boolean due = List.of(method.getExceptionTypes()).contains(e.getCause().getClass());
            if (!due) {
                is("in state " + state + " " + method.getName() + Arrays.toString(values) + " throws " + e.getCause(), 1, 0);
            }
        } catch (IllegalAccessException e) {
            is(method.getName() + " is open", 1, 0);
        }
    }
}

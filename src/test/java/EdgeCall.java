import java.lang.reflect.Method;
import java.util.Arrays;
import java.util.HashMap;
import java.util.List;
import java.util.Map;

/** One call of an EdgeRun. "say USE TEXT" is none of the face: it feeds a TEXT, and asks text(USE); \20 is byte 0x20. */
final class EdgeCall {
    private static final List<String> ERRORS = Arrays.asList("BEYOND", "NONE", "STATE", "FULL", "KIND");
    private static final Map<String, Method> FACE = new HashMap<>();

    static {
        for (Method m : GhostTable.class.getDeclaredMethods()) {
            if (java.lang.reflect.Modifier.isPublic(m.getModifiers())) {
                FACE.put(m.getName(), m);
            }
        }
    }

    final String written;
    final String name;
    final boolean isHeld;
    final long due;
    final int times;
    private final String[] words;

    EdgeCall(String written) {
        this.written = written.trim();
        int equals = this.written.lastIndexOf(" = ");
        isHeld = equals >= 0;
        due = isHeld ? number(this.written.substring(equals + 3)) : 0;
        String call = isHeld ? this.written.substring(0, equals) : this.written;
        int star = call.indexOf(" * ");
        times = star >= 0 ? Integer.parseInt(call.substring(0, star)) : 1;
        words = (star >= 0 ? call.substring(star + 3) : call).split(" ");
        name = words[0];
        if (!name.equals("say") && !(FACE.containsKey(name) && FACE.get(name).getParameterCount() == words.length - 1)) {
            throw new IllegalArgumentException("no such call: " + written);
        }
    }

    /** Which ERROR is due, as k of LOW - k; 0 if none is. */
    int errorDue() {
        boolean anyNumber = name.equals("seed") || name.equals("voice") || name.equals("count");
        boolean isError = isHeld && due < -1000000000 && due >= -1000000005;
        return isError && !(anyNumber && due != Due.BEYOND) && !written.contains("= -") ? (int) (-1000000000 - due) : 0;
    }

    /** Makes the call so often: the last answer. */
    int make(GhostTable x) throws ReflectiveOperationException {
        int answer = 0;
        for (int i = 0; i < times; i++) {
            answer = name.equals("say") ? say(x) : (Integer) FACE.get(name).invoke(x, arguments());
        }
        return answer;
    }

    private int say(GhostTable x) {
        StringBuilder text = new StringBuilder();
        String escaped = words[2];
        for (int i = 0; i < escaped.length(); i++) {
            boolean isByte = escaped.charAt(i) == '\\';
            text.append(isByte ? (char) Integer.parseInt(escaped.substring(i + 1, i + 3), 16) : escaped.charAt(i));
            i += isByte ? 2 : 0;
        }
        return Due.text(x, (int) number(words[1]), text.toString());
    }

    private Object[] arguments() {
        Class<?>[] types = FACE.get(name).getParameterTypes();
        Object[] arguments = new Object[types.length];
        for (int i = 0; i < types.length; i++) {
            long v = number(words[i + 1]);
            arguments[i] = types[i] == long.class ? (Object) v : (Object) (int) v;
        }
        return arguments;
    }

    private static long number(String word) {
        if (word.equals("MIN") || word.equals("MAX")) {
            return word.equals("MIN") ? Integer.MIN_VALUE : Integer.MAX_VALUE;
        }
        if (word.startsWith("0x")) {
            return Long.parseUnsignedLong(word.substring(2), 16);
        }
        int error = ERRORS.indexOf(word);
        return error >= 0 ? -1000000001L - error : Long.parseLong(word);
    }
}

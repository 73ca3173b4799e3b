import java.lang.reflect.InvocationTargetException;
import java.lang.reflect.Method;
import java.nio.charset.StandardCharsets;
import java.util.ArrayList;
import java.util.Arrays;
import java.util.Comparator;
import java.util.HashMap;
import java.util.List;
import java.util.Map;
import java.util.NoSuchElementException;
import java.util.Random;

/** Long mixed runs by fixed seeds: the class and the Model must answer every call alike. */
public final class ModelTest {
    private static final String[] SHAPES = {"tower", "arch", "obelisk", "pyramid", "grotto"};
    private static final String[] NAMES = {"a", "b", "tower", "yes", "lost", "abcdefgh", "sound", "wind", "x", "zz", "debt", "q"};
    private static final String[] OTHERS = {"", ";", "shire", "folly", "sends", "hermit", "estate", "veiled", "signed",
        "a", "b", "tower", "lost", "7", "100", "101", "9", "10", "99", "1000", "000", "abcdefghi", "A", "-", "\u00e9", "\n", "nobody"};
    private static final List<String> ACTS = List.of("year", "mend", "hire", "send", "undo", "image", "back");

    private final Random random;
    private final FollyShire real = new FollyShire();
    private final Model model = new Model();
    private final List<Method> calls = new ArrayList<>();
    private final Map<String, Method> twins = new HashMap<>();
    private final String run;

    private ModelTest(long seed) {
        random = new Random(seed);
        run = "run " + seed + ": ";
        for (Method method : FollyShire.class.getDeclaredMethods()) {
            if (java.lang.reflect.Modifier.isPublic(method.getModifiers())) {
                calls.add(method);
            }
        }
        calls.sort(Comparator.comparing(Method::getName));
        for (Method method : Model.class.getDeclaredMethods()) {
            if (java.lang.reflect.Modifier.isPublic(method.getModifiers())) {
                twins.put(method.getName(), method);
            }
        }
    }

    public static void main(String[] args) throws Exception {
        int runs = args.length > 0 ? Integer.parseInt(args[0]) : 400;
        for (long seed = 1; seed <= runs; seed++) {
            new ModelTest(seed).go();
        }
        Check.end();
    }

    private void go() throws Exception {
        int left = 512;
        while (left > 60) {
            String text = random.nextInt(3) == 0 ? spoiled(text()) : text();
            left -= tell(text);
            int some = random.nextInt(100);
            for (int i = 0; i < some && left > 0; i++) {
                Method call = calls.get(random.nextInt(calls.size()));
                if (random.nextInt(5) == 0) {
                    String act = ACTS.get(random.nextInt(ACTS.size()));
                    call = calls.stream().filter(m -> m.getName().equals(act)).findFirst().orElseThrow();
                }
                compare(call, arguments(call));
                left--;
            }
        }
    }

    private int tell(String text) throws Exception {
        byte[] bytes = text.getBytes(StandardCharsets.ISO_8859_1);
        byte[] all = Arrays.copyOf(bytes, (bytes.length + 19) / 20 * 20);
        Arrays.fill(all, bytes.length, all.length, (byte) ' ');
        int fed = 0;
        for (int at = 0; at < all.length; at += 20) {
            Object[] five = new Object[5];
            for (int i = 0; i < 5; i++) {
                five[i] = java.nio.ByteBuffer.wrap(all, at + 4 * i, 4).getInt();
            }
            compare(named("feed"), five);
            fed++;
        }
        compare(named("shire"), bytes.length);
        compare(named("trouble"));
        compare(named("fault"));
        compare(named("where"));
        return fed + 4;
    }

    private Method named(String name) {
        return calls.stream().filter(m -> m.getName().equals(name)).findFirst().orElseThrow();
    }

    private void compare(Method call, Object... arguments) throws Exception {
        String what = run + call.getName() + Arrays.toString(arguments);
        Check.due(what, invoke(call, real, arguments), invoke(twins.get(call.getName()), model, arguments));
        Check.due(what + ", its trouble", real.trouble(), model.trouble());
    }

    private static long invoke(Method call, Object target, Object[] arguments) throws Exception {
        try {
            Object got = call.invoke(target, arguments);
            return got instanceof Boolean ? ((Boolean) got ? 1 : 0) : ((Number) got).longValue();
        } catch (InvocationTargetException e) {
            if (e.getCause() instanceof NoSuchElementException) {
                return -1000;
            }
            throw new IllegalStateException(call.toString(), e.getCause());
        }
    }

    private Object[] arguments(Method call) {
        Class<?>[] types = call.getParameterTypes();
        Object[] arguments = new Object[types.length];
        for (int i = 0; i < types.length; i++) {
            arguments[i] = types[i] == boolean.class ? (Object) random.nextBoolean() : (Object) number(call.getName(), i);
        }
        return arguments;
    }

    private int number(String call, int i) {
        if (random.nextInt(60) == 0) {
            int[] far = {Integer.MIN_VALUE, Integer.MAX_VALUE, -2, 100, 65537, 61};
            return far[random.nextInt(far.length)];
        }
        if (call.equals("feed")) {
            return random.nextInt();
        }
        if (call.equals("shire")) {
            return random.nextInt(30) - 3;
        }
        if (i == 2 && (call.equals("blown") || call.equals("yeses"))) {
            return random.nextInt(65538);
        }
        if (call.equals("servedIn") || call.equals("signsIn") && i == 2 || call.equals("yeses") && i == 3) {
            return random.nextInt(63) - 1;
        }
        if (call.equals("fitAt") && i == 0) {
            return random.nextInt(random.nextBoolean() ? 5 : 126);
        }
        if (call.equals("size")) {
            return random.nextInt(14) - 1;
        }
        if (call.equals("sues") || call.startsWith("rest")) {
            return random.nextInt(12) - 1;
        }
        return random.nextInt(7) - (random.nextInt(8) == 0 ? 1 : 0);
    }

    // ---- texts

    private String text() {
        List<String> lines = new ArrayList<>();
        int follies = 1 + random.nextInt(6);
        int winds = random.nextInt(4);
        lines.add("shire wind " + (winds == 0 ? 0 : winds == 1 ? 50 : random.nextInt(101)) + " rot " + random.nextInt(random.nextBoolean() ? 10 : 3));
        List<String> names = new ArrayList<>(Arrays.asList(NAMES));
        java.util.Collections.shuffle(names, random);
        for (int f = 0; f < follies; f++) {
            int sound = random.nextInt(random.nextBoolean() ? 100 : 12);
            lines.add("folly " + names.get(f) + " " + SHAPES[random.nextInt(random.nextBoolean() ? 5 : 4)] + " sound " + sound);
        }
        List<String> rest = new ArrayList<>();
        for (int f = 0; f < follies; f++) {
            int to = random.nextInt(follies);
            if (to != f && random.nextInt(3) != 0) {
                rest.add("sends " + names.get(f) + " " + names.get(to));
            }
            if (random.nextInt(5) == 0) {
                rest.add("hermit " + names.get(f));
            }
        }
        int estates = random.nextInt(6);
        for (int e = 0; e < estates; e++) {
            int debt = random.nextInt(3) == 0 ? random.nextInt(3) : random.nextInt(100);
            rest.add("estate " + names.get(6 + e) + " " + names.get(random.nextInt(follies)) + " debt " + debt);
        }
        List<String> veiled = new ArrayList<>(names.subList(0, follies));
        java.util.Collections.shuffle(veiled, random);
        for (int k = random.nextInt(Math.min(3, follies) + 1); k > 0; k--) {
            rest.add("veiled " + veiled.get(k - 1));
        }
        int signed = random.nextInt(3) == 0 ? random.nextInt(6) : random.nextInt(3);
        for (int i = 0; i < signed; i++) {
            String say = random.nextBoolean() ? "yes" : "no";
            String answer = new String[] {"yes", "no", "lost"}[random.nextInt(3)];
            rest.add("signed " + names.get(random.nextInt(follies)) + " " + say + " " + answer);
        }
        java.util.Collections.shuffle(rest, random);
        lines.addAll(rest);
        String text = String.join(random.nextBoolean() ? ";" : " ; ", lines);
        return text.length() <= 900 ? text : text.substring(0, 880);
    }

    /** One or two tokens, bytes or lines put out, in, or elsewhere. */
    private String spoiled(String text) {
        String spoiled = text;
        for (int times = 1 + random.nextInt(2); times > 0; times--) {
            spoiled = spoiledOnce(spoiled);
        }
        return spoiled.length() <= 900 ? spoiled : spoiled.substring(0, 900);
    }

    private String spoiledOnce(String text) {
        int kind = random.nextInt(6);
        if (kind == 0) {
            return text.substring(0, random.nextInt(text.length() + 1));
        }
        if (kind == 1) {
            int at = random.nextInt(text.length() + 1);
            return text.substring(0, at) + (char) random.nextInt(256) + text.substring(at);
        }
        if (kind == 2) {
            List<String> lines = new ArrayList<>(Arrays.asList(text.split(";", -1)));
            lines.add(random.nextInt(lines.size() + 1), lines.get(random.nextInt(lines.size())));
            return String.join(";", lines);
        }
        if (kind == 3) {
            List<String> lines = new ArrayList<>(Arrays.asList(text.split(";", -1)));
            lines.add(random.nextInt(lines.size()), lines.remove(random.nextInt(lines.size())));
            return String.join(";", lines);
        }
        List<String> tokens = new ArrayList<>(Arrays.asList(text.replace(";", " ; ").split(" +")));
        int at = random.nextInt(tokens.size());
        if (kind == 4) {
            tokens.set(at, OTHERS[random.nextInt(OTHERS.length)]);
        } else {
            tokens.set(at, tokens.get(random.nextInt(tokens.size())));
        }
        return String.join(" ", tokens);
    }
}

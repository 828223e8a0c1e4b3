import java.lang.reflect.InvocationTargetException;
import java.lang.reflect.Method;
import java.util.ArrayList;
import java.util.List;
import java.util.Random;

/** Long runs by seeds, each call asked of BarterIsles and of SlowIsles. */
public final class ModelTest {
    private static final String[] VALUES = {"mine", "yours", "far", "sort", "other", "debt", "year"};
    private static final String[] ODD = {"name", "not", "and", "or", "law", "north", "x", "(", ")", ";", "<", "=", "+", "-", "*", "/",
        "12345", "0", "1", "9", "61", "201", "abcdefghij", "$", "A", "8", "2", "00001", "\n", "\t", "\u00e9", "wish", "fair", "speed"};

    private final Random random;
    private final BarterIsles quick = new BarterIsles();
    private final SlowIsles slow = new SlowIsles();
    private final List<String> told = new ArrayList<>();
    private final int isles;
    private final boolean heavy;

    private ModelTest(long seed) {
        // Seeds side by side would begin alike.
        random = new Random(seed * 0x9E3779B97F4A7C15L);
        isles = 1 + Math.max(random.nextInt(8), random.nextInt(8));
        heavy = seed % 20 == 0;
    }

    public static void main(String[] args) throws Exception {
        int runs = args.length > 0 ? Integer.parseInt(args[0]) : 400;
        int from = args.length > 1 ? Integer.parseInt(args[1]) : 0;
        for (int seed = from; seed < from + runs; seed++) {
            if (!new ModelTest(seed).run(seed)) {
                System.exit(1);
            }
        }
        System.out.println("ModelTest: " + runs + " runs alike");
    }

    private boolean run(int seed) throws Exception {
        int calls = 0;
        if (random.nextInt(8) != 0) {
            calls += tell(text(false));
        }
        while (calls < 440) {
            if (random.nextInt(60) == 0) {
                calls += tell(text(random.nextInt(3) != 0));
            } else {
                step();
                calls++;
            }
            if (told.get(told.size() - 1).startsWith("UNLIKE")) {
                System.out.println("run " + seed + ":");
                for (String line : told) {
                    System.out.println("  " + line);
                }
                return false;
            }
        }
        return true;
    }

    private int pick(int... of) {
        return of[random.nextInt(of.length)];
    }

    private int among(int n) {
        return random.nextInt(30) == 0 ? pick(-2, -1, n, n + 1, Integer.MAX_VALUE, Integer.MIN_VALUE) : random.nextInt(Math.max(1, n));
    }

    private int isle() {
        return among(Math.max(1, slow.n()));
    }

    private void step() throws Exception {
        switch (random.nextInt(40)) {
            case 0 -> call("count", among(11));
            case 1 -> call("name", isle(), among(5));
            case 2 -> call("letter", isle(), among(9));
            case 3 -> call("has", isle());
            case 4 -> call("debt", isle(), isle());
            case 5 -> call("may", isle(), isle());
            case 6, 7, 8 -> call("swap", isle(), isle());
            case 9, 10 -> call("year");
            case 11 -> call("forgive", isle(), isle());
            case 12 -> call("undo");
            case 13 -> call("prefers", isle(), isle(), isle());
            case 14 -> call("glad", among(2));
            case 15 -> call("round", isle() - random.nextInt(2));
            case 16 -> call("leave");
            case 17, 18 -> call("swaps", arrangement(), among(3));
            case 19 -> call("ship", among(61), among(61), isle());
            case 20 -> call("ship", among(16), among(3), isle());
            case 21 -> call("joined", isle(), isle(), among(12) - 1);
            case 22 -> call("inside", isle(), isle());
            case 23, 24 -> call("shortest", random.nextInt(20) == 0 ? random.nextInt() : random.nextInt(1 << slow.n()), among(8) - 1);
            case 25 -> call("worn", isle(), random.nextInt(2) == 0 ? among(9) : among(100), among(6) - 1);
            case 26 -> call("tide", random.nextInt(2) == 0 ? among(4) : among(10));
            case 27 -> call("lies", isle(), isle());
            case 28 -> call("see", isle(), isle());
            case 29 -> call("forget");
            case 30, 31 -> call("sales", sales(), among(5) - 1);
            case 32 -> call("look", sales());
            case 33 -> call("clerks", isle(), isle(), among(2));
            case 34 -> call("century", random.nextInt(), among(101), isle() - random.nextInt(2));
            case 35 -> call("weather", among(61), among(61), among(121));
            case 36 -> call("owed", among(2));
            case 37 -> call("caravan", isle());
            case 38 -> call(random.nextInt(3) == 0 ? "image" : "restore");
            default -> call(random.nextInt(2) == 0 ? "fault" : "leave");
        }
    }

    private int sales() {
        int k = among(4);
        return k == 3 && !heavy && slow.n() > 4 ? 2 : k;
    }

    private int arrangement() {
        if (random.nextInt(15) == 0) {
            return random.nextInt();
        }
        List<Integer> names = new ArrayList<>();
        for (int i = 0; i < slow.n(); i++) {
            names.add(i);
        }
        java.util.Collections.shuffle(names, random);
        int arrangement = 0;
        for (int i = 0; i < names.size(); i++) {
            arrangement |= names.get(i) << 3 * i;
        }
        return random.nextInt(15) == 0 ? arrangement ^ 1 << random.nextInt(30) : arrangement;
    }

    private String word() {
        StringBuilder word = new StringBuilder();
        int length = 1 + (random.nextInt(3) == 0 ? random.nextInt(9) : random.nextInt(4));
        for (int i = 0; i < length; i++) {
            word.append("abtrs".charAt(random.nextInt(random.nextInt(2) == 0 ? 2 : 5)));
        }
        return word.toString();
    }

    private String text(boolean spoiled) {
        List<String> tokens = new ArrayList<>();
        List<String> words = new ArrayList<>();
        int n = random.nextInt(20) == 0 ? 0 : isles;
        for (int tries = 0; tries < 200 && words.size() < n; tries++) {
            String word = word();
            if (!words.contains(word)) {
                words.add(word);
                add(tokens, "name " + word + " " + random.nextInt(random.nextInt(3) == 0 ? 61 : 12) + " " + random.nextInt(random.nextInt(3) == 0 ? 61 : 2));
                String sort = List.of("", "", "colony", "north").get(random.nextInt(4));
                add(tokens, sort + " ;");
            }
        }
        n = words.size();
        for (int isle = 0; isle < n; isle++) {
            if (random.nextInt(4) != 0) {
                List<Integer> row = new ArrayList<>();
                for (int i = random.nextInt(5); i >= 0; i--) {
                    int name = random.nextInt(n);
                    if (!row.contains(name)) {
                        row.add(name);
                    }
                }
                add(tokens, "wish " + isle);
                for (int name : row) {
                    add(tokens, "" + name);
                }
                add(tokens, ";");
            }
        }
        for (int i = random.nextInt(9); i > 0 && n > 1; i--) {
            int one = random.nextInt(n);
            int other = (one + 1 + random.nextInt(n - 1)) % n;
            add(tokens, "fair " + random.nextInt(random.nextInt(3) == 0 ? 200 : 6) + " " + one + " " + other + " ;");
        }
        if (random.nextInt(2) == 0) {
            add(tokens, "speed " + (1 + random.nextInt(9)) + " ;");
        }
        if (random.nextInt(4) != 0) {
            add(tokens, "law");
            add(tokens, law() + " ;");
        }
        if (spoiled) {
            spoil(tokens);
        }
        return spaced(tokens);
    }

    private static void add(List<String> tokens, String row) {
        for (String token : row.trim().split(" +")) {
            if (!token.isEmpty()) {
                tokens.add(token);
            }
        }
    }

    private void spoil(List<String> tokens) {
        for (int i = random.nextInt(3); i >= 0; i--) {
            int at = tokens.isEmpty() ? 0 : random.nextInt(tokens.size());
            int way = random.nextInt(6);
            if (way == 0 || tokens.isEmpty()) {
                tokens.add(at, ODD[random.nextInt(ODD.length)]);
            } else if (way == 1) {
                tokens.set(at, ODD[random.nextInt(ODD.length)]);
            } else if (way == 2) {
                tokens.remove(at);
            } else if (way == 3) {
                int end = at;
                while (end < tokens.size() - 1 && !tokens.get(end).equals(";")) {
                    end++;
                }
                int begin = at;
                while (begin > 0 && !tokens.get(begin - 1).equals(";")) {
                    begin--;
                }
                tokens.addAll(random.nextBoolean() ? begin : end + 1, new ArrayList<>(tokens.subList(begin, end + 1)));
            } else if (way == 4) {
                String token = tokens.get(at);
                tokens.set(at, Character.isDigit(token.charAt(0)) ? "" + random.nextInt(10) : token);
            } else {
                tokens.add(at, tokens.get(random.nextInt(tokens.size())));
            }
        }
    }

    private String spaced(List<String> tokens) {
        StringBuilder text = new StringBuilder();
        char last = ' ';
        for (String token : tokens) {
            boolean glue = Character.isLetterOrDigit(last) && Character.isLetterOrDigit(token.charAt(0));
            if (glue || random.nextInt(6) == 0) {
                text.append(random.nextInt(8) == 0 ? "\n " : " ");
            }
            text.append(token);
            last = token.charAt(token.length() - 1);
        }
        return text.length() > 700 ? text.substring(0, 700) : text.toString();
    }

    private String law() {
        if (random.nextInt(12) == 0) {
            return deepLaw();
        }
        return switch (random.nextInt(5)) {
            case 0 -> "mine < yours + " + random.nextInt(5);
            case 1 -> "debt < " + random.nextInt(6);
            case 2 -> "far < " + random.nextInt(60) + " or sort = other";
            default -> expr(1 + random.nextInt(4)) + (random.nextInt(3) == 0 ? " or 1 < mine + debt" : "");
        };
    }

    private String deepLaw() {
        int deep = 4 + random.nextInt(4);
        String nots = " not".repeat(5 + random.nextInt(3));
        return " (".repeat(deep) + nots + " mine - 1" + " )".repeat(deep);
    }

    private String expr(int deep) {
        if (deep == 0) {
            return random.nextInt(3) == 0 ? "" + random.nextInt(random.nextInt(4) == 0 ? 10000 : 8) : VALUES[random.nextInt(7)];
        }
        String one = expr(deep - 1);
        String other = expr(random.nextInt(deep));
        return switch (random.nextInt(12)) {
            case 0 -> one + " + " + other;
            case 1 -> one + " - " + other;
            case 2 -> one + " * " + other;
            case 3 -> one + " / " + other;
            case 4 -> "( " + one + " < " + other + " )";
            case 5 -> "( " + one + " = " + other + " )";
            case 6 -> "( " + one + " and " + other + " )";
            case 7 -> "( " + one + " or " + other + " )";
            case 8 -> "( not " + one + " )";
            case 9 -> "( not not " + one + " )";
            default -> "( " + one + " - " + other + " )";
        };
    }

    private int tell(String text) throws Exception {
        byte[] bytes = new byte[(text.length() + 19) / 20 * 20];
        java.util.Arrays.fill(bytes, (byte) 32);
        for (int i = 0; i < text.length(); i++) {
            bytes[i] = (byte) text.charAt(i);
        }
        java.nio.ByteBuffer row = java.nio.ByteBuffer.wrap(bytes);
        int calls = 0;
        told.add(text);
        while (row.remaining() >= 20) {
            call("feed", row.getInt(), row.getInt(), row.getInt(), row.getInt(), row.getInt());
            calls++;
        }
        call("sea", random.nextInt(20) == 0 ? text.length() - random.nextInt(5) : text.length());
        call("fault");
        return calls + 2;
    }

    private void call(String name, int... values) throws Exception {
        String due = answer(slow, name, values);
        String got = answer(quick, name, values);
        String line = name + java.util.Arrays.toString(values) + " " + got;
        // The first difference stays the last line, also within a telling.
        if (!told.isEmpty() && told.get(told.size() - 1).startsWith("UNLIKE")) {
            return;
        }
        told.add(got.equals(due) ? line : "UNLIKE " + line + ", slowly " + due);
    }

    private static String answer(Object of, String name, int[] values) throws Exception {
        Class<?>[] types = new Class<?>[values.length];
        Object[] boxed = new Object[values.length];
        for (int i = 0; i < values.length; i++) {
            types[i] = int.class;
            boxed[i] = values[i];
        }
        Method method = of.getClass().getDeclaredMethod(name, types);
        method.setAccessible(true);
        try {
            return String.valueOf(method.invoke(of, boxed));
        } catch (InvocationTargetException e) {
            return "throws." + e.getCause().getClass().getSimpleName();
        }
    }
}

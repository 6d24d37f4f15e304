import java.lang.reflect.Method;
import java.util.ArrayList;
import java.util.Comparator;
import java.util.List;
import java.util.Random;

/** Random villages and calls, the same ones each time: BellRingers must answer as the Oracle does. */
public final class RandomTest {
    private static final int RUNS = 1500;
    private static final int CALLS = 250;
    private static final String[] UNITS = {"loss", "has", "rung", "hour", "here", "day"};
    private static final String[] JOINS = {" or ", " and ", "<", ">", "=", "+", "-", "*", "/", "%"};

    private final Random random;
    private final List<String> told = new ArrayList<>();
    private int units = 0;

    private RandomTest(long seed) {
        random = new Random(seed);
    }

    private int upTo(int most) {
        return random.nextInt(most + 1);
    }

    private String formula(int depth) {
        StringBuilder text = new StringBuilder();
        int many = 1 + upTo(3);
        for (int i = 0; i < many; i++) {
            if (i > 0) {
                text.append(JOINS[upTo(JOINS.length - 1)]);
            }
            if (upTo(9) == 0) {
                text.append(" not ");
            }
            units++;
            if (depth < 8 && units < 28 && upTo(3) == 0) {
                text.append('(').append(formula(depth + 1)).append(')');
            } else if (upTo(2) == 0) {
                text.append(upTo(4) == 0 ? upTo(9999) : upTo(20));
            } else {
                text.append(UNITS[upTo(UNITS.length - 1)]);
            }
        }
        return text.toString();
    }

    private String village() {
        units = 0;
        List<String> lines = new ArrayList<>();
        int people = upTo(9) == 0 ? upTo(7) : 1 + upTo(5);
        int bells = upTo(9) == 0 ? upTo(6) : 1 + upTo(4);
        for (int p = 0; p < people; p++) {
            lines.add("person " + (char) ('a' + p) + " has " + (upTo(3) == 0 ? upTo(999) : upTo(40)) + ";");
        }
        for (int b = 0; b < bells; b++) {
            lines.add("bell " + (char) ('a' + b) + " hour " + upTo(23) + ";");
        }
        List<String> pairs = new ArrayList<>();
        for (int i = 0; i < people * bells; i++) {
            pairs.add((char) ('a' + i / bells) + " " + (char) ('a' + i % bells));
        }
        java.util.Collections.shuffle(pairs, random);
        int loses = Math.min(pairs.size(), upTo(19) == 0 ? 21 : upTo(4) == 0 ? upTo(20) : 12 + upTo(8));
        int highest = upTo(1) == 0 ? 20 : 4;
        for (String pair : pairs.subList(0, loses)) {
            lines.add("loses " + pair + " " + (1 + upTo(highest - 1)) + "\n;");
        }
        if (upTo(2) > 0) {
            String likely = "loss*" + (1 + upTo(8)) + "+" + UNITS[upTo(5)] + "-rung*" + upTo(3);
            lines.add(upTo(lines.size()), "weighs " + (upTo(1) == 0 ? formula(0) : likely) + ";");
        }
        if (upTo(2) > 0) {
            lines.add(upTo(lines.size()), "faces " + upTo(100) + ";");
        }
        if (upTo(2) > 0) {
            lines.add(upTo(lines.size()), "draw " + upTo(999) + ";");
        }
        return String.join(upTo(1) == 0 ? "" : " ", lines);
    }

    /** The text with a byte, or a stretch of it, put wrong. */
    private String spoilt(String text) {
        if (text.isEmpty()) {
            return "$";
        }
        int at = upTo(text.length() - 1);
        int to = Math.min(text.length(), at + 1 + upTo(8));
        return switch (upTo(4)) {
            case 0 -> text.substring(0, at);
            case 1 -> text.substring(0, at) + text.substring(to);
            case 2 -> text.substring(0, at) + text.substring(at, to) + text.substring(at);
            case 3 -> text.substring(0, at) + (char) upTo(255) + text.substring(at);
            default -> text.substring(0, at) + "abcdehmnor0129();<>=+-*/% ".charAt(upTo(25)) + text.substring(at + 1);
        };
    }

    /** The kinds of a method's arguments, as letters that likely() knows. */
    private static String kinds(String method) {
        return switch (method) {
            case "person" -> "p4";
            case "loss", "weight", "wish" -> "pb";
            case "ringer", "hour", "hushed" -> "b";
            case "want" -> "pbl";
            case "leave", "come", "ruin", "hides" -> "p";
            case "gift" -> "pg";
            case "will" -> "bnw";
            case "purse" -> "pn";
            case "cost", "slight" -> "n";
            case "duties", "hush", "spare", "chorus" -> "w";
            case "staying" -> "pp";
            case "law" -> "l";
            case "odds" -> "4w";
            case "seen" -> "dbp";
            case "untell", "fits" -> "4";
            case "sure" -> "w4";
            case "ask" -> "dw4";
            case "image", "back" -> "x";
            case "about" -> "a";
            default -> "";
        };
    }

    private int likely(char kind) {
        return switch (kind) {
            case 'p' -> upTo(upTo(1) == 0 ? 5 : 3);
            case 'b' -> upTo(upTo(1) == 0 ? 4 : 2);
            case 'l' -> upTo(20);
            case 'g' -> 1 + upTo(98);
            case 'n' -> upTo(60);
            case 'w' -> upTo(1);
            case 'd' -> 1 + upTo(11);
            case 'x' -> upTo(2);
            case 'a' -> upTo(13);
            default -> upTo(4);
        };
    }

    private int argument(String method, int i) {
        String kinds = kinds(method);
        return i < kinds.length() && upTo(19) > 0 ? likely(kinds.charAt(i)) : number();
    }

    private int number() {
        return switch (upTo(19)) {
            case 0 -> -1 - upTo(1);
            case 1 -> new int[] {Integer.MIN_VALUE, Integer.MAX_VALUE, 1000, 100000, 1600}[upTo(4)];
            case 2, 3 -> upTo(61);
            case 4, 5, 6 -> upTo(21);
            case 7, 8, 9, 10 -> upTo(1);
            default -> upTo(6);
        };
    }

    private static int four(String text, int at) {
        int n = 0;
        for (int i = at; i < at + 4; i++) {
            n = n << 8 | (i < text.length() ? text.charAt(i) : 0);
        }
        return n;
    }

    /** True if both answered alike. */
    private boolean call(BellRingers x, Oracle oracle, Method method, Object[] args) throws Exception {
        Object got = method.invoke(x, args);
        Object due = Oracle.class.getMethod(method.getName(), method.getParameterTypes()).invoke(oracle, args);
        told.add(method.getName() + java.util.Arrays.toString(args) + " -> " + got);
        if (got.equals(due)) {
            return true;
        }
        System.out.println("answered " + got + ", the oracle " + due + ":");
        told.forEach(row -> System.out.println("  " + row));
        return false;
    }

    private boolean tell(BellRingers x, Oracle oracle) throws Exception {
        String text = village();
        if (upTo(5) == 0) {
            text = spoilt(text);
        }
        told.add(text);
        Method feed = BellRingers.class.getMethod("feed", int.class, int.class, int.class, int.class, int.class);
        x.end(0);
        oracle.end(0);
        for (int i = 0; i < text.length(); i += 20) {
            Object[] args = {four(text, i), four(text, i + 4), four(text, i + 8), four(text, i + 12), four(text, i + 16)};
            if (!call(x, oracle, feed, args)) {
                return false;
            }
        }
        return call(x, oracle, BellRingers.class.getMethod("end", int.class), new Object[] {text.length()})
            && call(x, oracle, BellRingers.class.getMethod("village"), new Object[0])
            && call(x, oracle, BellRingers.class.getMethod("fault", int.class), new Object[] {0})
            && call(x, oracle, BellRingers.class.getMethod("fault", int.class), new Object[] {1});
    }

    private boolean run() throws Exception {
        BellRingers x = new BellRingers();
        Oracle oracle = new Oracle();
        List<Method> methods = new ArrayList<>();
        for (Method method : BellRingers.class.getDeclaredMethods()) {
            if (java.lang.reflect.Modifier.isPublic(method.getModifiers())) {
                methods.add(method);
            }
        }
        methods.sort(Comparator.comparing(Method::getName));
        for (int i = 0; i < CALLS; i++) {
            if (i == 0 && !tell(x, oracle) || upTo(149) == 0 && !tell(x, oracle)) {
                return false;
            }
            Method method = methods.get(upTo(methods.size() - 1));
            if (method.getName().equals("village") && upTo(29) > 0) {
                continue;
            }
            Object[] args = new Object[method.getParameterCount()];
            for (int a = 0; a < args.length; a++) {
                args[a] = method.getParameterTypes()[a] == boolean.class ? (Object) (upTo(4) == 0) : (Object) argument(method.getName(), a);
            }
            int times = method.getName().matches("day|undo|redo|gift") ? 1 + upTo(5) : 1;
            for (int t = 0; t < times; t++) {
                if (!call(x, oracle, method, args)) {
                    return false;
                }
            }
            if (method.getName().matches("order|duties|list|staying")) {
                for (int l = 0; l < 6; l++) {
                    if (!call(x, oracle, BellRingers.class.getMethod("lies", int.class), new Object[] {l})) {
                        return false;
                    }
                }
            }
        }
        return true;
    }

    public static void main(String[] args) throws Exception {
        int runs = args.length > 0 ? Integer.parseInt(args[0]) : RUNS;
        int first = args.length > 1 ? Integer.parseInt(args[1]) : 0;
        for (int i = first; i < first + runs; i++) {
            if (!new RandomTest(i).run()) {
                System.out.println("in run " + i);
                System.exit(1);
            }
        }
        System.out.println(runs + " runs as the oracle");
    }
}

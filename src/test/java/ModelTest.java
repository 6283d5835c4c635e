import java.lang.reflect.InvocationTargetException;
import java.lang.reflect.Method;
import java.util.ArrayList;
import java.util.Arrays;
import java.util.List;
import java.util.Random;

/** All promises at once: runs of calls on the program and on the model must be answered the same. */
public final class ModelTest {
    private static final int RUNS = 700;
    private static final int CALLS = 512;

    private static final List<Method> METHODS = new ArrayList<>();

    private final Random random;
    private final AvalancheGallery gallery = new AvalancheGallery();
    private final Model model = new Model();
    private final List<String> told = new ArrayList<>();
    private int calls;

    private ModelTest(int seed) {
        random = new Random(seed);
    }

    public static void main(String[] args) throws Exception {
        int runs = args.length > 0 ? Integer.parseInt(args[0]) : RUNS;
        for (Method method : AvalancheGallery.class.getDeclaredMethods()) {
            if (java.lang.reflect.Modifier.isPublic(method.getModifiers())) {
                METHODS.add(method);
            }
        }
        METHODS.sort((one, other) -> one.getName().compareTo(other.getName()));
        for (int run = 0; run < runs; run++) {
            ModelTest test = new ModelTest(run);
            if (!test.agrees(run % 4)) {
                int from = Math.max(0, test.told.size() - 60);
                System.out.println("ModelTest: run " + run + " differs after " + test.calls + " calls:");
                test.told.subList(from, test.told.size()).forEach(System.out::println);
                System.exit(1);
            }
        }
        System.out.println("ModelTest: " + runs + " runs, none differs");
    }

    private boolean agrees(int mood) throws Exception {
        if (mood != 0 && !prepare()) {
            return false;
        }
        while (calls < CALLS) {
            boolean same = mood == 3 ? stepWithTexts() : mood == 2 ? stepWithLoans() : step();
            if (!same) {
                return false;
            }
        }
        return true;
    }

    private boolean prepare() throws Exception {
        boolean same = true;
        int rooms = 2 + random.nextInt(5);
        for (int room = 0; room < rooms; room++) {
            same = same && call("addRoom", random.nextInt(10));
        }
        for (int leg = random.nextInt(12); leg > 0; leg--) {
            same = same && call("setLeg", random.nextInt(rooms), random.nextInt(rooms),
                    1 + random.nextInt(random.nextBoolean() ? 4 : 99), random.nextInt(10));
        }
        int exhibits = 1 + random.nextInt(5);
        for (int exhibit = 0; exhibit < exhibits; exhibit++) {
            same = same && call("addExhibit", random.nextInt(rooms), random.nextInt(10));
            for (int drop = random.nextInt(6); drop > 0; drop--) {
                same = same && call("drop", exhibit, random.nextInt(4), random.nextInt(4), 1 + random.nextInt(40));
            }
        }
        return same;
    }

    private boolean step() throws Exception {
        Method method = METHODS.get(random.nextInt(METHODS.size()));
        return invoke(method, argumentsFor(method));
    }

    private boolean stepWithLoans() throws Exception {
        int exhibit = random.nextInt(2);
        switch (random.nextInt(12)) {
            case 0, 1, 2, 3:
                int first = random.nextInt(10);
                int last = first + random.nextInt(4);
                return call("ask", exhibit, first, last, 1 + random.nextInt(4));
            case 4:
                return call("takeBest", exhibit);
            case 5:
                return call("isLent", exhibit, random.nextInt(14));
            case 6:
                return call("bestFees", exhibit) && call("bestFeesByTrials", exhibit);
            case 7:
                return call("undo") && call("takenCount", exhibit);
            case 8:
                return call("send", exhibit, random.nextInt(3)) && call("refusalDetail");
            default:
                return step();
        }
    }

    private boolean stepWithTexts() throws Exception {
        if (random.nextInt(3) > 0) {
            return step();
        }
        StringBuilder text = new StringBuilder(command());
        while (text.length() < 45 && random.nextInt(4) > 0) {
            text.append(';').append(command());
        }
        if (random.nextInt(3) == 0) {
            spoil(text);
        }
        boolean same = true;
        for (int index = 0; index < text.length(); index++) {
            same = same && call("feed", text.charAt(index));
        }
        return same && call("execute") && call("errorPosition") && call("failedCommand")
                && call("refusalReason") && call("refusalDetail") && sameView();
    }

    private String command() {
        String[] shapes = {"room #", "leg #-# %*#", "pile #*#", "drop # #,#+%", "send #>#", "ask # %-%+%", "take #",
            "day %"};
        StringBuilder text = new StringBuilder();
        for (char sign : shapes[random.nextInt(shapes.length)].toCharArray()) {
            if (sign == '#') {
                text.append(random.nextInt(random.nextInt(4) == 0 ? 10 : 4));
            } else if (sign == '%') {
                text.append(random.nextInt(random.nextInt(4) == 0 ? 100 : 10));
            } else {
                text.append(sign);
            }
        }
        return text.toString();
    }

    private void spoil(StringBuilder text) {
        String signs = "0123456789 ;-*,+>=abcdefgklmoprstuyDR\u00e9\u0430";
        int at = random.nextInt(text.length() + 1);
        char sign = signs.charAt(random.nextInt(signs.length()));
        switch (random.nextInt(4)) {
            case 0 -> text.insert(at, sign);
            case 1 -> text.setLength(at);
            case 2 -> text.replace(at, Math.min(at + 1, text.length()), "" + sign);
            default -> text.replace(at, Math.min(at + 1, text.length()), "");
        }
    }

    /** Looks at everything that can be seen. */
    private boolean sameView() throws Exception {
        boolean same = true;
        for (Method method : METHODS) {
            String name = method.getName();
            boolean changes = List.of("addRoom", "setWarmth", "setLeg", "removeLeg", "addExhibit", "setLimit", "drop",
                    "send", "passDays", "ask", "takeBest", "feed", "execute", "undo", "save", "restore",
                    "writePile", "writeWay", "wayRoom", "topplingsIf", "topplingsIfByRounds").contains(name);
            int count = method.getParameterCount();
            for (int one = 0; !changes && one < (count > 0 ? 6 : 1); one++) {
                for (int other = 0; other < (count > 1 ? 6 : 1); other++) {
                    Object[] all = {one, other, random.nextInt(4)};
                    same = same && invoke(method, Arrays.copyOf(all, count));
                }
            }
        }
        return same;
    }

    private Object[] argumentsFor(Method method) {
        Object[] arguments = new Object[method.getParameterCount()];
        int[] sizes = sizesFor(method.getName());
        for (int place = 0; place < arguments.length; place++) {
            if (method.getParameterTypes()[place] == char.class) {
                arguments[place] = "room1 ;".charAt(random.nextInt(7));
            } else {
                arguments[place] = argument(place < sizes.length ? sizes[place] : 6);
            }
        }
        return arguments;
    }

    private static int[] sizesFor(String name) {
        switch (name) {
            case "addRoom":
                return new int[] {10};
            case "setWarmth", "setLimit", "addExhibit":
                return new int[] {5, 10};
            case "setLeg":
                return new int[] {6, 6, 100, 10};
            case "drop", "topplingsIf", "topplingsIfByRounds":
                return new int[] {5, 4, 4, 41};
            case "grainsAt":
                return new int[] {5, 4, 4};
            case "ask":
                return new int[] {5, 50, 100, 100};
            case "isLent":
                return new int[] {5, 100};
            case "passDays":
                return new int[] {12};
            case "outputCharacter":
                return new int[] {20};
            default:
                return new int[] {5, 6, 5};
        }
    }

    private int argument(int size) {
        switch (random.nextInt(40)) {
            case 0:
                return -1;
            case 1:
                return size;
            case 2:
                return size - 1;
            case 3:
                return new int[] {Integer.MIN_VALUE, Integer.MAX_VALUE, 1000000, -1000000}[random.nextInt(4)];
            default:
                return random.nextInt(size);
        }
    }

    private boolean call(String name, Object... arguments) throws Exception {
        for (Method method : METHODS) {
            if (method.getName().equals(name)) {
                return invoke(method, arguments);
            }
        }
        throw new IllegalStateException(name);
    }

    private boolean invoke(Method method, Object[] arguments) throws Exception {
        calls++;
        String got = answer(method, gallery, arguments);
        Method due = Model.class.getMethod(method.getName(), method.getParameterTypes());
        String wanted = answer(due, model, arguments);
        told.add(method.getName() + Arrays.toString(arguments) + " answered " + got + ", due is " + wanted);
        return got.equals(wanted);
    }

    private static String answer(Method method, Object object, Object[] arguments) throws Exception {
        try {
            return String.valueOf(method.invoke(object, arguments));
        } catch (InvocationTargetException e) {
            return "throws." + e.getCause().getClass().getSimpleName();
        }
    }
}

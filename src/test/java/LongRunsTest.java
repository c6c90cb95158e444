import java.lang.reflect.Method;
import java.lang.reflect.Modifier;
import java.util.ArrayList;
import java.util.Comparator;
import java.util.List;
import java.util.Random;

/** Long runs of calls, always the same ones, on the class and on the model beside it. */
public final class LongRunsTest {
    private static final int OBJECTS = 1500;
    private static final int CALLS = 512;
    private static final int[] FAR = {Integer.MIN_VALUE, Integer.MAX_VALUE, -1000, 1000, 64, -64};

    private final Check check = new Check("long runs");
    private final Random random = new Random(20261118);
    private final List<Method> ofClass = faceOf(BesomYard.class);
    private final List<Method> ofModel = faceOf(Model.class);

    public static void main(String[] args) throws Exception {
        LongRunsTest test = new LongRunsTest();
        for (int i = 0; i < OBJECTS && !test.check.hasFailed(); i++) {
            test.run(i);
        }
        test.check.finish();
    }

    private static List<Method> faceOf(Class<?> type) {
        List<Method> face = new ArrayList<>();
        for (Method m : type.getDeclaredMethods()) {
            if (Modifier.isPublic(m.getModifiers())) {
                face.add(m);
            }
        }
        face.sort(Comparator.comparing(Method::getName));
        return face;
    }

    private void run(int object) throws Exception {
        check.due("methods", ofModel.size(), ofClass.size());
        BesomYard yard = new BesomYard();
        Model model = new Model();
        StringBuilder calls = new StringBuilder("object " + object + ": ");
        int texts = object % 4;
        for (int done = 0; done < CALLS && !check.hasFailed();) {
            if (done == 0 || random.nextInt(150) == 0 && texts-- > 0) {
                done += tell(yard, model, calls);
            }
            Method m = pick();
            Object[] args = argumentsOf(m);
            int times = m.getName().equals("year") ? 1 + random.nextInt(6) : 1;
            for (int i = 0; i < times; i++) {
                call(m, args, yard, model, calls);
                done++;
            }
        }
    }

    /** What is done is picked more often than its share, so that there is something to ask about. */
    private Method pick() {
        Method m = ofClass.get(random.nextInt(ofClass.size()));
        String name = m.getName();
        boolean rare = name.equals("type") || name.equals("yard") || name.equals("clear") || name.equals("back");
        if (rare && random.nextInt(8) > 0 || random.nextInt(3) == 0) {
            String[] often = {"cuts", "year", "binds", "sends", "sweeps", "spins", "binds", "cuts", "kept", "saw"};
            String wanted = often[random.nextInt(often.length)];
            return ofClass.stream().filter(x -> x.getName().equals(wanted)).findFirst().orElse(m);
        }
        return m;
    }

    private void call(Method m, Object[] args, BesomYard yard, Model model, StringBuilder calls) throws Exception {
        Method other = ofModel.get(ofClass.indexOf(m));
        calls.append(m.getName()).append(java.util.Arrays.toString(args)).append(' ');
        long want = ((Number) other.invoke(model, args)).longValue();
        long got = ((Number) m.invoke(yard, args)).longValue();
        check.due(got == want ? m.getName() : calls.toString(), got, want);
    }

    private Object[] argumentsOf(Method m) {
        Object[] args = new Object[m.getParameterCount()];
        for (int i = 0; i < args.length; i++) {
            args[i] = random.nextInt(60) == 0 ? FAR[random.nextInt(FAR.length)] : argument(m.getName(), i);
        }
        return args;
    }

    private int upTo(int least, int most) {
        return least + random.nextInt(most - least + 1);
    }

    private int argument(String name, int at) {
        switch (name) {
            case "type":
                return random.nextInt(4) == 0 ? upTo(-1, 256) : " ;wortpl0123456789".charAt(random.nextInt(18));
            case "part":
            case "order":
                return at == 0 ? upTo(-1, 6) : upTo(-1, 4);
            case "binds":
                return random.nextInt(4) == 0 ? upTo(-1, 101) : upTo(1, 15);
            case "inYears":
                return at == 0 ? upTo(0, 6) : upTo(-1, 31);
            case "turn":
                return at == 0 ? upTo(-1, 32) : upTo(-1, 3);
            case "plan":
                return at == 0 ? upTo(0, 5) : upTo(-2, 4);
            case "kept":
            case "next":
                return upTo(-1, 2);
            case "saw":
                return at == 0 ? upTo(random.nextInt(9) == 0 ? -1 : 0, random.nextInt(4) == 0 ? 41 : 4)
                        : at == 1 ? upTo(-1, 8) : upTo(random.nextInt(3) == 0 ? -1 : 3, random.nextInt(3) == 0 ? 16 : 9);
            case "odds":
                return at == 0 ? upTo(-1, 11) : at == 3 ? upTo(-1, 2) : upTo(-1, 7);
            case "keep":
            case "back":
                return upTo(-1, 2);
            case "rate":
                return upTo(-1, 6);
            case "cuts":
            case "sends":
                return upTo(random.nextInt(9) == 0 ? -1 : 0, 6);
            default:
                return upTo(-1, 8);
        }
    }

    private int tell(BesomYard yard, Model model, StringBuilder calls) throws Exception {
        String text = spoilt(someText());
        calls.append("'").append(text).append("' ");
        int had = yard.count(7);
        if (had > 0) {
            check.due("clear", yard.clear(), model.clear());
        }
        for (int i = 0; i < text.length(); i++) {
            check.due("type", yard.type(text.charAt(i)), model.type(text.charAt(i)));
        }
        long want = model.yard();
        check.due(calls + "yard", yard.yard(), want);
        return text.length() + 2;
    }

    private String someText() {
        List<String> items = new ArrayList<>();
        // Late days for some, near ones for others, so that time or twigs may be what is short.
        int lastDay = random.nextInt(3) == 0 ? 60 : 9;
        int mostBesoms = random.nextInt(3) == 0 ? 60 : 12;
        for (int i = random.nextInt(7); i > 0; i--) {
            items.add("w" + upTo(1, 9) + " " + (random.nextInt(2) == 0 ? upTo(0, 30) : upTo(4, 12)));
        }
        for (int i = random.nextInt(7); i > 0; i--) {
            items.add("o" + upTo(1, lastDay) + " " + upTo(1, mostBesoms) + " " + upTo(0, random.nextBoolean() ? 99 : 5));
        }
        if (random.nextBoolean()) {
            items.add("r" + upTo(3, 15));
        }
        if (random.nextInt(4) > 0) {
            items.add("t" + (random.nextBoolean() ? upTo(1, 20) : upTo(1, 3)));
        }
        if (random.nextInt(4) > 0) {
            items.add("p" + (random.nextBoolean() ? upTo(1, 20) : upTo(1, 5)));
        }
        if (random.nextBoolean()) {
            items.add("l" + upTo(1, 15));
        }
        java.util.Collections.shuffle(items, random);
        StringBuilder text = new StringBuilder();
        for (String item : items) {
            text.append(item).append(random.nextInt(9) == 0 ? " ; " : ";");
        }
        return text.toString();
    }

    /** Some texts get a fault, or nearly one. */
    private String spoilt(String text) {
        StringBuilder spoilt = new StringBuilder(text);
        for (int i = random.nextInt(4) == 0 ? upTo(1, 2) : 0; i > 0 && spoilt.length() > 1; i--) {
            int at = random.nextInt(spoilt.length());
            char letter = " ;wortpl0123456789x".charAt(random.nextInt(19));
            switch (random.nextInt(4)) {
                case 0:
                    spoilt.deleteCharAt(at);
                    break;
                case 1:
                    spoilt.setCharAt(at, letter);
                    break;
                case 2:
                    spoilt.insert(at, letter);
                    break;
                default:
                    spoilt.setLength(at);
                    break;
            }
        }
        return spoilt.toString();
    }
}

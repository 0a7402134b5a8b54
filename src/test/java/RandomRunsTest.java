import java.lang.reflect.InvocationTargetException;
import java.lang.reflect.Method;
import java.lang.reflect.Modifier;
import java.util.ArrayList;
import java.util.Arrays;
import java.util.HashMap;
import java.util.List;
import java.util.Map;
import java.util.Random;

/** Runs of random calls, with seeds that stay the same, on the class and on the plain Model of it. */
public final class RandomRunsTest {
    private static final Map<String, Method> OF_CLASS = new HashMap<>();
    private static final Map<String, Method> OF_MODEL = new HashMap<>();

    private final Random random;
    private final RebuildScheduler x = new RebuildScheduler();
    private final Model model = new Model();
    private final List<String> calls = new ArrayList<>();
    private boolean isBroken = false;

    private RandomRunsTest(long seed) {
        random = new Random(seed);
    }

    public static void main(String[] args) {
        int from = args.length > 0 ? Integer.parseInt(args[0]) : 0;
        int runs = args.length > 1 ? Integer.parseInt(args[1]) : 120;
        for (Method m : RebuildScheduler.class.getDeclaredMethods()) {
            if (Modifier.isPublic(m.getModifiers())) {
                OF_CLASS.put(m.getName(), m);
            }
        }
        for (Method m : Model.class.getDeclaredMethods()) {
            OF_MODEL.merge(m.getName(), m, (a, b) -> Modifier.isPrivate(a.getModifiers()) ? b : a);
        }
        for (long seed = from; seed < from + runs && Check.wrongAnswers() < 5; seed++) {
            RandomRunsTest run = new RandomRunsTest(seed);
            run.go();
            if (run.isBroken) {
                System.out.println("seed " + seed + ": " + run.calls);
            }
        }
        Check.end();
    }

    private void go() {
        compareAll();
        loadArray();
        int steps = 20 + random.nextInt(120);
        for (int i = 0; i < steps && !isBroken; i++) {
            step();
            compareAll();
        }
    }

    private void step() {
        int dice = random.nextInt(100);
        if (dice < 45) {
            submit();
        } else if (dice < 80) {
            both("advance", any(10) ? random.nextInt(2200) - 20 : any(3) ? random.nextInt(200) : random.nextInt(15));
        } else if (dice < 85) {
            both("fail", random.nextInt(8) - 1);
        } else if (dice < 89) {
            int now = model.now();
            both("promise", any(3) ? random.nextInt(5) - 2 : now + random.nextInt(any(3) ? 2000 : 200) - 1);
        } else if (dice < 93) {
            setShare();
        } else if (dice < 97) {
            loadTrace();
        } else if (dice < 98) {
            both("feed", random.nextInt(), random.nextInt(), random.nextInt(), random.nextInt(), random.nextInt());
        } else if (any(2)) {
            loadArray();
        }
    }

    private boolean any(int of) {
        return random.nextInt(of) == 0;
    }

    private void submit() {
        int units = Math.max(1, model.stripeCount() * (model.diskCount() - 1));
        int unit = any(25) ? random.nextInt(400) - 5 : random.nextInt(any(2) ? units : Math.min(units, 8));
        int tenant = any(25) ? random.nextInt(8) - 1 : 1 + random.nextInt(Math.max(1, model.tenantCount() - 1));
        int deadline = any(2) ? -1 : any(25) ? random.nextInt(100100) - 50 : model.now() + random.nextInt(60);
        both("submit", tenant, unit, any(3), deadline);
    }

    private void setShare() {
        int reservation = any(3) ? 0 : random.nextInt(any(8) ? 1010 : 300);
        int limit = any(2) ? 0 : reservation + random.nextInt(any(8) ? 900 : 200) - (any(9) ? 20 : 0);
        both("setShare", random.nextInt(7) - (any(9) ? 1 : 0), reservation - (any(30) ? 1 : 0), random.nextInt(103), limit);
    }

    private String shareText() {
        int reservation = any(3) ? 0 : random.nextInt(any(8) ? 1000 : 200);
        int limit = any(2) ? 0 : Math.min(1000, reservation + random.nextInt(any(3) ? 900 : 100));
        return reservation + " " + (1 + random.nextInt(100)) + " " + limit;
    }

    private void loadArray() {
        int stripes = any(5) ? 1 + random.nextInt(64) : 1 + random.nextInt(10);
        StringBuilder text = new StringBuilder("disks " + (3 + random.nextInt(4)) + " stripes " + stripes
                + " base " + (1 + random.nextInt(any(4) ? 50 : 8)) + " seek " + random.nextInt(any(2) ? 100 : 20)
                + " ; rebuild " + shareText() + " window " + (1 + random.nextInt(any(2) ? 8 : 3))
                + " cache " + random.nextInt(any(3) ? 65 : 6) + " ;");
        int tenants = any(30) ? random.nextInt(7) : 1 + random.nextInt(5);
        for (int t = 0; t < tenants; t++) {
            text.append(" tenant " + shareText() + " ;");
        }
        if (any(2)) {
            text.append(" slack " + random.nextInt(any(3) ? 501 : 30) + " ;");
        }
        load("loadArray", text.toString());
    }

    private void loadTrace() {
        StringBuilder text = new StringBuilder();
        int units = Math.max(1, model.stripeCount() * (model.diskCount() - 1));
        int tick = model.now() + random.nextInt(10);
        for (int lines = random.nextInt(any(6) ? 25 : 10); lines > 0; lines--) {
            tick += random.nextInt(any(9) ? 300 : 10);
            text.append("at " + tick + " " + (1 + random.nextInt(Math.max(1, model.tenantCount() - 1)))
                    + (any(3) ? " writes " : " reads ") + random.nextInt(Math.min(units, any(2) ? 6 : 400)));
            if (any(3)) {
                text.append(" by " + (tick + random.nextInt(40) - (any(30) ? 5 : 0)));
            }
            text.append(" ;");
        }
        load("loadTrace", text.toString());
    }

    private void load(String method, String text) {
        String spaced = text.replace(" ;", any(2) ? ";" : "\n ;").replace("; ", any(2) ? ";" : ";\n");
        if (any(4)) {
            spaced = spoil(spaced);
        }
        if (any(6)) {
            spaced = " \n" + spaced;
        }
        int room = (800 - bufferLength()) / 20 * 20;
        if (spaced.length() > room) {
            spaced = spaced.substring(0, room);
        }
        int length = spaced.length();
        StringBuilder padded = new StringBuilder(spaced);
        while (padded.length() % 20 != 0) {
            padded.append(any(2) ? ' ' : 'a');
        }
        for (int at = 0; at < padded.length(); at += 20) {
            both("feed", Check.word(padded, at), Check.word(padded, at + 4), Check.word(padded, at + 8),
                    Check.word(padded, at + 12), Check.word(padded, at + 16));
        }
        both(method, any(20) ? random.nextInt(840) - 20 : length);
    }

    /** Random feeds leave bytes in the buffer; an empty text clears them. */
    private int bufferLength() {
        both("loadTrace", 0);
        return 0;
    }

    private String spoil(String text) {
        String signs = "adkbyrtw0129 ; \n;#A:/`{\t\u0000\u00e9";
        StringBuilder spoiled = new StringBuilder(text);
        for (int n = 1 + random.nextInt(2); n > 0 && spoiled.length() > 0; n--) {
            int at = random.nextInt(spoiled.length());
            char sign = signs.charAt(random.nextInt(signs.length()));
            switch (random.nextInt(4)) {
                case 0:
                    spoiled.setCharAt(at, sign);
                    break;
                case 1:
                    spoiled.insert(at, sign);
                    break;
                case 2:
                    spoiled.deleteCharAt(at);
                    break;
                default:
                    spoiled.setLength(at);
                    break;
            }
        }
        return spoiled.toString();
    }

    private void both(String name, Object... args) {
        if (isBroken) {
            return;
        }
        String due = answer(OF_MODEL.get(name), model, args);
        String got = answer(OF_CLASS.get(name), x, args);
        String call = name + Arrays.toString(args) + " -> " + due;
        if (!due.equals(got)) {
            isBroken = true;
            Check.fail(call + ", but the class answered " + got);
        }
        if (!isObserver(name)) {
            calls.add(call);
        }
    }

    private static boolean isObserver(String name) {
        return !List.of("feed", "loadArray", "loadTrace", "submit", "fail", "advance", "promise", "setShare")
                .contains(name);
    }

    private static String answer(Method method, Object on, Object... args) {
        try {
            return String.valueOf(method.invoke(on, args));
        } catch (InvocationTargetException e) {
            return "throws." + e.getCause().getClass().getSimpleName();
        } catch (IllegalAccessException e) {
            throw new IllegalStateException(e);
        }
    }

    private void compareAll() {
        // calls that throw are slow: wrong arguments come now and then
        int beyond = any(5) ? 1 : 0;
        for (Method m : OF_CLASS.values()) {
            if (m.getParameterCount() == 0 && !m.getName().equals("forecast")) {
                both(m.getName());
            }
        }
        if (any(3)) {
            both("forecast");
        }
        for (int tenant = -beyond; tenant < model.tenantCount() + beyond; tenant++) {
            compareTenant(tenant);
        }
        for (int disk = -beyond; disk <= model.diskCount() + beyond; disk++) {
            for (String name : List.of("serving", "busyUntil", "position", "busyTime")) {
                both(name, disk);
            }
            for (int tenant = -beyond; tenant < model.tenantCount() + beyond; tenant++) {
                both("queueLength", disk, tenant);
                both("behind", disk, tenant);
                boolean isEmpty = beyond == 0 && model.queueLength(disk, tenant) == 0;
                for (int what = isEmpty ? 3 : -beyond; what < 3 + beyond; what++) {
                    both("tag", disk, tenant, what);
                }
            }
        }
        for (int stripe = -beyond; stripe < model.stripeCount() + beyond; stripe++) {
            for (String name : List.of("parityDisk", "stripeState", "stripeDeadline")) {
                both(name, stripe);
            }
            for (int disk = -beyond; disk < model.diskCount() + beyond; disk++) {
                both("isHeld", disk, stripe);
            }
        }
        for (int request = -beyond; request < model.requestCount() + beyond; request++) {
            both("finishedAt", request);
            both("pending", request);
        }
        int unit = random.nextInt(420) - 10;
        both("stripeOf", unit);
        both("diskOf", unit);
    }

    private void compareTenant(int tenant) {
        for (String name : List.of("finished", "totalLatency", "worstLatency", "late")) {
            both(name, tenant);
        }
        for (int what = -1; what <= 3; what++) {
            both("share", tenant, what);
            both("chosen", tenant, what);
        }
    }
}

import java.lang.reflect.Method;
import java.util.ArrayList;
import java.util.Arrays;
import java.util.HashMap;
import java.util.List;
import java.util.Map;
import java.util.Random;

/** Random runs of 512 calls, each answer held against that of PlainHut. */
public final class OracleTest {
    private static final int CALLS = 512;
    private static final Map<String, Method> FACE = new HashMap<>();

    private final Random random;
    private final HutAnswers real = new HutAnswers();
    private final PlainHut plain = new PlainHut();
    private final List<String> told = new ArrayList<>();
    private final RandomText texts;
    private int calls;
    private boolean wrong;

    private OracleTest(long seed) {
        random = new Random(seed);
        texts = new RandomText(random);
    }

    public static void main(String[] args) {
        for (Method m : HutAnswers.class.getMethods()) {
            if (m.getDeclaringClass() == HutAnswers.class) {
                FACE.put(m.getName(), m);
            }
        }
        int runs = args.length > 0 ? Integer.parseInt(args[0]) : 400;
        int base = args.length > 1 ? Integer.parseInt(args[1]) : 0;
        Due due = new Due();
        for (int run = 0; run < runs; run++) {
            OracleTest one = new OracleTest(base + run);
            due.isTrue("run " + (base + run), run % 8 == 7 ? one.goesByOrders() : one.goes());
        }
        due.close("OracleTest");
    }

    private boolean goes() {
        if (random.nextInt(4) > 0) {
            build();
        }
        while (calls < CALLS && !wrong) {
            step();
        }
        return !wrong;
    }

    /** Little but rows of questions, by laws that look at her age. */
    private boolean goesByOrders() {
        build();
        for (int i = 0; i < 3; i++) {
            text(texts.aging(), "law");
            call("force", plain.call("count", 5) - 1);
            for (int n = 0; n < 4; n++) {
                int questions = below(256) | below(128);
                for (int place = -1; place < 8; place++) {
                    call("order", questions & (1 << plain.call("count", 1)) - 1, place);
                }
                call("terms", 2, below(5) == 0 ? 9999 - below(300) : below(300));
                lookGuess();
                act();
            }
        }
        return !wrong;
    }

    private void call(String name, int... args) {
        if (calls >= CALLS || wrong) {
            return;
        }
        calls++;
        int want = plain.call(name, args);
        int got = realCall(name, args);
        told.add(name + Arrays.toString(args) + " = " + want);
        if (got != want) {
            wrong = true;
            System.out.println(String.join("\n", told.subList(Math.max(0, told.size() - 60), told.size())));
            System.out.println("but it answered " + got);
        }
    }

    private int realCall(String name, int[] args) {
        try {
            Object[] boxed = Arrays.stream(args).boxed().toArray();
            return (Integer) FACE.get(name).invoke(real, boxed);
        } catch (ReflectiveOperationException e) {
            System.out.println(name + " threw " + e.getCause());
            return Integer.MAX_VALUE;
        }
    }

    private int below(int n) {
        return random.nextInt(n);
    }

    private int odd(int usual) {
        int[] wild = {Integer.MIN_VALUE, Integer.MAX_VALUE, -2, -1, 0, 1, 100, 256, 1000, 10000, 65536};
        return below(25) == 0 ? wild[below(wild.length)] : usual;
    }

    private void build() {
        int things = 2 + below(7);
        for (int i = 0; i < things; i++) {
            call("thing", 1 + below(99));
        }
        int questions = 2 + below(7);
        for (int i = 0; i < questions; i++) {
            call("question", below(3) == 0 ? below(100) : below(8), below(2), below(65536));
        }
        for (int i = below(4); i > 0; i--) {
            text(texts.law(), "law");
        }
        call("force", below(3) - 1);
        call("hide", below(things));
    }

    private void text(String signs, String reader) {
        byte[] bytes = new byte[(signs.length() + 19) / 20 * 20];
        Arrays.fill(bytes, (byte) ' ');
        for (int i = 0; i < signs.length(); i++) {
            bytes[i] = (byte) signs.charAt(i);
        }
        java.nio.IntBuffer fours = java.nio.ByteBuffer.wrap(bytes).asIntBuffer();
        while (fours.hasRemaining()) {
            call("feed", fours.get(), fours.get(), fours.get(), fours.get(), fours.get());
        }
        if (below(10) > 0) {
            call("end", signs.length());
        }
        call(reader);
        call(below(2) == 0 ? "fault" : "status");
    }

    private void step() {
        int kind = below(100);
        if (kind < 8) {
            text(below(10) == 0 ? texts.spoilt(texts.law()) : texts.law(), "law");
            call("force", odd(below(7) - 1));
        } else if (kind < 20) {
            text(below(8) == 0 ? texts.spoilt(texts.orders()) : texts.orders(), "orders");
            call("stopped");
            call("count", 6);
        } else if (kind < 40) {
            act();
        } else if (kind < 85) {
            look();
        } else if (kind < 95) {
            change();
        } else {
            strange();
        }
    }

    private void act() {
        switch (below(8)) {
            case 0: case 1: case 2: call("ask", odd(below(8))); break;
            case 3: call("pour", odd(1 + below(9))); break;
            case 4: call("pass"); break;
            case 5: call("hide", odd(below(9) - 1)); break;
            default: call("undo"); break;
        }
        call(below(2) == 0 ? "known" : "count", below(17));
    }

    private void look() {
        switch (below(12)) {
            case 0: call("worst", odd(goal()), odd(below(2)), odd(below(2))); break;
            case 1: call("mean", odd(goal()), odd(below(2)), odd(below(2))); break;
            case 2: call("heap", odd(below(2))); break;
            case 3: call("apart", odd(below(8)), odd(below(8))); break;
            case 4: call("order", odd(below(256) & (below(5) == 0 ? 255 : below(256))), odd(below(4) - 1)); break;
            case 5: lookGuess(); break;
            case 6: call("share", odd(below(6))); break;
            case 7: call("compare", odd(below(7) - 1)); break;
            case 8: call("huts", odd(below(1000001)), odd(1 + below(40))); break;
            case 9: call("drawn", odd(below(12))); break;
            case 10: call("odds", odd(below(8)), odd(below(4))); break;
            default: call("of", odd(below(8)), odd(below(14))); break;
        }
    }

    private int goal() {
        return below(3) == 0 ? -1 : below(256) & below(256) | below(8);
    }

    private void lookGuess() {
        int age = plain.call("count", 16);
        call("guess", odd(Math.max(0, age - below(20))), odd(below(4)), odd(below(5) - 1), odd(below(3)));
    }

    private void change() {
        switch (below(9)) {
            case 0: call("thing", odd(1 + below(99))); break;
            case 1: call("question", odd(below(10)), odd(below(2)), odd(below(65536))); break;
            case 2: call("visitor", odd(below(256))); break;
            case 3: call("terms", 0, odd(below(4) == 0 ? 999 - below(4) : below(1000))); break;
            case 4: call("terms", 1, odd(below(10))); break;
            case 5: call("terms", 2, odd(below(4) == 0 ? 9999 - below(60) : below(200))); break;
            case 6: call("image", odd(below(2))); break;
            case 7: call("back", odd(below(2))); break;
            default: call("force", odd(below(7) - 1)); break;
        }
        call("count", odd(below(18)));
    }

    private void strange() {
        if (below(2) == 0) {
            int n = below(4);
            call("feed", below(100) << 24 | below(2) << 16 | below(65536), random.nextInt(),
                    below(120) << 24 | below(3) << 16 | below(65536), n, below(10) << 24);
            call("end", odd(below(21)));
            call("row");
            call("hens");
        } else {
            call("terms", odd(below(3)), random.nextInt());
            call("feed", random.nextInt(), random.nextInt(), random.nextInt(), random.nextInt(), random.nextInt());
            call(below(2) == 0 ? "law" : "orders");
            call("fault");
            call("stopped");
        }
    }
}

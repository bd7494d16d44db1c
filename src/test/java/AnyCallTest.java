import java.lang.reflect.Method;
import java.lang.reflect.Modifier;
import java.util.ArrayList;
import java.util.List;
import java.util.Random;

/** Any numbers in any state: no call throws, none runs long, and the same calls always give the same answers. */
public final class AnyCallTest {
    private static final int[] ODD = {0, 1, -1, -2, 2, 7, 8, 9, 10, 15, 16, 20, 40, 60, 99, 100, 101, 200, 255, 256, 257, 700,
        999999999, 1000000000, Integer.MAX_VALUE, Integer.MIN_VALUE, Integer.MAX_VALUE - 5, Integer.MIN_VALUE + 9};

    /** With the feeds of the LAWs drawn between them these stay below 512 calls. */
    private static final int SAME_CALLS = 200;

    private AnyCallTest() {
    }

    public static void main(String[] args) throws Exception {
        List<Method> face = new ArrayList<>();
        for (Method m : DrownedLand.class.getDeclaredMethods()) {
            if (Modifier.isPublic(m.getModifiers())) {
                face.add(m);
            }
        }
        face.sort((a, b) -> a.getName().compareTo(b.getName()));
        Check.due("methods of the face", face.size(), 40);
        for (int run = 0; run < 150; run++) {
            long first = sumOfAnswers(face, run);
            Check.due("run " + run + " again", sumOfAnswers(face, run), first);
        }
        dearest();
        Check.end("AnyCallTest");
    }

    private static long sumOfAnswers(List<Method> face, int run) throws Exception {
        Random random = new Random(run);
        DrownedLand x = new DrownedLand();
        long sum = 0;
        for (int i = 0; i < 1500; i++) {
            if (random.nextInt(40) == 0) {
                Check.law(new Land(x), new String(new RandomLaw(random).make(random.nextInt(30), 600),
                        java.nio.charset.StandardCharsets.ISO_8859_1));
            }
            Method m = face.get(random.nextInt(face.size()));
            Object[] with = new Object[m.getParameterCount()];
            for (int k = 0; k < with.length; k++) {
                with[k] = m.getParameterTypes()[k] == boolean.class ? (Object) random.nextBoolean() : (Object) number(random);
            }
            Object answer = m.invoke(x, with);
            // what is answered after the 512th call is free, but no call may throw then either
            sum = i < SAME_CALLS ? sum * 31 + answer.hashCode() : sum;
        }
        return sum;
    }

    private static int number(Random random) {
        return switch (random.nextInt(6)) {
            case 0 -> ODD[random.nextInt(ODD.length)];
            case 1 -> random.nextInt(300) - 20;
            case 2 -> random.nextInt(3);
            default -> random.nextInt(16);
        };
    }

    /** The dearest calls under a LAW that is as long as it can be and parts all AGES, 512 of them on one object. */
    private static void dearest() {
        StringBuilder s = new StringBuilder("sea 0 1;live 5 if age>98");
        while (s.length() < 600) {
            s.append(" or wind>9");
        }
        s.append(";live 1 if ");
        for (int i = 1; i <= 3; i++) {
            s.append("age=").append(3 * i).append(" or ");
        }
        s.append("x<9;fish 3;");
        Land x = Check.under(s.toString());
        for (int p = 0; p < 10; p++) {
            x.place(20 * p);
        }
        x.find(0, 0, 0, 99);
        long start = System.nanoTime();
        for (int i = 0; i < 110; i++) {
            x.sound(i, i % 50, 50 + i % 50);
            x.lived(i, 0, 99, 0);
            x.carried(0, 0);
            x.ship(6, i % 100, 0);
        }
        boolean inTime = System.nanoTime() - start < 60_000_000_000L;
        Check.due("some 500 dear calls in a minute", inTime, true);
    }
}

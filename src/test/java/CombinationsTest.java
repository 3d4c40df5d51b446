import java.lang.reflect.Array;
import java.lang.reflect.InvocationTargetException;
import java.lang.reflect.Method;
import java.util.Arrays;

/**
 * For each call all combinations of the numbers at and around its bounds, held against the model's answers: so that
 * whatever is wrong at once with a call's numbers, the due answer comes, and nothing is thrown.
 */
public final class CombinationsTest {
    private static final Check CHECK = new Check("CombinationsTest");
    private static final int LEAST = Integer.MIN_VALUE;
    private static final int MOST = Integer.MAX_VALUE;
    private static final int[] FEW = {LEAST, -1, 0, 1, 2, 3, MOST};
    private static final int[] SHEETS = {-1, 0, 1, 2, 3, 4};
    private static final int[] LANES = {-1, 0, 1, 2, 3};
    private static final int[] PLACES = {LEAST, -1, 0, 1, 2, 3, 4, 5, MOST};
    private static final int[] WEEKS = {LEAST, -1, 0, 6, 7, 8, 19, 20, 51, 52, MOST};
    private static final int[] FROM_0_OR_NOT = {0, 1};

    /** Three works, lots and ships; entries 0 to 2; sheets 0 to 2 of lanes 0 to 2, sheet 3 nothing; ship 2 not laid. */
    private static final String SCENE = "works 3,works 5,works 2,total 1000,lot 0 700 120,lot 1 950 80,weeks 7,lot 2 10 60,"
            + "rail 0 90,rail 1 80,rail 2 20,lend 0 1 40,shut 2 1 20,shut 2 0 30,ship 2 100 20 3 5,ship 0 60 30 1 7,"
            + "ship 4 50 10 0 2,load 0 0 50,load 0 1 20,load 1 2 15,sheet 0 0 4,item 0 0 0 3,item 0 0 1 10,item 0 0 2 -1,"
            + "sheet 1 1 4,item 1 1 0 8,item 1 1 3 9,sheet 2 2 3,item 2 2 0 7,item 2 2 2 12,surf 1 1 1 0 2,bar 6,lay 3,"
            + "type 48 1";

    private static SaltPool x;
    private static Model model;
    private static int calls;

    public static void main(String[] args) throws ReflectiveOperationException {
        CHECK.section("1");
        all("works", new int[] {LEAST, -1, 0, 1, 2, 999, 1000, 1001, MOST});
        all("weeks", new int[] {LEAST, -1, 0, 1, 43, 44, 45, 51, 52, MOST});
        all("lot", FEW, new int[] {LEAST, -1, 0, 1000, 1001, MOST}, new int[] {LEAST, 0, 1, 10000, 10001, MOST});
        all("rail", FEW, new int[] {LEAST, -1, 0, 1, 30, 31, 40, 41, MOST});
        all("told", FEW, new int[] {LEAST, -1, 0, 1, 2, 3, 4, 5, 6, MOST});
        CHECK.section("2");
        all("total", new int[] {LEAST, -1, 0, 1, 1000000, 1000001, MOST});
        all("lend", FEW, FEW, new int[] {LEAST, -1, 0, 1, 185, 186, 210, 211, 520, 521, 100000, 100001, MOST});
        all("shut", FEW, FROM_0_OR_NOT, WEEKS);
        all("open", FEW, WEEKS, new int[] {LEAST, -1, 0, 1, 2, 3, 4, MOST});
        all("quota", FEW, WEEKS, new int[] {LEAST, -1, 0, 1, 2, 3, 4, MOST});
        all("left", FEW);
        all("type", new int[] {LEAST, -1, 0, 31, 32, 126, 127, 0x3A3120, 0x7F3030, MOST}, PLACES);
        CHECK.section("3");
        all("ship", new int[] {-1, 0, 59, 60}, new int[] {0, 1, 20000, 20001}, new int[] {0, 1, 2000, 2001},
                new int[] {-1, 0, 30, 31}, new int[] {-1, 0, 100, 101});
        all("load", FEW, FEW, new int[] {LEAST, -1, 0, 1, 5, 6, 30, 31, 40, 41, 45, 46, 50, 51, 60, 61, MOST});
        all("held", FEW, new int[] {LEAST, -2, -1, 0, 1, 2, 3, MOST});
        all("grade", FEW);
        all("surf", new int[] {-1, 0, 56, 57, 59, 60}, SHEETS, LANES, PLACES,
                new int[] {LEAST, -1, 0, 1, 2, 3, 4, 5, 60, 61, MOST});
        all("sea", new int[] {LEAST, -1, 0, 1, 2, 58, 59, 60, MOST});
        all("bar", new int[] {LEAST, -1, 0, 5, 9, 10, MOST});
        all("lay", new int[] {LEAST, LEAST + 1, -1, 0, 1, 2, 3, 4, 5, 6, 7, 8, 9, 15, 63, 64, MOST});
        all("laid", FEW, new int[] {LEAST, -1, 0, 1, 2, 3, 4, MOST});
        all("count", new int[] {LEAST, -1, 0, 1, 2, 3, 4, 5, 6, 7, 8, MOST});
        CHECK.section("4");
        all("sheet", SHEETS, LANES, new int[] {LEAST, -1, 0, 1, 59, 60, 61, MOST});
        all("drop", SHEETS);
        all("item", SHEETS, LANES, PLACES, new int[] {LEAST, -1, 9, 10, 128, 256, MOST});
        all("copy", SHEETS, PLACES, SHEETS, PLACES, PLACES);
        CHECK.close();
    }

    private static void all(String name, int[]... numbers) throws ReflectiveOperationException {
        begin();
        int[] at = new int[numbers.length];
        boolean more = true;
        while (more && CHECK.isRight()) {
            int[] chosen = new int[at.length];
            for (int k = 0; k < at.length; k++) {
                chosen[k] = numbers[k][at[k]];
            }
            // What was not refused may have changed something, and an object is good for 512 calls.
            if (call(name, chosen) >= 0 || calls > 500) {
                begin();
            }
            more = next(at, numbers);
        }
    }

    private static boolean next(int[] at, int[][] numbers) {
        for (int k = 0; k < at.length; k++) {
            at[k]++;
            if (at[k] < numbers[k].length) {
                return true;
            }
            at[k] = 0;
        }
        return false;
    }

    private static void begin() throws ReflectiveOperationException {
        x = new SaltPool();
        model = new Model();
        calls = 0;
        for (String one : SCENE.split(",")) {
            String[] words = one.split(" ");
            int[] numbers = Arrays.stream(words).skip(1).mapToInt(Integer::parseInt).toArray();
            CHECK.holds("the scene's " + one + " is not refused", call(words[0], numbers) >= 0);
        }
    }

    private static int call(String name, int[] numbers) throws ReflectiveOperationException {
        Method face = named(SaltPool.class, name);
        Object[] given = new Object[numbers.length];
        for (int k = 0; k < given.length; k++) {
            Class<?> type = face.getParameterTypes()[k];
            Object one = Array.newInstance(type, 1);
            if (type == boolean.class) {
                Array.setBoolean(one, 0, numbers[k] == 1);
            } else {
                Array.setInt(one, 0, numbers[k]);
            }
            given[k] = Array.get(one, 0);
        }
        calls++;
        int due = (Integer) named(Model.class, name).invoke(model, given);
        String told = name + Arrays.toString(numbers);
        try {
            int answer = (Integer) face.invoke(x, given);
            CHECK.due(told, answer, due);
            return answer;
        } catch (InvocationTargetException thrown) {
            CHECK.holds(told + " throws nothing, but it did: " + thrown.getCause(), false);
            return due;
        }
    }

    private static Method named(Class<?> of, String name) {
        for (Method method : of.getDeclaredMethods()) {
            if (method.getName().equals(name)) {
                return method;
            }
        }
        throw new IllegalStateException("no method " + name);
    }
}

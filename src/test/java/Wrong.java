/**
 * Numbers just outside of what a call takes, far outside, and such as would be right after a
 * wrap-around (of a shift by 32, of the low bits alone, of the sign).
 */
final class Wrong {
    static final int[] FUNCTIONS = {
        -1, 6, 7, 8, -6, 32, 37, 64, 256, 65536, 1 << 30, Integer.MIN_VALUE, Integer.MAX_VALUE,
        Integer.MIN_VALUE + 5
    };
    static final int[] VARIABLES = {
        -1, 4, 5, 8, -4, 32, 35, 256, 65536, Integer.MIN_VALUE, Integer.MAX_VALUE,
        Integer.MIN_VALUE + 3
    };
    static final int[] POINTS = {
        -1, 16, 17, 31, 32, 47, -16, 256, 65536, Integer.MIN_VALUE, Integer.MAX_VALUE,
        Integer.MIN_VALUE + 15
    };
    static final int[] TABLES = {
        -1, 65536, 65537, 131071, -65535, -65536, 1 << 20, Integer.MIN_VALUE, Integer.MAX_VALUE,
        Integer.MIN_VALUE + 65535
    };
    static final int[] WAYS = {
        -1, 4, 5, 8, -4, 32, 256, 65536, Integer.MIN_VALUE, Integer.MAX_VALUE,
        Integer.MIN_VALUE + 3
    };
    static final int[] SETS = {
        0, 64, -1, 65, 127, 128, -63, -64, 1 << 30 | 1, Integer.MIN_VALUE, Integer.MAX_VALUE,
        Integer.MIN_VALUE + 63
    };

    private Wrong() {
    }

    /** The call takes each function from 0 to 5 on a new bench, and refuses each other one. */
    static void function(String call, Bench.AskedWith asked) {
        for (int function = 0; function <= 5; function++) {
            int taken = function;
            Check.dueNoThrow(call + " of " + taken, () -> asked.of(new ZhegalkinBench(), taken));
        }
        for (int wrong : FUNCTIONS) {
            Check.dueIndex(call + " of " + wrong, () -> asked.of(new ZhegalkinBench(), wrong));
        }
    }

    /** The call takes each variable from 0 to 3 on a new bench, and refuses each other one. */
    static void variable(String call, Bench.AskedWith asked) {
        for (int variable = 0; variable <= 3; variable++) {
            int taken = variable;
            Check.dueNoThrow(call + " of " + taken, () -> asked.of(new ZhegalkinBench(), taken));
        }
        for (int wrong : VARIABLES) {
            Check.dueIndex(call + " of " + wrong, () -> asked.of(new ZhegalkinBench(), wrong));
        }
    }
}

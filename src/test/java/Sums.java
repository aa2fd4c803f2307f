/** What the numeric INSTRUCTIONS and loads give, by the Java library, for the model of THE RUN. */
final class Sums {
    private Sums() {
    }

    /** How many bytes a load or store moves. */
    static int width(int op) {
        switch (op) {
            case 0x28: case 0x34: case 0x35: case 0x36: case 0x3e: return 4;
            case 0x29: case 0x37: return 8;
            case 0x2e: case 0x2f: case 0x32: case 0x33: case 0x3b: case 0x3d: return 2;
            default: return 1;
        }
    }

    /** The value of these bytes, which come with zeros above them. */
    static long loaded(int op, long value) {
        switch (op) {
            case 0x28: case 0x34: return (int) value;
            case 0x2c: case 0x30: return (byte) value;
            case 0x2e: case 0x32: return (short) value;
            default: return value;
        }
    }

    static long of(int op, long a, long b) {
        if (op == 0xa7) {
            return (int) a;
        }
        if (op == 0xac) {
            return a;
        }
        if (op == 0xad) {
            return Integer.toUnsignedLong((int) a);
        }
        if (op >= 0x6d && op <= 0x70 && b == 0 || op >= 0x7f && op <= 0x82 && b == 0) {
            throw new Run.Trap(2);
        }
        if (op >= 0x50 && op <= 0x5a) {
            return compared(op - 0x50, a, Long.compare(a, b), Long.compareUnsigned(a, b));
        }
        if (op >= 0x45 && op <= 0x4f) {
            return compared(op - 0x45, a, Integer.compare((int) a, (int) b), Integer.compareUnsigned((int) a, (int) b));
        }
        return op < 0x79 ? narrow(op, (int) a, (int) b) : wide(op, a, b);
    }

    private static long compared(int which, long a, int signs, int without) {
        switch (which) {
            case 0: return a == 0 ? 1 : 0;
            case 1: return signs == 0 ? 1 : 0;
            case 2: return signs != 0 ? 1 : 0;
            case 3: return signs < 0 ? 1 : 0;
            case 4: return without < 0 ? 1 : 0;
            case 5: return signs > 0 ? 1 : 0;
            case 6: return without > 0 ? 1 : 0;
            case 7: return signs <= 0 ? 1 : 0;
            case 8: return without <= 0 ? 1 : 0;
            case 9: return signs >= 0 ? 1 : 0;
            default: return without >= 0 ? 1 : 0;
        }
    }

    private static int narrow(int op, int a, int b) {
        if (op == 0x6d && a == Integer.MIN_VALUE && b == -1) {
            throw new Run.Trap(2);
        }
        switch (op) {
            case 0x67: return Integer.numberOfLeadingZeros(a);
            case 0x68: return Integer.numberOfTrailingZeros(a);
            case 0x69: return Integer.bitCount(a);
            case 0x6a: return a + b;
            case 0x6b: return a - b;
            case 0x6c: return a * b;
            case 0x6d: return a / b;
            case 0x6e: return Integer.divideUnsigned(a, b);
            case 0x6f: return a % b;
            case 0x70: return Integer.remainderUnsigned(a, b);
            case 0x71: return a & b;
            case 0x72: return a | b;
            case 0x73: return a ^ b;
            case 0x74: return a << b;
            case 0x75: return a >> b;
            case 0x76: return a >>> b;
            case 0x77: return Integer.rotateLeft(a, b);
            default: return Integer.rotateRight(a, b);
        }
    }

    private static long wide(int op, long a, long b) {
        if (op == 0x7f && a == Long.MIN_VALUE && b == -1) {
            throw new Run.Trap(2);
        }
        switch (op) {
            case 0x79: return Long.numberOfLeadingZeros(a);
            case 0x7a: return Long.numberOfTrailingZeros(a);
            case 0x7b: return Long.bitCount(a);
            case 0x7c: return a + b;
            case 0x7d: return a - b;
            case 0x7e: return a * b;
            case 0x7f: return a / b;
            case 0x80: return Long.divideUnsigned(a, b);
            case 0x81: return a % b;
            case 0x82: return Long.remainderUnsigned(a, b);
            case 0x83: return a & b;
            case 0x84: return a | b;
            case 0x85: return a ^ b;
            case 0x86: return a << b;
            case 0x87: return a >> b;
            case 0x88: return a >>> b;
            case 0x89: return Long.rotateLeft(a, (int) b);
            default: return Long.rotateRight(a, (int) b);
        }
    }
}

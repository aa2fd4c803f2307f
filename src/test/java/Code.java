import java.util.List;

/** An INSTRUCTION with those that give what it takes, and with those inside it: a tree that writes itself as bytes. */
final class Code {
    final int op;
    final Code[] takes;
    /** The constant, the index, or the offset. */
    final long number;
    /** Of a br_table; the last one, too. */
    final int[] labels;
    /** Of a block, a loop or an if: its type, and what is in it. */
    final int result;
    final List<Code> body;
    /** Behind else; null without. */
    final List<Code> otherwise;
    private final byte[] written;

    private Code(int op, Code[] takes, long number, int[] labels, byte[] written) {
        this.op = op;
        this.takes = takes;
        this.number = number;
        this.labels = labels;
        this.written = written;
        result = Binary.NO;
        body = List.of();
        otherwise = null;
    }

    private Code(int op, Code[] takes, int result, List<Code> body, List<Code> otherwise) {
        this.op = op;
        this.takes = takes;
        this.result = result;
        this.body = body;
        this.otherwise = otherwise;
        number = 0;
        labels = new int[0];
        byte[] other = otherwise == null ? Binary.NOTHING : Binary.join(Binary.bytes(0x05), all(otherwise));
        written = Binary.join(Binary.bytes(op, result), all(body), other, Binary.bytes(0x0b));
    }

    static Code plain(int op, Code... takes) {
        return new Code(op, takes, 0, new int[0], Binary.bytes(op));
    }

    static Code indexed(int op, int index, Code... takes) {
        return new Code(op, takes, index, new int[0], Binary.op(op, index));
    }

    static Code constant(int type, long value) {
        boolean narrow = type == Binary.I32;
        byte[] written = narrow ? Binary.i32((int) value) : Binary.i64(value);
        return new Code(written[0], new Code[0], narrow ? (int) value : value, new int[0], written);
    }

    static Code access(int op, int align, long offset, Code... takes) {
        return new Code(op, takes, offset, new int[0], Binary.access(op, align, offset));
    }

    static Code pages(int op, Code... takes) {
        return new Code(op, takes, 0, new int[0], Binary.bytes(op, 0));
    }

    static Code indirect(int type, Code... takes) {
        return new Code(0x11, takes, type, new int[0], Binary.indirect(type));
    }

    static Code branches(int[] labels, Code... takes) {
        int last = labels.length - 1;
        return new Code(0x0e, takes, 0, labels, Binary.labels(labels[last], java.util.Arrays.copyOf(labels, last)));
    }

    static Code block(int op, int result, List<Code> body) {
        return new Code(op, new Code[0], result, body, null);
    }

    static Code choice(Code condition, int result, List<Code> body, List<Code> otherwise) {
        return new Code(0x04, new Code[] {condition}, result, body, otherwise);
    }

    byte[] bytes() {
        byte[][] parts = new byte[takes.length + 1][];
        for (int i = 0; i < takes.length; i++) {
            parts[i] = takes[i].bytes();
        }
        parts[takes.length] = written;
        return Binary.join(parts);
    }

    static byte[] all(List<Code> codes) {
        byte[][] parts = new byte[codes.size()][];
        for (int i = 0; i < parts.length; i++) {
            parts[i] = codes.get(i).bytes();
        }
        return Binary.join(parts);
    }
}

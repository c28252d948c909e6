import java.util.function.Supplier;

/**
 * Hands out an object for every single call, a new one of the same making in time: the document
 * promises nothing of an object after its 512th call.
 */
final class Renewed {
    /** The making has the rest of the 512 calls to itself. */
    private static final int CALLS = 450;

    private final Supplier<FoldedFamily> making;
    private FoldedFamily current;
    private int left;

    Renewed(Supplier<FoldedFamily> making) {
        this.making = making;
    }

    FoldedFamily next() {
        if (left == 0) {
            current = making.get();
            left = CALLS;
        }
        left--;
        return current;
    }
}

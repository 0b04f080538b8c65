import java.util.ArrayList;
import java.util.List;
import java.util.function.Supplier;

/** All that can be seen of an object, so that two of them can be held against one another. */
final class Picture {
    private static final int BOOK_NIGHTS = 61;
    private static final int MOST_UNDONE = 22;
    /** An object is asked for at most 512 calls, so that no more pictures are made of one. */
    private static final int AT_ONCE = 3;

    private Picture() {
    }

    /** What is seen at once, without a call that changes anything. */
    static List<Integer> now(FireTax x) {
        List<Integer> seen = new ArrayList<>();
        for (int what = 0; what <= 15; what++) {
            seen.add(x.count(what));
        }
        for (int number = 0; number < 8; number++) {
            for (int what = 0; what < 7; what++) {
                seen.add(x.house(number, what));
            }
            for (int what = 0; what < 3; what++) {
                seen.add(x.officer(number, what));
            }
            seen.add(x.ahead(number, 9, 0));
        }
        return seen;
    }

    /**
     * What is seen as it goes on: what can be undone, what books and images hold, what is on the tape. The maker makes the
     * same object again and again, each for a part of what is seen.
     */
    static List<Integer> all(Supplier<FireTax> maker) {
        FireTax first = maker.get();
        List<Integer> seen = now(first);
        books(first, seen);
        for (int acts = 0; acts < MOST_UNDONE; acts += AT_ONCE) {
            undone(maker.get(), acts, seen);
        }
        for (int k = 0; k < 4; k++) {
            FireTax x = maker.get();
            seen.add(x.back(k));
            seen.addAll(now(x));
            books(x, seen);
            seen.add(x.undo());
            seen.addAll(now(x));
        }
        for (int r = -1; r < 6; r++) {
            FireTax x = maker.get();
            seen.add(x.duchy());
            seen.addAll(now(x));
            seen.add(x.force(r));
            seen.add(x.night());
            seen.addAll(now(x));
        }
        return seen;
    }

    /** Some acts are undone, and the next ones with a picture behind each. */
    private static void undone(FireTax x, int acts, List<Integer> seen) {
        for (int i = 0; i < acts; i++) {
            x.undo();
        }
        for (int i = 0; i < AT_ONCE; i++) {
            seen.add(x.undo());
            seen.addAll(now(x));
        }
    }

    private static void books(FireTax x, List<Integer> seen) {
        seen.add(x.ruled(0));
        seen.add(x.ruled(1));
        for (int n = 0; n < BOOK_NIGHTS; n += 6) {
            seen.add(x.look(n, 0));
            seen.add(x.look(n, 1));
        }
    }

    /** Where two pictures part, or NONE. */
    static int parting(List<Integer> one, List<Integer> other) {
        int size = Math.min(one.size(), other.size());
        for (int i = 0; i < size; i++) {
            if (!one.get(i).equals(other.get(i))) {
                return i;
            }
        }
        return one.size() == other.size() ? FireTax.NONE : size;
    }
}

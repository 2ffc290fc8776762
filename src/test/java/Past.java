import java.util.ArrayList;
import java.util.List;
import java.util.function.Consumer;
import java.util.function.Function;
import java.util.function.Supplier;

/**
 * Calls by which an object came to be as it is. A refused call is made on one of two objects with
 * the same past: behind it both must answer the same, whatever they are asked.
 */
final class Past {
    private final Supplier<WharfQuery> maker;
    private final List<Function<WharfQuery, List<String>>> portraits;
    private final List<List<String>> untouched = new ArrayList<>();

    Past(Supplier<WharfQuery> maker) {
        this(maker, List.of(Portrait::ofState, Portrait::ofRows, Portrait::ofFuture));
    }

    Past(Supplier<WharfQuery> maker, List<Function<WharfQuery, List<String>>> portraits) {
        this.maker = maker;
        this.portraits = portraits;
        for (Function<WharfQuery, List<String>> portrait : portraits) {
            untouched.add(portrait.apply(maker.get()));
        }
    }

    void outOfBounds(String what, Consumer<WharfQuery> call) {
        refuses(what, IndexOutOfBoundsException.class, call);
    }

    void badArgument(String what, Consumer<WharfQuery> call) {
        refuses(what, IllegalArgumentException.class, call);
    }

    void badState(String what, Consumer<WharfQuery> call) {
        refuses(what, IllegalStateException.class, call);
    }

    private void refuses(String what, Class<? extends RuntimeException> due, Consumer<WharfQuery> call) {
        for (int i = 0; i < portraits.size(); i++) {
            WharfQuery refused = maker.get();
            Check.throwsJust(what, due, () -> call.accept(refused));
            compare(what, portraits.get(i).apply(refused), untouched.get(i));
        }
    }

    private static void compare(String what, List<String> got, List<String> due) {
        for (int i = 0; i < due.size(); i++) {
            if (i >= got.size() || !got.get(i).equals(due.get(i))) {
                String changed = i < got.size() ? got.get(i) : "nothing";
                Check.wrongBecause(what + " is refused, but behind it: " + changed + ", due is " + due.get(i));
                return;
            }
        }
        Check.same(what + " is refused, and the calls behind it", got.size(), due.size());
    }

    /** Arguments that are not in this range: next to it, far from it, and such as a narrow type takes for one in it. */
    static int[] outside(int least, int most) {
        return new int[] {
            least - 1, most + 1, -1 - most, least + 65536, most + 65536,
            Integer.MIN_VALUE, Integer.MIN_VALUE + least, Integer.MAX_VALUE,
        };
    }
}

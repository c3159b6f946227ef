import java.util.ArrayList;
import java.util.Arrays;
import java.util.List;

/**
 * The numbers of one call in one state: of each, some that are taken (the last on both sides among
 * them) and some that are not (the first on both sides among them), while the others are good.
 */
final class Numbers {
    interface Call {
        int on(WhoKnows x, int[] a);
    }

    private final String name;
    private final States state;
    private final Call call;
    private final List<int[]> good = new ArrayList<>();
    private final List<int[]> bad = new ArrayList<>();

    private Numbers(States state, String name, Call call) {
        this.state = state;
        this.name = name;
        this.call = call;
    }

    static Numbers of(States state, String name, Call call) {
        return new Numbers(state, name, call);
    }

    Numbers from(int least, int most) {
        return these(least, most).not(least - 1, most + 1);
    }

    Numbers these(int... taken) {
        good.add(taken);
        return this;
    }

    Numbers not(int... refused) {
        int[] all = Arrays.copyOf(refused, refused.length + 2);
        all[refused.length] = Integer.MIN_VALUE;
        all[refused.length + 1] = Integer.MAX_VALUE;
        return notAbove(all);
    }

    /** Where what lies below is not BAD. */
    Numbers notAbove(int... refused) {
        bad.add(refused);
        return this;
    }

    void check() {
        for (int i = 0; i < good.size(); i++) {
            for (int v : good.get(i)) {
                int[] a = with(i, v);
                Check.due(told(a) + " in state " + state + " is BAD", call.on(state.get(), a) == WhoKnows.BAD ? 1 : 0, 0);
            }
            for (int v : bad.get(i)) {
                int[] a = with(i, v);
                Refusal.due(told(a), state, x -> call.on(x, a), WhoKnows.BAD);
            }
        }
    }

    private int[] with(int place, int v) {
        int[] a = new int[good.size()];
        for (int i = 0; i < a.length; i++) {
            a[i] = good.get(i)[0];
        }
        a[place] = v;
        return a;
    }

    private String told(int[] a) {
        return name + " of " + Arrays.toString(a);
    }
}

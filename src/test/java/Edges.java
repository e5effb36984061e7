import java.util.ArrayList;
import java.util.List;
import java.util.function.Supplier;

/** A call asked at each bound of each of its numbers and just beyond, every time on a new object. */
final class Edges {
    /** The call with its numbers in their order. */
    interface Call {
        long on(LongSeats x, int[] numbers);
    }

    private record Number(String name, int least, long atLeast, int most, long atMost, int usual) {
    }

    private final Check check;
    private final String name;
    private final Supplier<LongSeats> scene;
    private final Call call;
    private final long refusal;
    private final List<Number> numbers = new ArrayList<>();

    Edges(Check check, String name, Supplier<LongSeats> scene, long refusal, Call call) {
        this.check = check;
        this.name = name;
        this.scene = scene;
        this.call = call;
        this.refusal = refusal;
    }

    /** The next number: its bounds with the answers there, and what it is while others are tried. */
    Edges number(String of, int least, long atLeast, int most, long atMost, int usual) {
        numbers.add(new Number(of, least, atLeast, most, atMost, usual));
        return this;
    }

    void ask() {
        List<String> untouched = State.of(scene.get());
        for (int i = 0; i < numbers.size(); i++) {
            askOne(i, untouched);
            for (int j = 0; j < i; j++) {
                askTwo(j, i, untouched);
            }
        }
    }

    private void askOne(int i, List<String> untouched) {
        Number n = numbers.get(i);
        taken(with(i, n.least), n.atLeast);
        taken(with(i, n.most), n.atMost);
        for (int wrong : new int[] {n.least - 1, n.most + 1, Integer.MIN_VALUE, Integer.MAX_VALUE}) {
            // where a number has no end there is none beyond it
            if (wrong < n.least || wrong > n.most) {
                refused(with(i, wrong), untouched);
            }
        }
    }

    /** Several numbers wrong at once are refused as one is. */
    private void askTwo(int i, int j, List<String> untouched) {
        int[] low = with(i, numbers.get(i).least - 1);
        low[j] = numbers.get(j).least - 1;
        refused(low, untouched);
        if (numbers.get(i).most < Integer.MAX_VALUE && numbers.get(j).most < Integer.MAX_VALUE) {
            int[] high = with(i, numbers.get(i).most + 1);
            high[j] = numbers.get(j).most + 1;
            refused(high, untouched);
        }
    }

    private int[] with(int i, int v) {
        int[] all = numbers.stream().mapToInt(Number::usual).toArray();
        all[i] = v;
        return all;
    }

    private String told(int[] all) {
        StringBuilder text = new StringBuilder(name).append('(');
        for (int i = 0; i < all.length; i++) {
            text.append(i > 0 ? ", " : "").append(numbers.get(i).name).append(' ').append(all[i]);
        }
        return text.append(')').toString();
    }

    private void taken(int[] all, long want) {
        check.due(told(all), call.on(scene.get(), all), want);
    }

    private void refused(int[] all, List<String> untouched) {
        LongSeats x = scene.get();
        check.due(told(all), call.on(x, all), refusal);
        check.same("behind " + told(all), State.of(x), untouched);
    }
}

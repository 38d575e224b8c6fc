import java.util.ArrayList;
import java.util.List;

/**
 * What some calls leave behind. Each question is asked of an object that is made anew by those calls; a call that
 * must change nothing is held against a twin that never had it, by everything that can be asked of both.
 */
final class Scene {
    private final Due due;
    private final List<String> calls;
    private List<Long> seen = null;

    Scene(Due due) {
        this(due, List.of());
    }

    private Scene(Due due, List<String> calls) {
        this.due = due;
        this.calls = calls;
    }

    /** This scene and some calls more. */
    Scene and(String... more) {
        List<String> all = new ArrayList<>(calls);
        all.addAll(List.of(more));
        return new Scene(due, all);
    }

    Scene times(int n, String call) {
        Scene scene = this;
        for (int i = 0; i < n; i++) {
            scene = scene.and(call.replace("#", Integer.toString(i)));
        }
        return scene;
    }

    Run start() {
        return new Run(due).does(calls.toArray(new String[0]));
    }

    /** What a call answers that is taken (it may change much). */
    Scene taken(String call, long want) {
        start().is(call, want);
        return this;
    }

    /** What a call answers that is refused, and that it changes nothing. */
    Scene refused(String call, long want) {
        start().is(call, want);
        return alike(call, List.of(call), List.of(), "nothing");
    }

    /** What a call answers that asks only, and that it changes nothing either. */
    Scene asks(String call, long want) {
        return refused(call, want);
    }

    /** A call in the place of another one: they leave the same behind but for what is asked by one name. */
    Scene alike(String call, String other, String but) {
        return alike(call, List.of(call), List.of(other), but);
    }

    private Scene alike(String call, List<String> these, List<String> those, String but) {
        List<Long> one = and(these.toArray(new String[0])).look();
        List<Long> other = those.isEmpty() ? look() : and(those.toArray(new String[0])).look();
        List<String> names = Probes.names();
        due.holds("'" + call + "' was looked behind", one.size() == names.size() && other.size() == names.size());
        for (int i = 0; i < names.size(); i++) {
            if (!names.get(i).equals(but) && one.get(i).longValue() != other.get(i)) {
                due.is("'" + call + "' changes what " + names.get(i) + " answers:", one.get(i), other.get(i));
            }
        }
        return this;
    }

    /**
     * Both sides of what is taken. In the call, # is the number: the least and the most are taken and answer as told,
     * those ahead and behind them are refused, as are the least and the greatest number of all.
     */
    Scene edges(String call, int least, long wantLeast, int most, long wantMost, long refusal) {
        taken(call.replace("#", Integer.toString(least)), wantLeast);
        taken(call.replace("#", Integer.toString(most)), wantMost);
        for (int out : new int[] {least - 1, most + 1, Integer.MIN_VALUE, Integer.MAX_VALUE}) {
            refused(call.replace("#", Integer.toString(out)), refusal);
        }
        return this;
    }

    /** Every answer that can be had, each object being used no longer than it may be. */
    private List<Long> look() {
        if (seen != null) {
            return seen;
        }
        List<Long> answers = new ArrayList<>();
        Run run = start();
        for (String probe : Probes.PLAIN) {
            if (run.calls() >= Run.MOST_CALLS) {
                run = start();
            }
            answers.add(run.call(probe));
        }
        for (List<String> row : Probes.ROWS) {
            run = start();
            for (String probe : row) {
                answers.add(run.call(probe));
            }
        }
        seen = answers;
        return answers;
    }
}

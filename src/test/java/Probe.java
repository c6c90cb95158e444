import java.util.ArrayList;
import java.util.List;

/**
 * All that can be told of a yard: what it answers now, behind each undoing, behind each image,
 * and when its text is read. The yard is used up by it; two yards are alike if all of this is.
 */
final class Probe {
    private final BesomYard yard;
    private final List<String> answers = new ArrayList<>();
    private String when = "then";

    private Probe(BesomYard yard) {
        this.yard = yard;
    }

    static List<String> of(BesomYard yard) {
        Probe probe = new Probe(yard);
        probe.ask();
        probe.undoAll();
        probe.goBack();
        probe.readText();
        return probe.answers;
    }

    private void note(String call, long answer) {
        answers.add(when + ", " + call + " = " + answer);
    }

    private void ask() {
        for (int i = 0; i < 8; i++) {
            note("now " + i, yard.now(i));
            note("count " + i, yard.count(i));
            note("side " + i, yard.side(i));
            note("lasts " + i, yard.lasts(i));
        }
        for (int i = 0; i < 6; i++) {
            for (int what = 0; what < 4; what++) {
                note("part " + i + " " + what, yard.part(i, what));
                note("order " + i + " " + what, yard.order(i, what));
            }
        }
        note("trace", yard.trace());
        note("which", yard.which());
        note("kept 0", yard.kept(0));
        note("kept 1", yard.kept(1));
        note("lack", yard.lack());
        note("cutFor", yard.cutFor());
        note("allBy", yard.allBy());
        note("turn 9 2", yard.turn(9, 2));
        note("plan 4 -1", yard.plan(4, -1));
    }

    private void undoAll() {
        for (int i = 1; i <= 11; i++) {
            when = i + " undone";
            note("undo", yard.undo());
            ask();
        }
    }

    private void goBack() {
        for (int image = 0; image < 2; image++) {
            when = "behind back " + image;
            note("back", yard.back(image));
            ask();
        }
    }

    private void readText() {
        when = "behind yard";
        note("yard", yard.yard());
        ask();
        note("clear", yard.clear());
    }
}

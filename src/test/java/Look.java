import java.util.ArrayList;
import java.util.List;

/**
 * All that an object tells, asked in one order, so that two objects can be compared.
 * Some of it is told only by calls that change something, so the object isn't of use behind it.
 */
final class Look {
    private static final int MOST_CALLS = 400;

    final int[] found = new int[6];
    private final TrainMile x;
    private final List<String> asked = new ArrayList<>();
    private final List<Long> answers = new ArrayList<>();

    private Look(TrainMile x) {
        this.x = x;
    }

    static Look at(TrainMile x) {
        Look look = new Look(x);
        for (int k = 1; k <= 5; k++) {
            look.found[k] = x.found(k);
        }
        look.askAll();
        if (look.asked.size() > MOST_CALLS) {
            throw new IllegalStateException("a look takes " + look.asked.size() + " calls: an object has 512");
        }
        return look;
    }

    /** The first answer that is another one, or null; what found() tells isn't compared. */
    String difference(Look other) {
        for (int i = 0; i < Math.min(asked.size(), other.asked.size()); i++) {
            if (!asked.get(i).equals(other.asked.get(i)) || !answers.get(i).equals(other.answers.get(i))) {
                return asked.get(i) + " answered " + answers.get(i) + ", then "
                        + other.asked.get(i) + " answered " + other.answers.get(i);
            }
        }
        return asked.size() == other.asked.size() ? null : "more or less is there";
    }

    private void is(String call, long answer) {
        asked.add(call);
        answers.add(answer);
    }

    private void askAll() {
        askTold("");
        int bodies = x.told(10);
        for (int i = 0; i < bodies; i++) {
            is("trace(" + i + ")", x.trace(i));
        }
        askRunners();
        askGoings();
        askWays();
        askTimes();
        askSheets();
        askRoad();
        is("text(1): THE TAPE", x.text(1));
        is("odd(0) by THE TAPE", x.odd(0));
        is("restore(): THE IMAGE", x.restore());
        askTold("restored: ");
        is("restored: heat(0)", x.heat(0));
        is("restored: pace(0, ..)", x.pace(0, 9, 0, 8, 7));
        is("image(): how often", x.image());
    }

    private void askTold(String when) {
        for (int what = 0; what <= 10; what++) {
            is(when + "told(" + what + ")", x.told(what));
        }
    }

    private void askRunners() {
        int goal = x.told(0);
        int runners = x.told(2);
        for (int r = 0; r < runners; r++) {
            is("off(" + r + ")", x.off(r));
            is("would(" + r + ", START)", x.would(r, 0));
            is("would(" + r + ", GOAL)", x.would(r, goal));
            is("pace(" + r + ", ..)", x.pace(r, 9, goal - 1, 8, 7));
            is("same(" + r + ", 0)", x.same(r, 0));
            is("same(" + r + ", 1)", x.same(r, 1));
            for (int mark = 0; mark <= goal; mark++) {
                is("heard(" + r + ", " + mark + ")", x.heard(r, mark));
            }
        }
    }

    private void askGoings() {
        int count = x.told(3);
        for (int g = 0; g < count; g++) {
            is("as(" + g + ", 0)", x.as(g, 0));
            is("voice(" + g + ", 3, 1000)", x.voice(g, 3, 1000));
            for (int what = 0; what < 5 && (g < 2 || g >= count - 2); what++) {
                is("goingIs(" + g + ", " + what + ")", x.goingIs(g, what));
            }
        }
    }

    private void askWays() {
        int goal = x.told(0);
        is("fewest(1)", x.fewest(1));
        is("earliest by WAYS alone", x.earliest(0, 0, goal, 0, 0));
        is("earliest at once", x.earliest(0, 7, goal, 2, 0));
        is("earliest, WAYS", x.earliest(0, 7, goal, 30, 1));
        is("earliest later", x.earliest(0, 300, goal, 60, 0));
        is("earliest from 1", x.earliest(1, 300, goal, 60, 0));
    }

    private void askTimes() {
        is("company(1, 1)", x.company(1, 1));
        is("company(30, 0)", x.company(30, 0));
        for (int what = 0; what < 4; what++) {
            is("judge(" + what + ")", x.judge(what));
        }
        is("odd(0)", x.odd(0));
        is("up(1)", x.up(1));
    }

    private void askSheets() {
        for (int sheet = 0; sheet < 4; sheet++) {
            is("parts(" + sheet + ", 0)", x.parts(sheet, 0));
            is("parts(" + sheet + ", 2)", x.parts(sheet, 2));
            is("put(" + sheet + ", 0, 0)", x.put(sheet, 0, 0));
        }
    }

    private void askRoad() {
        int goal = x.told(0);
        is("heat(0)", x.heat(0));
        for (int piece = 0; piece < goal; piece++) {
            is("climb(" + piece + ", 0)", x.climb(piece, 0));
        }
        for (int mark = 0; mark <= goal; mark++) {
            is("deaf(" + mark + ", 0)", x.deaf(mark, 0));
        }
        for (int mark = 1; mark < goal; mark++) {
            is("mat(" + mark + ", true)", x.mat(mark, true));
        }
    }
}

import java.util.ArrayList;
import java.util.List;
import java.util.function.Supplier;
import java.util.function.ToIntFunction;

/**
 * Two objects with the same calls behind them, of which one gets one call more: if that call changes
 * nothing, no later call can tell them apart.
 */
final class Twins {
    // What can be seen is looked at in parts, each with new twins: an object has but 512 calls.
    private static final int PARTS = 7;
    private static final int MOST_CALLS = 310;

    private final Check check;
    private final Supplier<OpticalTelegraph> scene;
    private List<String> seen;

    Twins(Check check, Supplier<OpticalTelegraph> scene) {
        this.check = check;
        this.scene = scene;
    }

    /** The call answers as due and changes nothing. */
    void stay(String name, ToIntFunction<OpticalTelegraph> call, int due) {
        for (int part = 0; part < PARTS; part++) {
            List<String> without = look(part, scene.get());
            OpticalTelegraph called = scene.get();
            check.due(name, call.applyAsInt(called), due);
            List<String> with = look(part, called);
            for (int i = 0; i < Math.max(with.size(), without.size()); i++) {
                check.dueText("after " + name + ", call " + i + " of part " + part,
                    i < with.size() ? with.get(i) : "", i < without.size() ? without.get(i) : "");
            }
        }
    }

    private List<String> look(int part, OpticalTelegraph x) {
        seen = new ArrayList<>();
        switch (part) {
            case 0 -> lookAtLine(x);
            case 1 -> lookAtMessages(x);
            case 2 -> lookAtCopies(x);
            case 3 -> lookAtReadings(x);
            case 4 -> lookAtNextMinutes(x);
            case 5 -> lookAtFarMinutes(x);
            default -> lookAtTextAndBook(x);
        }
        if (seen.size() > MOST_CALLS) {
            check.fail("part " + part + " makes " + seen.size() + " calls");
        }
        return seen;
    }

    private int note(String call, int answer) {
        seen.add(call + " = " + answer);
        return answer;
    }

    private void lookAtLine(OpticalTelegraph x) {
        for (int what = 0; what < 7; what++) {
            note("value(" + what + ")", x.value(what));
        }
        for (int t = 0; t < 8; t++) {
            note("shown(" + t + ")", x.shown(t));
            note("task(" + t + ", 0)", x.task(t, 0));
            note("task(" + t + ", 1)", x.task(t, 1));
            note("isBlind(" + t + ")", x.isBlind(t));
            for (int what = 0; what < 4; what++) {
                note("linkCount(" + t + ", " + what + ")", x.linkCount(t, what));
            }
        }
        for (int m = 0; m < 10; m++) {
            for (int what = 0; what < 8; what++) {
                note("message(" + m + ", " + what + ")", x.message(m, what));
            }
        }
    }

    private void lookAtMessages(OpticalTelegraph x) {
        for (int m = 0; m < 10; m++) {
            note("forecast(" + m + ")", x.forecast(m));
            note("effect(" + m + ", 1, 2)", x.effect(m, 1, 2));
            note("leastMinutes(" + m + ")", x.leastMinutes(m));
            for (int t = 0; t < 8; t++) {
                note("copied(" + m + ", " + t + ")", x.copied(m, t));
                note("step(" + m + ", " + t + ")", x.step(m, t));
            }
        }
    }

    private void lookAtCopies(OpticalTelegraph x) {
        for (int m = 0; m < 10; m++) {
            for (int t = 0; t < 8; t++) {
                for (int k = 0; k < 31; k++) {
                    if (note("sign(" + m + ", " + t + ", " + k + ")", x.sign(m, t, k)) < 0) {
                        break;
                    }
                }
            }
        }
    }

    private void lookAtReadings(OpticalTelegraph x) {
        for (int m = 0; m < 10; m++) {
            for (int t = 0; t < 8; t++) {
                for (int i = 0; i < 111; i++) {
                    if (note("reading(" + m + ", " + t + ", " + i + ")", x.reading(m, t, i)) < 0) {
                        break;
                    }
                }
            }
        }
    }

    private void lookAtNextMinutes(OpticalTelegraph x) {
        for (int i = 0; i < 15; i++) {
            note("run(1)", x.run(1));
            for (int t = 0; t < 8; t++) {
                note("shown(" + t + ")", x.shown(t));
                note("linkCount(" + t + ", 0)", x.linkCount(t, 0));
            }
        }
    }

    private void lookAtFarMinutes(OpticalTelegraph x) {
        for (int i = 0; i < 5; i++) {
            note("run(300)", x.run(300));
            for (int l = 0; l < 7; l++) {
                note("linkCount(" + l + ", 3)", x.linkCount(l, 3));
                note("linkCount(" + l + ", 1)", x.linkCount(l, 1));
            }
            for (int m = 0; m < 10; m++) {
                note("message(" + m + ", 6)", x.message(m, 6));
                note("message(" + m + ", 7)", x.message(m, 7));
            }
        }
    }

    /** The line is cleared for this: a message shows what the text and the words of the book are. */
    private void lookAtTextAndBook(OpticalTelegraph x) {
        note("signCount()", x.signCount());
        note("reset(8)", x.reset(8));
        if (note("send(0, 1, 0)", x.send(0, 1, 0)) == 0) {
            for (int k = 0; k <= 30; k++) {
                note("sign(0, 0, " + k + ")", x.sign(0, 0, k));
            }
        }
        note("type('!')", x.type('!'));
        note("signCount()", x.signCount());
        for (String word : "a b c d e f g h i j k l m n o p q r s t z ab paris".split(" ")) {
            Check.write(x, word);
            if (note("signCount() of " + word, x.signCount()) == 3) {
                x.reset(8);
                x.send(0, 1, 0);
                for (int k = 0; k < 3; k++) {
                    note("sign(0, 0, " + k + ") of " + word, x.sign(0, 0, k));
                }
            }
        }
    }
}

import java.util.TreeMap;

/** All promises at once: long runs of calls, the same on the school and on the model of it. */
final class ModelTest {
    private static final int RUNS = 3000;
    private static final int CALLS = 512;
    private static final String DIGITS = "0123456789";

    private final TreeMap<String, Integer> kinds = new TreeMap<>();
    private long seed;
    private VernierSchool school;
    private Model model;
    // How a run leans: small lengths make lines that coincide and marks of all
    // sizes common, and no trouble lets papers and appeals grow until they are full.
    private boolean small;
    private boolean calm;
    private int calls;

    public static void main(String[] args) {
        ModelTest test = new ModelTest();
        for (int run = 0; run < RUNS; run++) {
            test.run(run);
        }
        test.allKindsCame();
        Check.end();
    }

    private void run(int run) {
        seed = run * 7919L + 17;
        school = new VernierSchool();
        model = new Model();
        small = run % 2 == 0;
        calm = run % 3 == 0;
        calls = 0;
        for (int i = next(4); i >= 0; i--) {
            addInstrument();
        }
        for (int i = next(5); i >= 0; i--) {
            addPupil();
        }
        while (calls < CALLS) {
            if (next(3) == 0) {
                ask();
            } else {
                act();
            }
        }
    }

    /** A number from 0 to below the bound, the same ones in each run of the test. */
    private int next(int bound) {
        seed = seed * 6364136223846793005L + 1442695040888963407L;
        return (int) Long.remainderUnsigned(seed >>> 33, bound);
    }

    private int from(int least, int most) {
        return least + next(most - least + 1);
    }

    /** Mostly a number in the range, now and then its edges and what is beyond them. */
    private int about(int least, int most) {
        int kind = next(calm ? 200 : 40);
        switch (kind) {
            case 0: return least - 1;
            case 1: return most + 1;
            case 2: return least;
            case 3: return most;
            case 4: return next(2) == 0 ? Integer.MIN_VALUE : Integer.MAX_VALUE;
            default: return from(least, most);
        }
    }

    private int instrument() {
        return about(0, Math.max(0, model.count(0) - 1));
    }

    private int pupil() {
        return about(0, Math.max(0, model.count(1) - 1));
    }

    private int paper() {
        return about(0, Math.max(0, model.count(2) - 1));
    }

    private int setting(int instrument) {
        int greatest = model.instrument(instrument, 8);
        return greatest < 0 ? from(-1, 100) : next(30) == 0 ? greatest : about(0, greatest);
    }

    private void same(String call, int got, int due) {
        calls++;
        Check.due("call " + calls + " of seed " + seed + ": " + call, got, due);
        String kind = call.substring(0, call.indexOf('('));
        String told = due == VernierSchool.UNKNOWN ? "UNKNOWN"
                : due == VernierSchool.BAD_VALUE ? "BAD_VALUE"
                : due == VernierSchool.FULL ? "FULL"
                : due == VernierSchool.NOT_POSSIBLE ? "NOT_POSSIBLE"
                : due == VernierSchool.NONE ? "NONE" : due < 0 ? "negative" : "done";
        kinds.merge(kind + " " + told, 1, Integer::sum);
    }

    private void addInstrument() {
        int n = about(2, small ? 8 : 50);
        int u = about(1, small ? 4 : 50);
        int lines = about(2, small ? 12 : 200);
        boolean retrograde = next(2) == 0;
        same("addInstrument(" + n + ", " + u + ", " + lines + ", " + retrograde + ")",
                school.addInstrument(n, u, lines, retrograde),
                model.addInstrument(n, u, lines, retrograde));
    }

    private void addPupil() {
        int eye = next(3) == 0 ? 0 : about(-50, 50);
        int habits = next(3) == 0 ? 0 : about(0, 15);
        same("addPupil(" + eye + ", " + habits + ")", school.addPupil(eye, habits),
                model.addPupil(eye, habits));
    }

    private void act() {
        int kind = next(100);
        if (kind < 2) {
            addInstrument();
        } else if (kind < 5) {
            addPupil();
        } else if (kind < 12) {
            adjust();
        } else if (kind < 18) {
            trap();
        } else if (kind < 24) {
            teachOrTrain();
        } else if (kind < 50) {
            write();
        } else if (kind < 70) {
            appeal();
        } else if (kind < 78) {
            if (!calm || next(4) == 0) {
                same("decide()", school.decide(), model.decide());
            }
        } else if (kind < 90) {
            text();
        } else {
            history();
        }
    }

    private void adjust() {
        int instrument = instrument();
        int length = Math.max(1, model.instrument(instrument, 0) * model.instrument(instrument, 1));
        int zero = next(3) == 0 ? model.instrument(instrument, 4)
                : about(-Math.min(2500, length), Math.min(2500, length));
        int gap = next(4) == 0 ? model.instrument(instrument, 5) : about(0, small ? 5 : 20);
        same("adjust(" + instrument + ", " + zero + ", " + gap + ")",
                school.adjust(instrument, zero, gap), model.adjust(instrument, zero, gap));
    }

    private void trap() {
        int instrument = instrument();
        if (next(3) == 0) {
            same("announce(" + instrument + ")", school.announce(instrument),
                    model.announce(instrument));
        } else {
            int trap = about(0, 3);
            same("setTrap(" + instrument + ", " + trap + ")", school.setTrap(instrument, trap),
                    model.setTrap(instrument, trap));
        }
    }

    private void teachOrTrain() {
        int pupil = pupil();
        if (next(2) == 0) {
            int trap = about(1, 3);
            same("teach(" + pupil + ", " + trap + ")", school.teach(pupil, trap),
                    model.teach(pupil, trap));
        } else {
            int eye = next(3) == 0 ? model.pupil(pupil, 0) : about(-50, 50);
            int habits = next(3) == 0 ? model.pupil(pupil, 1) : about(0, 15);
            same("train(" + pupil + ", " + eye + ", " + habits + ")",
                    school.train(pupil, eye, habits), model.train(pupil, eye, habits));
        }
    }

    private void write() {
        int pupil = pupil();
        int instrument = instrument();
        int setting = setting(instrument);
        same("write(" + pupil + ", " + instrument + ", " + setting + ")",
                school.write(pupil, instrument, setting), model.write(pupil, instrument, setting));
    }

    private void appeal() {
        int paper = paper();
        int cause = about(1, 3);
        same("appeal(" + paper + ", " + cause + ")", school.appeal(paper, cause),
                model.appeal(paper, cause));
    }

    private void text() {
        if (next(3) == 0) {
            same("clearText()", school.clearText(), model.clearText());
        }
        int papers = next(4);
        for (int i = 0; i <= papers && calls < CALLS - 30; i++) {
            int instrument = instrument();
            type(String.valueOf(pupil()));
            type("/");
            type(String.valueOf(instrument));
            type("@");
            type(String.valueOf(setting(instrument)));
            type(i < papers || next(6) == 0 ? ";" : "");
        }
        if (next(8) == 0) {
            type(String.valueOf(next(3) == 0 ? (char) next(65536) : (DIGITS + ";/@").charAt(next(13))));
        }
        if (calls < CALLS) {
            same("readPapers()", school.readPapers(), model.readPapers());
        }
    }

    private void type(String signs) {
        for (int i = 0; i < signs.length() && calls < CALLS; i++) {
            char sign = next(calm ? 300 : 60) == 0 ? (DIGITS + ";/@").charAt(next(13))
                    : signs.charAt(i);
            same("type(" + (int) sign + ")", school.type(sign), model.type(sign));
        }
    }

    private void history() {
        int kind = next(calm ? 30 : 5);
        if (kind == 0) {
            same("restore()", school.restore(), model.restore());
        } else if (kind == 1) {
            same("keep()", school.keep(), model.keep());
        } else if (kind < 4) {
            same("undo()", school.undo(), model.undo());
        } else {
            int what = about(0, 8);
            same("count(" + what + ")", school.count(what), model.count(what));
        }
    }

    private void ask() {
        int instrument = instrument();
        int pupil = pupil();
        switch (next(9)) {
            case 0:
                int column = about(0, 10);
                same("instrument(" + instrument + ", " + column + ")",
                        school.instrument(instrument, column), model.instrument(instrument, column));
                break;
            case 1:
                int part = about(0, 8);
                same("pupil(" + pupil + ", " + part + ")", school.pupil(pupil, part),
                        model.pupil(pupil, part));
                break;
            case 2:
                int paper = paper();
                int field = about(0, 7);
                same("paper(" + paper + ", " + field + ")", school.paper(paper, field),
                        model.paper(paper, field));
                break;
            case 3:
                int place = next(4) == 0 ? about(-1000, 1000000) : about(-1000, 1000);
                int look = about(0, 6);
                same("coincidence(" + instrument + ", " + place + ", " + look + ")",
                        school.coincidence(instrument, place, look),
                        model.coincidence(instrument, place, look));
                break;
            case 4:
                int setting = setting(instrument);
                same("answer(" + pupil + ", " + instrument + ", " + setting + ")",
                        school.answer(pupil, instrument, setting),
                        model.answer(pupil, instrument, setting));
                break;
            case 5:
                int without = about(0, 4);
                same("would(" + pupil + ", " + without + ")", school.would(pupil, without),
                        model.would(pupil, without));
                break;
            case 6:
                int rank = about(0, 11);
                same("ranked(" + rank + ")", school.ranked(rank), model.ranked(rank));
                break;
            case 7:
                int turn = about(0, Math.max(1, model.count(3)));
                same("waiting(" + turn + ")", school.waiting(turn), model.waiting(turn));
                break;
            default:
                int what = about(0, 8);
                same("count(" + what + ")", school.count(what), model.count(what));
        }
    }

    /** Every kind of answer that the document gives to a call came in some run. */
    private void allKindsCame() {
        String[] due = {
            "addInstrument done BAD_VALUE FULL", "adjust done negative UNKNOWN BAD_VALUE NONE",
            "setTrap done UNKNOWN BAD_VALUE NONE", "announce done UNKNOWN NOT_POSSIBLE NONE",
            "addPupil done BAD_VALUE FULL", "teach done UNKNOWN BAD_VALUE NONE",
            "train done UNKNOWN BAD_VALUE NONE", "write done UNKNOWN BAD_VALUE FULL",
            "appeal done negative UNKNOWN BAD_VALUE NOT_POSSIBLE FULL", "decide done NONE",
            "type done FULL", "clearText done",
            "readPapers done negative UNKNOWN BAD_VALUE FULL", "undo done NONE", "keep done",
            "restore done NONE", "instrument done negative UNKNOWN BAD_VALUE",
            "pupil done negative NONE UNKNOWN BAD_VALUE",
            "paper done negative NONE UNKNOWN BAD_VALUE",
            "coincidence done negative UNKNOWN BAD_VALUE",
            "answer done negative UNKNOWN BAD_VALUE", "would done UNKNOWN BAD_VALUE",
            "ranked done BAD_VALUE NONE", "waiting done BAD_VALUE NONE", "count done BAD_VALUE"};
        int expected = 0;
        for (String line : due) {
            String[] words = line.split(" ");
            for (int i = 1; i < words.length; i++) {
                expected++;
                String kind = words[0] + " " + words[i];
                Check.isTrue("the runs bring: " + kind, kinds.containsKey(kind));
            }
        }
        Check.due("kinds of answers", kinds.size(), expected);
    }
}

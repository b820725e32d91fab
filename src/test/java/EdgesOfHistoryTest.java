import java.util.function.ToIntFunction;

/**
 * The edges that the document names for the history, the snapshot, counts and errors (promises 15
 * to 17 and 26): a test for each sentence of it that names one.
 */
final class EdgesOfHistoryTest {
    private static final int BAD_VALUE = VernierSchool.BAD_VALUE;
    private static final int FULL = VernierSchool.FULL;
    private static final int NONE = VernierSchool.NONE;
    private static final int NOT_POSSIBLE = VernierSchool.NOT_POSSIBLE;
    private static final int UNKNOWN = VernierSchool.UNKNOWN;

    private static final String TEN_PAPERS =
            "0/0@2;0/0@2;0/0@2;0/0@2;0/0@2;0/0@2;0/0@2;0/0@2;0/0@2;0/0@12";

    public static void main(String[] args) {
        callsOfAnObject();
        mostStates();
        oldestIsDropped();
        latestIsRestored();
        stateBeforeEachAct();
        actsThatAnswerZeroOrLess();
        noStateOfWhatIsNoAct();
        oneSnapshotEmptyAtFirst();
        everythingButTextHistoryAndSnapshot();
        constants();
        orderOfTheChecks();
        noneOnlyIfNoError();
        refusedCallsOfANewSchool();
        refusedCallsOfAnOrdinarySchool();
        refusedTexts();
        refusedCallsOfAFullSchool();
        answersOfUndo();
        inPlaceOfTheOneThatWas();
        answersOfKeep();
        snapshotStays();
        answersOfRestore();
        whatOfCount();
        errorsOfCount();
        Check.end();
    }

    private static void callsOfAnObject() {
        Check.sentence("An object is used for at most 512 calls after it has been made;");
        VernierSchool x = new VernierSchool();
        Check.due("call 1", x.addInstrument(2, 1, 2, false), 0);
        Check.due("call 2", x.addPupil(0, 0), 0);
        for (int call = 3; call <= 506; call++) {
            Check.isTrue("call " + call, x.train(0, call % 101 - 50, call % 16) >= 0);
        }
        Check.due("call 507", x.pupil(0, 0), 506 % 101 - 50);
        Check.due("call 508", x.undo(), 3);
        Check.due("call 509", x.pupil(0, 0), 505 % 101 - 50);
        Check.due("call 510", x.undo(), 2);
        Check.due("call 511", x.undo(), 1);
        Check.due("call 512", x.pupil(0, 1), 503 % 16);
    }

    private static void mostStates() {
        Check.sentence("A history of at most 4 states is kept;");
        VernierSchool x = new VernierSchool();
        Check.due("at first", x.count(7), 0);
        for (int act = 1; act <= 9; act++) {
            x.addPupil(act, 0);
            Check.due("after " + act, x.count(7), Math.min(act, 4));
        }
        for (int left = 3; left >= 0; left--) {
            Check.due("undo", x.undo(), left);
            Check.due("states", x.count(7), left);
        }
        Check.due("undo once more", x.undo(), NONE);
        Check.due("states then", x.count(7), 0);
    }

    private static void oldestIsDropped() {
        Check.sentence("when one more is recorded, the oldest one is dropped;");
        VernierSchool x = new VernierSchool();
        for (int act = 0; act < 5; act++) {
            x.addPupil(act, 0);
        }
        for (int undone = 0; undone < 4; undone++) {
            x.undo();
        }
        Check.due("the first pupil stays", x.count(1), 1);
        Check.due("no more", x.undo(), NONE);
        // Once around and on, from each place at which the history can stand.
        for (int acts = 5; acts <= 13; acts++) {
            for (int act = 0; act < acts; act++) {
                x.train(0, act - 20, 0);
            }
            for (int back = 1; back <= 4; back++) {
                x.undo();
                Check.due(back + " back of " + acts, x.pupil(0, 0), acts - back - 21);
            }
        }
    }

    private static void latestIsRestored() {
        Check.sentence("undo() removes and restores the latest one.");
        VernierSchool x = new VernierSchool();
        x.addPupil(1, 0);
        x.train(0, 2, 0);
        x.train(0, 3, 0);
        Check.due("undo", x.undo(), 2);
        Check.due("the latest", x.pupil(0, 0), 2);
        x.train(0, 4, 0);
        Check.due("undo what came then", x.undo(), 2);
        Check.due("the latest again", x.pupil(0, 0), 2);
        Check.due("undo further", x.undo(), 1);
        Check.due("the one ahead of it", x.pupil(0, 0), 1);
        Check.due("undo to the first", x.undo(), 0);
        Check.due("no pupil", x.pupil(0, 0), UNKNOWN);
    }

    /** A school in which each act can be done, with a snapshot. */
    private static VernierSchool readyForActs() {
        VernierSchool x = Schools.pair(10, 2, 50, 20, 3);
        x.keep();
        x.adjust(0, 5, 10);
        x.write(0, 0, 46);
        x.write(0, 0, 46);
        x.appeal(1, 2);
        x.setTrap(0, 1);
        Check.typeAll(x, "0/0@17;0/0@20");
        return x;
    }

    private static int act(VernierSchool x, int act) {
        switch (act) {
            case 0: return x.addInstrument(5, 3, 9, true);
            case 1: return x.adjust(0, -5, 11);
            case 2: return x.setTrap(0, 3);
            case 3: return x.announce(0);
            case 4: return x.addPupil(1, 2);
            case 5: return x.teach(0, 2);
            case 6: return x.train(0, 0, 15);
            case 7: return x.write(0, 0, 5);
            case 8: return x.appeal(0, 1);
            case 9: return x.decide();
            case 10: return x.readPapers();
            default: return x.restore();
        }
    }

    private static void stateBeforeEachAct() {
        Check.sentence("Each call of a method that is described as an act, and returns no error"
                + " and not NONE, records the state that was before it.");
        for (int act = 0; act <= 11; act++) {
            VernierSchool x = readyForActs();
            String before = Schools.told(x, 2);
            Check.isTrue("the act " + act + " is done", act(x, act) > -100);
            String after = Schools.told(x, 2);
            Check.isTrue("the act " + act + " changes something", !after.equals(before));
            Check.due("states after the act " + act, x.count(7), 4);
            Check.due("undo of the act " + act, x.undo(), 3);
            Check.isTrue("as before the act " + act, Schools.told(x, 2).equals(before));
            act(x, act);
            Check.isTrue("as after the act " + act, Schools.told(x, 2).equals(after));
        }
    }

    private static void actsThatAnswerZeroOrLess() {
        Check.sentence("records the state that was before it.");
        VernierSchool x = Schools.pair(10, 1, 50, 0, 0);
        Check.due("adjust", x.adjust(0, -10, 10), 0);
        Check.due("states", x.count(7), 3);
        Check.due("adjust answers less", x.adjust(0, 0, 10), -10);
        Check.due("states", x.count(7), 4);
        x.undo();
        Check.due("adjust undone", x.instrument(0, 4), -10);
        x.adjust(0, 0, 10);
        x.write(0, 0, 40);
        x.setTrap(0, 3);
        x.undo();
        x.setTrap(0, 3);
        Check.due("write answers 0", x.write(0, 0, 40), 0);
        Check.due("write undone", x.undo(), 3);
        Check.due("papers", x.count(2), 1);
        Check.due("appeal answers less", x.appeal(0, 3), -10);
        Check.due("appeal undone", x.undo(), 3);
        Check.due("none waits", x.count(3), 0);
        x.appeal(0, 3);
        Check.due("decide answers 0", x.decide(), 0);
        Check.due("decide undone", x.undo(), 3);
        Check.due("one waits", x.count(3), 1);
        Check.due("train answers 0", x.train(0, 1, 0), 0);
        Check.due("train undone", x.undo(), 3);
        Check.due("the eye", x.pupil(0, 0), 0);
        x.teach(0, 3);
        Check.due("announce answers 0", x.announce(0), 0);
        Check.due("announce undone", x.undo(), 3);
        Check.due("not announced", x.instrument(0, 7), 0);
    }

    private static void noStateOfWhatIsNoAct() {
        Check.sentence("Each call of a method that is described as an act,");
        VernierSchool x = Schools.plain();
        x.write(0, 0, 46);
        x.undo();
        Check.due("states", x.count(7), 2);
        x.keep();
        x.type('0');
        x.clearText();
        x.instrument(0, 0);
        x.pupil(0, 0);
        x.paper(0, 0);
        x.coincidence(0, 0, 0);
        x.answer(0, 0, 0);
        x.would(0, 0);
        x.ranked(0);
        x.waiting(0);
        x.count(0);
        Check.due("the same states", x.count(7), 2);
        Check.due("undo", x.undo(), 1);
        Check.due("the pupil is gone", x.count(1), 0);
    }

    private static void oneSnapshotEmptyAtFirst() {
        Check.sentence("There is one snapshot, empty at first.");
        VernierSchool x = new VernierSchool();
        Check.due("at first", x.restore(), NONE);
        x.addPupil(0, 0);
        Check.due("an act makes none", x.restore(), NONE);
        x.undo();
        Check.due("undo makes none", x.restore(), NONE);
        x.keep();
        Check.due("kept", x.restore(), 0);
        x.undo();
        Check.due("undo does not take it away", x.restore(), 0);
    }

    private static void everythingButTextHistoryAndSnapshot() {
        Check.sentence("A state is everything but the text, the history and the snapshot.");
        VernierSchool x = readyForActs();
        for (int act = 0; act < 4; act++) {
            x.addPupil(act, act);
        }
        x.keep();
        String kept = Schools.told(x, 2);
        x.clearText();
        Check.typeAll(x, "0/0@2");
        for (int undone = 3; undone >= 0; undone--) {
            Check.due("undo counts on", x.undo(), undone);
        }
        Check.due("undo leaves the text", x.count(8), 5);
        Check.due("undo leaves the snapshot", x.restore(), 2);
        Check.isTrue("as kept", Schools.told(x, 2).equals(kept));
        Check.due("restore leaves the text", x.count(8), 5);
        Check.due("restore leaves the history", x.count(7), 1);
        x.train(0, 50, 0);
        x.train(0, 49, 0);
        Check.due("restore", x.restore(), 2);
        Check.due("restore adds one state", x.count(7), 4);
        Check.due("undo of it", x.undo(), 3);
        Check.due("the eye of then", x.pupil(0, 0), 49);
        Check.due("undo ahead of it", x.undo(), 2);
        Check.due("the eye ahead of it", x.pupil(0, 0), 50);
        Check.due("the text is read", x.readPapers(), 0);
        Check.due("its setting", x.paper(2, 2), 2);
    }

    private static void constants() {
        VernierSchool x = full("");
        Check.sentence("`UNKNOWN = -10000001`: There is no such instrument, pupil or paper.");
        Check.due("UNKNOWN", UNKNOWN, -10000001);
        Check.due("no such instrument", x.announce(10), UNKNOWN);
        Check.due("no such pupil", x.teach(12, 1), UNKNOWN);
        Check.due("no such paper", x.appeal(60, 1), UNKNOWN);
        Check.sentence("`BAD_VALUE = -10000002`: Another argument is out of range.");
        Check.due("BAD_VALUE", BAD_VALUE, -10000002);
        Check.due("another argument", x.teach(11, 4), BAD_VALUE);
        Check.sentence("`FULL = -10000003`: There is no more room.");
        Check.due("FULL", FULL, -10000003);
        Check.due("no more room", x.write(0, 0, 0), FULL);
        Check.sentence("`NOT_POSSIBLE = -10000004`: This is not possible.");
        Check.due("NOT_POSSIBLE", NOT_POSSIBLE, -10000004);
        Check.due("not possible", x.announce(0), NOT_POSSIBLE);
        Check.sentence("`NONE = -10000005`: There is no such thing; not an error.");
        Check.due("NONE", NONE, -10000005);
        Check.due("no such thing", x.ranked(12), NONE);
    }

    private static void orderOfTheChecks() {
        Check.sentence("Where several errors can apply, the order of the @return line is the order"
                + " of the checks.");
        VernierSchool x = full("0/0@1001;0/10@0");
        Check.due("addInstrument: bad, full", x.addInstrument(51, 1, 2, true), BAD_VALUE);
        Check.due("addPupil: bad, full", x.addPupil(0, -1), BAD_VALUE);
        Check.due("adjust: unknown, bad", x.adjust(10, 0, -1), UNKNOWN);
        Check.due("setTrap: unknown, bad", x.setTrap(-1, 4), UNKNOWN);
        Check.due("announce: unknown, no trap", x.announce(10), UNKNOWN);
        Check.due("teach: unknown, bad", x.teach(12, 0), UNKNOWN);
        Check.due("train: unknown, bad", x.train(12, 51, 0), UNKNOWN);
        Check.due("write: unknown, bad, full", x.write(12, 0, -1), UNKNOWN);
        Check.due("write: bad, full", x.write(0, 0, -1), BAD_VALUE);
        Check.due("appeal: unknown, bad, full", x.appeal(60, 0), UNKNOWN);
        Check.due("appeal: bad, not possible, full", x.appeal(0, 0), BAD_VALUE);
        Check.due("appeal: not possible, full", x.appeal(0, 1), NOT_POSSIBLE);
        Check.due("readPapers: unknown, bad, full", x.readPapers(), UNKNOWN);
        Check.due("instrument: unknown, bad", x.instrument(10, 11), UNKNOWN);
        Check.due("pupil: unknown, bad", x.pupil(12, 9), UNKNOWN);
        Check.due("paper: unknown, bad", x.paper(60, 8), UNKNOWN);
        Check.due("coincidence: unknown, bad", x.coincidence(10, -1001, 7), UNKNOWN);
        Check.due("answer: unknown, bad", x.answer(0, 10, -1), UNKNOWN);
        Check.due("would: unknown, bad", x.would(12, 5), UNKNOWN);
    }

    private static void noneOnlyIfNoError() {
        Check.sentence("NONE is no error; it is returned only if no error applies.");
        VernierSchool x = Schools.plain();
        Check.due("adjust: so already, the gap bad", x.adjust(0, 0, -1), BAD_VALUE);
        Check.due("adjust: so already", x.adjust(0, 0, 0), NONE);
        Check.due("setTrap: so already, unknown", x.setTrap(1, 0), UNKNOWN);
        Check.due("setTrap: so already", x.setTrap(0, 0), NONE);
        Check.due("announce: no trap", x.announce(0), NOT_POSSIBLE);
        Check.due("train: so already, the habits bad", x.train(0, 0, 16), BAD_VALUE);
        Check.due("train: so already", x.train(0, 0, 0), NONE);
        x.teach(0, 1);
        Check.due("teach: known already, unknown", x.teach(1, 1), UNKNOWN);
        Check.due("teach: known already", x.teach(0, 1), NONE);
        Check.due("ranked: not so many, negative", x.ranked(-2), BAD_VALUE);
        Check.due("ranked: not so many", x.ranked(1), NONE);
        Check.due("waiting: not so many, negative", x.waiting(-1), BAD_VALUE);
        Check.due("waiting: not so many", x.waiting(0), NONE);
        Check.due("pupil: no papers, bad", x.pupil(0, 9), BAD_VALUE);
        Check.due("pupil: no papers", x.pupil(0, 8), NONE);
    }

    /** All that can be found out about a school in some 500 calls; it is not of use after that. */
    private static String whole(VernierSchool x, int rows) {
        StringBuilder whole = new StringBuilder(Schools.told(x, rows));
        whole.append(x.count(7)).append(' ').append(x.count(8)).append('\n');
        for (int undone = 0; undone < 4; undone++) {
            whole.append(x.undo()).append('\n').append(Schools.told(x, rows));
        }
        whole.append(x.restore()).append('\n').append(Schools.told(x, rows));
        whole.append(x.readPapers()).append(' ').append(x.count(2)).append(' ').append(x.count(6));
        return whole.toString();
    }

    private static void unchanged(String call, VernierSchool x, int due, int rows, String untouched,
            ToIntFunction<VernierSchool> answer) {
        Check.due(call, answer.applyAsInt(x), due);
        Check.isTrue(call + " changes nothing", whole(x, rows).equals(untouched));
    }

    private static void inNew(String call, int due, ToIntFunction<VernierSchool> answer) {
        unchanged("new: " + call, new VernierSchool(), due, 1, whole(new VernierSchool(), 1),
                answer);
    }

    private static void refusedCallsOfANewSchool() {
        Check.sentence("A call that returns an error or NONE changes nothing.");
        inNew("addInstrument", BAD_VALUE, x -> x.addInstrument(2, 1, 1, true));
        inNew("adjust", UNKNOWN, x -> x.adjust(0, 0, 0));
        inNew("setTrap", UNKNOWN, x -> x.setTrap(0, 1));
        inNew("announce", UNKNOWN, x -> x.announce(0));
        inNew("addPupil", BAD_VALUE, x -> x.addPupil(51, 0));
        inNew("teach", UNKNOWN, x -> x.teach(0, 1));
        inNew("train", UNKNOWN, x -> x.train(0, 1, 1));
        inNew("write", UNKNOWN, x -> x.write(0, 0, 0));
        inNew("appeal", UNKNOWN, x -> x.appeal(0, 1));
        inNew("decide", NONE, x -> x.decide());
        inNew("readPapers", -100, x -> x.readPapers());
        inNew("undo", NONE, x -> x.undo());
        inNew("restore", NONE, x -> x.restore());
        inNew("ranked", NONE, x -> x.ranked(0));
        inNew("waiting", NONE, x -> x.waiting(0));
    }

    /** Two instruments, pupils and papers, a snapshot and a full history; no appeal waits. */
    private static VernierSchool ordinary(String text) {
        VernierSchool x = Schools.pair(10, 2, 50, 20, 3);
        x.addInstrument(5, 3, 9, true);
        x.addPupil(-7, 8);
        x.write(1, 1, 9);
        x.keep();
        x.adjust(0, -5, 10);
        x.write(0, 0, 46);
        x.appeal(1, 2);
        x.setTrap(0, 3);
        x.decide();
        x.announce(0);
        Check.typeAll(x, text);
        return x;
    }

    private static void inOrdinary(String call, int due, ToIntFunction<VernierSchool> answer) {
        unchanged("ordinary: " + call, ordinary("0/0@46"), due, 2, whole(ordinary("0/0@46"), 2),
                answer);
    }

    private static void refusedCallsOfAnOrdinarySchool() {
        Check.sentence("A call that returns an error or NONE changes nothing.");
        inOrdinary("addInstrument, n", BAD_VALUE, x -> x.addInstrument(1, 1, 2, true));
        inOrdinary("addInstrument, u", BAD_VALUE, x -> x.addInstrument(2, 51, 2, true));
        inOrdinary("addInstrument, lines", BAD_VALUE, x -> x.addInstrument(2, 1, 201, true));
        inOrdinary("adjust", UNKNOWN, x -> x.adjust(2, 1, 1));
        inOrdinary("adjust, zero", BAD_VALUE, x -> x.adjust(0, 21, 1));
        inOrdinary("adjust, gap", BAD_VALUE, x -> x.adjust(0, 1, 21));
        inOrdinary("adjust, so already", NONE, x -> x.adjust(0, -5, 10));
        inOrdinary("setTrap", UNKNOWN, x -> x.setTrap(-1, 1));
        inOrdinary("setTrap, trap", BAD_VALUE, x -> x.setTrap(0, 4));
        inOrdinary("setTrap, so already", NONE, x -> x.setTrap(1, 0));
        inOrdinary("announce", UNKNOWN, x -> x.announce(2));
        inOrdinary("announce, no trap", NOT_POSSIBLE, x -> x.announce(1));
        inOrdinary("announce, already", NONE, x -> x.announce(0));
        inOrdinary("addPupil, eye", BAD_VALUE, x -> x.addPupil(-51, 0));
        inOrdinary("addPupil, habits", BAD_VALUE, x -> x.addPupil(0, 16));
        inOrdinary("teach", UNKNOWN, x -> x.teach(2, 1));
        inOrdinary("teach, trap", BAD_VALUE, x -> x.teach(0, 0));
        inOrdinary("teach, known", NONE, x -> x.teach(0, 3));
        inOrdinary("train", UNKNOWN, x -> x.train(-1, 1, 1));
        inOrdinary("train, eye", BAD_VALUE, x -> x.train(0, 51, 1));
        inOrdinary("train, habits", BAD_VALUE, x -> x.train(0, 1, -1));
        inOrdinary("train, so already", NONE, x -> x.train(0, 20, 3));
        inOrdinary("write, pupil", UNKNOWN, x -> x.write(2, 0, 1));
        inOrdinary("write, instrument", UNKNOWN, x -> x.write(0, 2, 1));
        inOrdinary("write, setting", BAD_VALUE, x -> x.write(0, 1, 136));
        inOrdinary("appeal", UNKNOWN, x -> x.appeal(2, 1));
        inOrdinary("appeal, cause", BAD_VALUE, x -> x.appeal(0, 4));
        inOrdinary("appeal, already", NOT_POSSIBLE, x -> x.appeal(1, 1));
        inOrdinary("decide", NONE, x -> x.decide());
        inOrdinary("instrument", UNKNOWN, x -> x.instrument(2, 0));
        inOrdinary("pupil", BAD_VALUE, x -> x.pupil(0, 9));
        inOrdinary("paper", BAD_VALUE, x -> x.paper(0, 8));
        inOrdinary("coincidence", BAD_VALUE, x -> x.coincidence(0, -1001, 0));
        inOrdinary("answer", BAD_VALUE, x -> x.answer(0, 0, 1001));
        inOrdinary("would", BAD_VALUE, x -> x.would(0, 5));
        inOrdinary("ranked", NONE, x -> x.ranked(2));
        inOrdinary("waiting", NONE, x -> x.waiting(0));
        inOrdinary("count", BAD_VALUE, x -> x.count(9));
    }

    private static void refusedTexts() {
        Check.sentence("A call that returns an error or NONE changes nothing.");
        String[] texts = {"", "0/0@2;x", "0/0@2;", "0/0@2;2/0@2", "0/0@2;0/2@2", "0/0@2;0/1@136"};
        int[] due = {-100, -106, -106, UNKNOWN, UNKNOWN, BAD_VALUE};
        for (int i = 0; i < texts.length; i++) {
            String untouched = whole(ordinary(texts[i]), 2);
            unchanged("readPapers of " + texts[i], ordinary(texts[i]), due[i], 2, untouched,
                    x -> x.readPapers());
        }
    }

    /** As many of all things as there can be, and a text behind which there is no room. */
    private static VernierSchool full(String text) {
        VernierSchool x = new VernierSchool();
        for (int i = 0; i < 10; i++) {
            x.addInstrument(10, 2, 50, i % 2 == 0);
        }
        for (int i = 0; i < 12; i++) {
            x.addPupil(i, 0);
        }
        Check.typeAll(x, TEN_PAPERS);
        for (int i = 0; i < 6; i++) {
            x.readPapers();
        }
        x.keep();
        for (int i = 0; i < 20; i++) {
            x.appeal(i, 1 + i % 3);
        }
        if (!text.equals(TEN_PAPERS)) {
            x.clearText();
            Check.typeAll(x, text);
        }
        return x;
    }

    private static void inFull(String call, int due, ToIntFunction<VernierSchool> answer) {
        unchanged("full: " + call, full(TEN_PAPERS), due, 1, whole(full(TEN_PAPERS), 1), answer);
    }

    private static void refusedCallsOfAFullSchool() {
        Check.sentence("A call that returns an error or NONE changes nothing.");
        inFull("addInstrument", FULL, x -> x.addInstrument(10, 2, 50, true));
        inFull("addPupil", FULL, x -> x.addPupil(0, 0));
        inFull("write", FULL, x -> x.write(0, 0, 0));
        inFull("appeal", FULL, x -> x.appeal(20, 1));
        inFull("appeal, already", NOT_POSSIBLE, x -> x.appeal(0, 1));
        inFull("type", FULL, x -> x.type('0'));
        inFull("readPapers", FULL, x -> x.readPapers());
    }

    private static void answersOfUndo() {
        Check.sentence("Returns the number of states that are left; NONE if the history is"
                + " empty.");
        VernierSchool x = new VernierSchool();
        Check.due("empty", x.undo(), NONE);
        x.addPupil(0, 0);
        Check.due("none left", x.undo(), 0);
        Check.due("empty again", x.undo(), NONE);
        for (int act = 0; act < 7; act++) {
            x.addPupil(act, 0);
        }
        for (int left = 3; left >= 0; left--) {
            Check.due("left", x.undo(), left);
        }
        Check.due("empty once more", x.undo(), NONE);
        Check.due("three pupils stay", x.count(1), 3);
    }

    private static void inPlaceOfTheOneThatWas() {
        Check.sentence("Takes a snapshot of the state, in place of the one that was.");
        VernierSchool x = new VernierSchool();
        x.addPupil(1, 1);
        x.keep();
        x.train(0, 2, 2);
        x.addInstrument(10, 2, 50, false);
        x.keep();
        x.train(0, 3, 3);
        x.restore();
        Check.due("the later eye", x.pupil(0, 0), 2);
        Check.due("the later instrument", x.count(0), 1);
        x.undo();
        x.undo();
        x.undo();
        x.undo();
        Check.due("nothing is left", x.count(1), 1);
        x.undo();
        x.keep();
        x.addPupil(4, 4);
        x.restore();
        Check.due("a smaller one in place of it", x.count(1), 1);
    }

    private static void answersOfKeep() {
        Check.sentence("Returns the number of papers.");
        VernierSchool x = Schools.plain();
        Check.due("none", x.keep(), 0);
        for (int paper = 0; paper < 60; paper++) {
            x.write(0, 0, paper);
        }
        Check.due("sixty", x.keep(), 60);
        Check.due("sixty again", x.keep(), 60);
        x.undo();
        Check.due("after undo", x.keep(), 59);
    }

    private static void snapshotStays() {
        Check.sentence("Restores the state of the snapshot, which stays.");
        VernierSchool x = readyForActs();
        x.keep();
        String kept = Schools.told(x, 1);
        for (int act = 0; act <= 10; act++) {
            act(x, act);
            if (act % 5 == 0) {
                Check.due("restore", x.restore(), 2);
                Check.isTrue("as kept, after " + act, Schools.told(x, 1).equals(kept));
            }
        }
        Check.due("restore what is so already", x.restore(), 2);
        Check.due("is an act all the same", x.count(7), 4);
        Check.isTrue("as kept", Schools.told(x, 1).equals(kept));
    }

    private static void answersOfRestore() {
        Check.sentence("Returns the number of papers then; NONE if there is no snapshot.");
        VernierSchool x = Schools.plain();
        Check.due("no snapshot", x.restore(), NONE);
        x.keep();
        x.write(0, 0, 0);
        Check.due("no paper then", x.restore(), 0);
        for (int paper = 0; paper < 60; paper++) {
            x.write(0, 0, paper);
        }
        x.keep();
        x.undo();
        Check.due("sixty then", x.restore(), 60);
        Check.due("full then", x.write(0, 0, 0), FULL);
        VernierSchool empty = new VernierSchool();
        empty.keep();
        empty.addPupil(0, 0);
        Check.due("the empty school", empty.restore(), 0);
        Check.due("no pupil then", empty.count(1), 0);
    }

    private static void whatOfCount() {
        Check.sentence("`what`: 0 for the number of instruments, 1 for pupils, 2 for papers, 3 for"
                + " appeals that wait, 4 for granted ones, 5 for refused ones, 6 for the sum of"
                + " all marks, 7 for the states in the history, 8 for the length of the text");
        VernierSchool x = new VernierSchool();
        for (int what = 0; what <= 8; what++) {
            Check.due("new: count(" + what + ")", x.count(what), 0);
        }
        VernierSchool full = full(TEN_PAPERS);
        int[] most = {10, 12, 60, 20, 0, 0, 600, 4, 60};
        for (int what = 0; what <= 8; what++) {
            Check.due("full: count(" + what + ")", full.count(what), most[what]);
        }
        for (int i = 0; i < 20; i++) {
            full.decide();
        }
        int[] then = {10, 12, 60, 0, 0, 20, 580, 4, 60};
        for (int what = 0; what <= 8; what++) {
            Check.due("decided: count(" + what + ")", full.count(what), then[what]);
        }
        Check.bounds("what", 0, 8, what -> full.count(what));
    }

    private static void errorsOfCount() {
        Check.sentence("Returns the number; BAD_VALUE.");
        VernierSchool x = new VernierSchool();
        Check.bounds("count of a new school", 0, 8, what -> x.count(what));
        Check.due("no state", x.count(7), 0);
    }
}

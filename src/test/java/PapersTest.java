/** Promises 9 and 20, what is kept: write, paper; and promise 23: would. */
final class PapersTest {
    public static void main(String[] args) {
        paper();
        papersDoNotChange();
        writeUntilFull();
        wouldWithoutEachWeakness();
        wouldBeWorseWithoutHaste();
        wouldAsThingsAreNow();
        wouldWrongly();
        Check.end();
    }

    private static void paperIs(VernierSchool x, int paper, int... due) {
        for (int what = 0; what <= 7; what++) {
            Check.due("paper(" + paper + ", " + what + ")", x.paper(paper, what), due[what]);
        }
    }

    private static void paper() {
        VernierSchool x = new VernierSchool();
        int none = VernierSchool.NONE;
        x.addInstrument(10, 2, 50, false);
        x.addInstrument(10, 2, 50, true);
        x.addPupil(0, 0);
        x.addPupil(0, 2);
        Check.due("paper: none yet", x.paper(0, 0), VernierSchool.UNKNOWN);
        Check.due("paper: first mark", x.write(1, 0, 46), 9);
        Check.due("paper: second mark", x.write(0, 1, 47), 10);
        paperIs(x, 0, 1, 0, 46, 44, 9, 0, none, none);
        paperIs(x, 1, 0, 1, 47, 46, 10, 0, none, none);
        Check.due("paper: hope", x.appeal(0, 3), 1);
        paperIs(x, 0, 1, 0, 46, 44, 9, 1, 3, 1);
        Check.due("paper: hope of the other", x.appeal(1, 2), 0);
        paperIs(x, 1, 0, 1, 47, 46, 10, 1, 2, 0);
        Check.due("paper: granted", x.decide(), 1);
        paperIs(x, 0, 1, 0, 46, 44, 10, 2, 3, 1);
        Check.due("paper: refused", x.decide(), 2);
        paperIs(x, 1, 0, 1, 47, 46, 9, 3, 2, 0);
        Check.due("paper: what -1", x.paper(0, -1), VernierSchool.BAD_VALUE);
        Check.due("paper: what 8", x.paper(0, 8), VernierSchool.BAD_VALUE);
        Check.due("paper: no paper, what 8", x.paper(2, 8), VernierSchool.UNKNOWN);
        Check.due("paper: -1", x.paper(-1, 0), VernierSchool.UNKNOWN);
        x.write(0, 0, 0);
        paperIs(x, 2, 0, 0, 0, 0, 10, 0, none, none);
    }

    private static void papersDoNotChange() {
        VernierSchool x = new VernierSchool();
        x.addInstrument(10, 2, 50, false);
        x.addPupil(0, 0);
        x.write(0, 0, 46);
        x.adjust(0, 20, 20);
        x.setTrap(0, 3);
        x.train(0, 50, 15);
        paperIs(x, 0, 0, 0, 46, 46, 10, 0, VernierSchool.NONE, VernierSchool.NONE);
        // p is 46 + 20 + 100: m is 8, k is 3, then 2, then m is 9.
        Check.due("later: mark", x.write(0, 0, 46), 0);
        Check.due("later: answer", x.paper(1, 3), 184);
    }

    private static void writeUntilFull() {
        VernierSchool x = new VernierSchool();
        x.addInstrument(10, 2, 50, false);
        x.addPupil(0, 0);
        for (int i = 0; i < 60; i++) {
            Check.due("write: mark", x.write(0, 0, 2 * i), 10);
            Check.due("write: setting", x.paper(i, 2), 2 * i);
        }
        Check.due("write: full", x.write(0, 0, 0), VernierSchool.FULL);
        Check.due("write: bad value ahead of full", x.write(0, 0, -1), VernierSchool.BAD_VALUE);
        Check.due("write: unknown ahead of full", x.write(0, 1, 0), VernierSchool.UNKNOWN);
        Check.due("write: sixty", x.count(2), 60);
        Check.due("write: sixty of the pupil", x.pupil(0, 3), 60);
        Check.due("write: sum of all", x.pupil(0, 4), 600);
        x.undo();
        Check.due("write: once more", x.write(0, 0, 9), 10);
        Check.due("write: the last one", x.paper(59, 2), 9);
    }

    private static void wouldWithoutEachWeakness() {
        VernierSchool x = new VernierSchool();
        x.addInstrument(10, 1, 50, false);
        x.addInstrument(10, 1, 50, false);
        x.adjust(0, 0, 10);
        x.setTrap(1, 1);
        x.addPupil(4, 2);
        x.addPupil(0, 0);
        // At 40 the eye makes 44; at 41 it makes 45 and the habit 44.
        Check.due("would: mark at 40", x.write(0, 0, 40), 6);
        Check.due("would: mark at 41", x.write(0, 0, 41), 7);
        // 2, and 8 by the trap; 3 becomes 2 by the habit, and 8.
        Check.due("would: mark at 52", x.write(0, 1, 52), 4);
        Check.due("would: mark at 53", x.write(0, 1, 53), 5);
        x.write(1, 0, 40);
        Check.due("would: as the pupil is", x.would(0, 0), 22);
        Check.due("would: eye 0", x.would(0, 1), 10 + 9 + 4 + 5);
        Check.due("would: no habits", x.would(0, 2), 6 + 6 + 4 + 6);
        Check.due("would: all traps known", x.would(0, 3), 6 + 7 + 10 + 9);
        Check.due("would: all of these", x.would(0, 4), 40);
        Check.due("would: the other", x.would(1, 0), 10);
        Check.due("would: no act", x.count(7), 4);
        x.train(0, 4, 10);
        x.adjust(0, 3, 10);
        // Not corrected, and even: 46 for 40, 48 for 41.
        Check.due("would: uncorrected", x.would(0, 0), 4 + 3 + 4 + 5);
        Check.due("would: no habit at all", x.would(0, 2), 6 + 6 + 4 + 6);
    }

    private static void wouldBeWorseWithoutHaste() {
        VernierSchool x = new VernierSchool();
        x.addInstrument(10, 4, 50, false);
        x.adjust(0, 0, 10);
        x.addPupil(5, 1);
        // p is 51: the hasty 48 is 2 off, the nearest line 52 is 6 off.
        Check.due("haste: mark", x.write(0, 0, 46), 10);
        Check.due("haste: as the pupil is", x.would(0, 0), 10);
        Check.due("haste: no habits", x.would(0, 2), 9);
        Check.due("haste: eye 0", x.would(0, 1), 10);
    }

    private static void wouldAsThingsAreNow() {
        VernierSchool x = new VernierSchool();
        x.addInstrument(10, 2, 50, false);
        x.addPupil(0, 0);
        Check.due("would: no papers", x.would(0, 4), 0);
        x.write(0, 0, 100);
        x.write(0, 0, 50);
        x.appeal(0, 1);
        x.decide();
        Check.due("would: marks now", x.pupil(0, 4), 19);
        Check.due("would: appeals play no part", x.would(0, 0), 20);
        x.setTrap(0, 2);
        Check.due("would: a new trap", x.would(0, 0), 10);
        Check.due("would: a new trap known", x.would(0, 3), 20);
        x.train(0, 50, 0);
        x.adjust(0, 0, 1);
        x.teach(0, 2);
        Check.due("would: a new eye", x.would(0, 0), 16);
        Check.due("would: a new eye 0", x.would(0, 1), 20);
    }

    private static void wouldWrongly() {
        VernierSchool x = new VernierSchool();
        x.addPupil(0, 0);
        Check.due("would: no pupil", x.would(1, 0), VernierSchool.UNKNOWN);
        Check.due("would: no pupil, what 5", x.would(-1, 5), VernierSchool.UNKNOWN);
        Check.due("would: what -1", x.would(0, -1), VernierSchool.BAD_VALUE);
        Check.due("would: what 5", x.would(0, 5), VernierSchool.BAD_VALUE);
    }
}

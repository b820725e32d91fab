/** Promises 15 to 17 and 26: undo, keep, restore, count. */
final class HistoryTest {
    public static void main(String[] args) {
        fourStates();
        noStateOfErrors();
        keepAndRestore();
        snapshotIsApart();
        count();
        Check.end();
    }

    private static void fourStates() {
        VernierSchool x = new VernierSchool();
        Check.due("undo: none", x.undo(), VernierSchool.NONE);
        for (int i = 0; i < 6; i++) {
            x.addPupil(i, 0);
            Check.due("undo: states", x.count(7), Math.min(4, i + 1));
        }
        for (int left = 3; left >= 0; left--) {
            Check.due("undo: left", x.undo(), left);
            Check.due("undo: pupils", x.count(1), left + 2);
        }
        Check.due("undo: dropped", x.undo(), VernierSchool.NONE);
        Check.due("undo: two stay", x.count(1), 2);
        x.addPupil(7, 0);
        Check.due("undo: one again", x.undo(), 0);
        for (int i = 0; i < 20; i++) {
            x.train(0, i % 3 + 1, i % 16);
            x.train(1, i % 5 - 9, 3);
            x.undo();
            Check.due("undo: the other's eye", x.pupil(1, 0), 1);
            Check.due("undo: the eye", x.pupil(0, 0), i % 3 + 1);
        }
    }

    private static VernierSchool school() {
        VernierSchool x = new VernierSchool();
        x.addInstrument(10, 2, 50, false);
        x.setTrap(0, 1);
        x.addPupil(20, 3);
        x.adjust(0, 5, 10);
        x.write(0, 0, 46);
        Check.typeAll(x, "0/0@17;0/0@20");
        return x;
    }

    private static void noStateOfErrors() {
        VernierSchool x = new VernierSchool();
        x.addInstrument(10, 2, 50, false);
        x.addPupil(0, 0);
        x.setTrap(0, 1);
        x.undo();
        Check.due("errors: two states", x.count(7), 2);
        x.addInstrument(1, 1, 1, true);
        x.adjust(0, 0, 0);
        x.adjust(0, 21, 0);
        x.setTrap(0, 0);
        x.announce(0);
        x.addPupil(0, 16);
        x.teach(0, 4);
        x.train(0, 0, 0);
        x.write(0, 0, 1001);
        x.appeal(0, 1);
        x.decide();
        x.readPapers();
        x.restore();
        x.keep();
        x.type('0');
        x.clearText();
        x.answer(0, 0, 0);
        x.would(0, 0);
        Check.due("errors: still two states", x.count(7), 2);
        Check.due("errors: undo", x.undo(), 1);
        Check.due("errors: the pupil went", x.count(1), 0);
        Check.due("errors: the instrument did not", x.count(0), 1);
    }

    private static void keepAndRestore() {
        VernierSchool x = school();
        Check.due("restore: none", x.restore(), VernierSchool.NONE);
        Check.due("keep: papers", x.keep(), 1);
        Check.due("keep: is no act", x.count(7), 4);
        String kept = Schools.told(x, 1);
        x.write(0, 0, 9);
        x.appeal(0, 2);
        x.decide();
        x.addPupil(3, 3);
        x.train(0, 4, 4);
        String later = Schools.told(x, 1);
        Check.due("restore: papers", x.restore(), 1);
        Check.isTrue("restore: as kept", Schools.told(x, 1).equals(kept));
        Check.due("restore: four states", x.count(7), 4);
        Check.due("restore: undo", x.undo(), 3);
        Check.isTrue("restore: undone", Schools.told(x, 1).equals(later));
        Check.due("restore: stays", x.restore(), 1);
        Check.due("restore: twice", x.restore(), 1);
        x.undo();
        Check.isTrue("restore: the same is an act", Schools.told(x, 1).equals(kept));
        x.undo();
        Check.isTrue("restore: the first of both", Schools.told(x, 1).equals(later));
        Check.due("keep: again", x.keep(), 2);
        x.undo();
        Check.due("restore: the newer one", x.restore(), 2);
        Check.isTrue("restore: as kept again", Schools.told(x, 1).equals(later));
    }

    private static void snapshotIsApart() {
        VernierSchool x = new VernierSchool();
        Check.due("snapshot: of nothing", x.keep(), 0);
        x.addPupil(1, 1);
        x.undo();
        Check.due("snapshot: undo leaves it", x.restore(), 0);
        x.addPupil(2, 2);
        x.train(0, 3, 3);
        Check.due("snapshot: of nothing again", x.restore(), 0);
        Check.due("snapshot: no pupil", x.count(1), 0);
        x.undo();
        Check.due("snapshot: the pupil again", x.pupil(0, 0), 3);
        x.keep();
        x.train(0, 5, 5);
        x.restore();
        Check.due("snapshot: the eye", x.pupil(0, 0), 3);
        x.train(0, 6, 6);
        x.restore();
        Check.due("snapshot: still the eye", x.pupil(0, 0), 3);
    }

    private static void count() {
        VernierSchool x = new VernierSchool();
        x.addInstrument(12, 1, 2, false);
        x.addInstrument(12, 1, 2, false);
        x.addPupil(0, 0);
        x.addPupil(0, 0);
        x.addPupil(0, 0);
        x.setTrap(0, 1);
        for (int setting = 1; setting <= 6; setting++) {
            x.write(setting % 2, 0, setting);
        }
        for (int paper = 0; paper < 6; paper++) {
            x.appeal(paper, paper == 5 ? 2 : 1);
        }
        x.decide();
        x.decide();
        x.setTrap(0, 0);
        x.decide();
        Check.typeAll(x, "hello");
        // The marks were 0, 2, 4, 6, 8, 10; two became 10 and the third one 3.
        int[] due = {2, 3, 6, 3, 2, 1, 47, 4, 5};
        for (int what = 0; what <= 8; what++) {
            Check.due("count(" + what + ")", x.count(what), due[what]);
        }
        Check.due("count(-1)", x.count(-1), VernierSchool.BAD_VALUE);
        Check.due("count(9)", x.count(9), VernierSchool.BAD_VALUE);
        x.undo();
        int[] then = {2, 3, 6, 4, 2, 0, 48, 3, 5};
        for (int what = 0; what <= 8; what++) {
            Check.due("then: count(" + what + ")", x.count(what), then[what]);
        }
    }
}

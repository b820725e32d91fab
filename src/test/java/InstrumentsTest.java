/** Promises 1 to 5 and 18: a new object, addInstrument, adjust, setTrap, announce, instrument. */
final class InstrumentsTest {
    public static void main(String[] args) {
        newObject();
        addInstrument();
        addInstrumentWrongly();
        adjust();
        setTrap();
        announce();
        announceToNoneAndToLatePupils();
        instrument();
        Check.end();
    }

    private static void newObject() {
        VernierSchool x = new VernierSchool();
        for (int what = 0; what <= 8; what++) {
            Check.due("new: count(" + what + ")", x.count(what), 0);
        }
        Check.due("new: instrument", x.instrument(0, 0), VernierSchool.UNKNOWN);
        Check.due("new: pupil", x.pupil(0, 0), VernierSchool.UNKNOWN);
        Check.due("new: paper", x.paper(0, 0), VernierSchool.UNKNOWN);
        Check.due("new: ranked", x.ranked(0), VernierSchool.NONE);
        Check.due("new: waiting", x.waiting(0), VernierSchool.NONE);
        Check.due("new: undo", x.undo(), VernierSchool.NONE);
        Check.due("new: restore", x.restore(), VernierSchool.NONE);
        Check.due("new: decide", x.decide(), VernierSchool.NONE);
        Check.due("new: readPapers", x.readPapers(), -100);
        VernierSchool other = new VernierSchool();
        other.addInstrument(10, 2, 50, false);
        Check.due("new: objects are apart", x.count(0), 0);
    }

    private static void addInstrument() {
        VernierSchool x = new VernierSchool();
        Check.due("add: least of all", x.addInstrument(2, 1, 2, false), 0);
        Check.due("add: greatest of all", x.addInstrument(50, 50, 200, true), 1);
        int[] small = {2, 1, 2, 0, 0, 0, 0, 0, 4, 1, 0};
        int[] large = {50, 50, 200, 1, 0, 0, 0, 0, 500000, 2550, 0};
        for (int what = 0; what <= 10; what++) {
            Check.due("add: small " + what, x.instrument(0, what), small[what]);
            Check.due("add: large " + what, x.instrument(1, what), large[what]);
        }
        for (int i = 2; i < 10; i++) {
            Check.due("add: number", x.addInstrument(10, i, 20, i % 2 == 0), i);
        }
        Check.due("add: the last one", x.instrument(9, 1), 9);
        Check.due("add: full", x.addInstrument(10, 2, 50, false), VernierSchool.FULL);
        Check.due("add: bad value ahead of full", x.addInstrument(1, 2, 50, false),
                VernierSchool.BAD_VALUE);
        Check.due("add: ten stay", x.count(0), 10);
        Check.due("add: after undo", x.undo(), 3);
        Check.due("add: nine", x.count(0), 9);
        Check.due("add: the number again", x.addInstrument(3, 3, 3, false), 9);
        Check.due("add: of the new one", x.instrument(9, 8), 27);
    }

    private static void addInstrumentWrongly() {
        VernierSchool x = new VernierSchool();
        int bad = VernierSchool.BAD_VALUE;
        Check.due("add: n 1", x.addInstrument(1, 1, 2, false), bad);
        Check.due("add: n 51", x.addInstrument(51, 1, 2, false), bad);
        Check.due("add: n least int", x.addInstrument(Integer.MIN_VALUE, 1, 2, false), bad);
        Check.due("add: u 0", x.addInstrument(2, 0, 2, true), bad);
        Check.due("add: u 51", x.addInstrument(2, 51, 2, true), bad);
        Check.due("add: u -1", x.addInstrument(2, -1, 2, true), bad);
        Check.due("add: lines 1", x.addInstrument(2, 1, 1, false), bad);
        Check.due("add: lines 201", x.addInstrument(2, 1, 201, false), bad);
        Check.due("add: lines greatest int", x.addInstrument(2, 1, Integer.MAX_VALUE, false), bad);
        Check.due("add: none was added", x.count(0), 0);
        Check.due("add: no state was recorded", x.count(7), 0);
    }

    private static void adjust() {
        VernierSchool x = new VernierSchool();
        x.addInstrument(10, 2, 50, false);
        x.addInstrument(5, 3, 10, true);
        Check.due("adjust: first", x.adjust(0, 20, 20), 0);
        Check.due("adjust: zero", x.instrument(0, 4), 20);
        Check.due("adjust: gap", x.instrument(0, 5), 20);
        Check.due("adjust: the other stays", x.instrument(1, 4), 0);
        Check.due("adjust: to the least", x.adjust(0, -20, 0), 20);
        Check.due("adjust: zero below 0", x.instrument(0, 4), -20);
        Check.due("adjust: gap 0", x.instrument(0, 5), 0);
        Check.due("adjust: both so already", x.adjust(0, -20, 0), VernierSchool.NONE);
        Check.due("adjust: the gap alone", x.adjust(0, -20, 1), -20);
        Check.due("adjust: the zero alone", x.adjust(0, 3, 1), -20);
        Check.due("adjust: states", x.count(7), 4);
        Check.due("adjust: no instrument -1", x.adjust(-1, 0, 0), VernierSchool.UNKNOWN);
        Check.due("adjust: no instrument 2", x.adjust(2, 0, 99), VernierSchool.UNKNOWN);
        Check.due("adjust: zero 21", x.adjust(0, 21, 1), VernierSchool.BAD_VALUE);
        Check.due("adjust: zero -21", x.adjust(0, -21, 1), VernierSchool.BAD_VALUE);
        Check.due("adjust: zero 15 of 5 * 3", x.adjust(1, 15, 0), 0);
        Check.due("adjust: zero 16 of 5 * 3", x.adjust(1, 16, 0), VernierSchool.BAD_VALUE);
        Check.due("adjust: gap -1", x.adjust(0, 3, -1), VernierSchool.BAD_VALUE);
        Check.due("adjust: gap 21", x.adjust(0, 3, 21), VernierSchool.BAD_VALUE);
        Check.due("adjust: nothing changed", x.instrument(0, 5), 1);
        x.undo();
        Check.due("adjust: undone", x.instrument(1, 4), 0);
    }

    private static void setTrap() {
        VernierSchool x = new VernierSchool();
        x.addInstrument(10, 2, 50, false);
        Check.due("setTrap: none already", x.setTrap(0, 0), VernierSchool.NONE);
        Check.due("setTrap: no state", x.count(7), 1);
        Check.due("setTrap: 3", x.setTrap(0, 3), 0);
        Check.due("setTrap: is 3", x.instrument(0, 6), 3);
        Check.due("setTrap: again", x.setTrap(0, 3), VernierSchool.NONE);
        x.announce(0);
        Check.due("setTrap: announced", x.instrument(0, 7), 1);
        Check.due("setTrap: again, announced", x.setTrap(0, 3), VernierSchool.NONE);
        Check.due("setTrap: stays announced", x.instrument(0, 7), 1);
        Check.due("setTrap: another", x.setTrap(0, 1), 3);
        Check.due("setTrap: not announced", x.instrument(0, 7), 0);
        x.announce(0);
        Check.due("setTrap: away", x.setTrap(0, 0), 1);
        Check.due("setTrap: none, not announced", x.instrument(0, 7), 0);
        Check.due("setTrap: no instrument", x.setTrap(1, 0), VernierSchool.UNKNOWN);
        Check.due("setTrap: no instrument, bad trap", x.setTrap(-1, 9), VernierSchool.UNKNOWN);
        Check.due("setTrap: 4", x.setTrap(0, 4), VernierSchool.BAD_VALUE);
        Check.due("setTrap: -1", x.setTrap(0, -1), VernierSchool.BAD_VALUE);
        Check.due("setTrap: still none", x.instrument(0, 6), 0);
        x.undo();
        Check.due("setTrap: undone", x.instrument(0, 6), 1);
        Check.due("setTrap: announced again", x.instrument(0, 7), 1);
    }

    private static void announce() {
        VernierSchool x = new VernierSchool();
        x.addInstrument(10, 2, 50, false);
        x.addInstrument(10, 2, 50, false);
        x.addPupil(0, 0);
        x.addPupil(0, 0);
        x.addPupil(0, 0);
        Check.due("announce: no instrument", x.announce(2), VernierSchool.UNKNOWN);
        Check.due("announce: no instrument -1", x.announce(-1), VernierSchool.UNKNOWN);
        Check.due("announce: no trap", x.announce(0), VernierSchool.NOT_POSSIBLE);
        x.setTrap(0, 2);
        x.setTrap(1, 2);
        x.teach(1, 2);
        x.teach(2, 3);
        Check.due("announce: two did not know", x.announce(0), 2);
        Check.due("announce: pupil 0", x.pupil(0, 2), 2);
        Check.due("announce: pupil 1", x.pupil(1, 2), 2);
        Check.due("announce: pupil 2", x.pupil(2, 2), 6);
        Check.due("announce: already", x.announce(0), VernierSchool.NONE);
        Check.due("announce: the other is not", x.instrument(1, 7), 0);
        Check.due("announce: all know it", x.announce(1), 0);
        Check.due("announce: the other is", x.instrument(1, 7), 1);
        x.undo();
        Check.due("announce: undone", x.instrument(1, 7), 0);
        x.undo();
        Check.due("announce: pupils undone", x.pupil(0, 2), 0);
        Check.due("announce: known stays", x.pupil(2, 2), 4);
    }

    private static void announceToNoneAndToLatePupils() {
        VernierSchool x = new VernierSchool();
        x.addInstrument(10, 2, 50, false);
        x.setTrap(0, 1);
        Check.due("announce: no pupils", x.announce(0), 0);
        Check.due("announce: an act all the same", x.count(7), 3);
        x.addPupil(0, 0);
        Check.due("announce: a late pupil does not know", x.pupil(0, 2), 0);
        Check.due("announce: already, though unknown", x.announce(0), VernierSchool.NONE);
        Check.due("announce: still unknown", x.pupil(0, 2), 0);
        Check.due("announce: so the trap works", x.answer(0, 0, 44), 56);
    }

    private static void instrument() {
        VernierSchool x = new VernierSchool();
        x.addInstrument(7, 3, 11, true);
        x.addInstrument(7, 3, 11, false);
        x.addPupil(0, 0);
        x.adjust(0, -4, 6);
        x.setTrap(0, 2);
        x.announce(0);
        x.write(0, 0, 30);
        x.write(0, 1, 30);
        x.write(0, 0, 231);
        int[] due = {7, 3, 11, 1, -4, 6, 2, 1, 231, 24, 2};
        for (int what = 0; what <= 10; what++) {
            Check.due("instrument(0, " + what + ")", x.instrument(0, what), due[what]);
        }
        Check.due("instrument: direct", x.instrument(1, 3), 0);
        Check.due("instrument: a direct vernier", x.instrument(1, 9), 18);
        Check.due("instrument: its papers", x.instrument(1, 10), 1);
        Check.due("instrument: what -1", x.instrument(0, -1), VernierSchool.BAD_VALUE);
        Check.due("instrument: what 11", x.instrument(0, 11), VernierSchool.BAD_VALUE);
        Check.due("instrument: none, what 11", x.instrument(2, 11), VernierSchool.UNKNOWN);
        Check.due("instrument: -1", x.instrument(-1, 0), VernierSchool.UNKNOWN);
        Check.due("instrument: far", x.instrument(Integer.MAX_VALUE, 0), VernierSchool.UNKNOWN);
        x.undo();
        Check.due("instrument: papers undone", x.instrument(0, 10), 1);
    }
}

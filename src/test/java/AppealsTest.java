/** Promises 10, 11 and 25: appeal, decide, waiting. */
final class AppealsTest {
    public static void main(String[] args) {
        hopeOfTheTrap();
        hopeOfTheEye();
        hopeOfTheLine();
        appealWrongly();
        appealUntilFull();
        orderOfDecision();
        decideTheTrap();
        decideTheEye();
        decideTheLine();
        refusedAtMarkZero();
        Check.end();
    }

    private static void hopeOfTheTrap() {
        VernierSchool x = new VernierSchool();
        x.addInstrument(12, 1, 2, false);
        x.addPupil(0, 0);
        x.setTrap(0, 1);
        for (int i = 0; i < 4; i++) {
            Check.due("trap: mark", x.write(0, 0, 4), 6);
        }
        Check.due("trap: known", x.appeal(0, 1), 4);
        x.setTrap(0, 0);
        Check.due("trap: none then", x.appeal(1, 1), 4);
        x.setTrap(0, 3);
        Check.due("trap: another then", x.appeal(2, 1), 4);
        x.setTrap(0, 1);
        x.train(0, 0, 4);
        x.teach(0, 3);
        x.teach(0, 1);
        Check.due("trap: known already", x.appeal(3, 1), 4);
        Check.due("trap: the mark stays", x.paper(0, 4), 6);
        Check.due("trap: the pupil is not taught", x.count(7), 4);
        x.write(0, 0, 8);
        // k is 8, above 6: 12 too much by the edge, though the trap is known.
        Check.due("trap: other weaknesses stay", x.appeal(4, 1), 0);
    }

    private static void hopeOfTheEye() {
        VernierSchool x = new VernierSchool();
        x.addInstrument(10, 2, 50, false);
        x.addPupil(6, 0);
        x.adjust(0, 0, 10);
        Check.due("eye: mark", x.write(0, 0, 40), 7);
        Check.due("eye: hope", x.appeal(0, 2), 3);
        x.adjust(0, 0, 20);
        Check.due("eye: mark by a wide gap", x.write(0, 0, 40), 4);
        Check.due("eye: hope by a wide gap", x.appeal(1, 2), 6);
        x.adjust(0, 20, 10);
        // p is 40 + 20 + 6.
        Check.due("eye: mark with the zero error", x.write(0, 0, 40), 7);
        x.train(0, 6, 8);
        // The eye 0, but the zero error of 20 stays in.
        Check.due("eye: negative hope", x.appeal(2, 2), -7);
        Check.due("eye: it is an act", x.count(7), 4);
        Check.due("eye: the eye stays", x.pupil(0, 0), 6);
    }

    private static void hopeOfTheLine() {
        VernierSchool x = new VernierSchool();
        x.addInstrument(10, 4, 50, false);
        x.addPupil(0, 3);
        // 55 is nearest to k = 4, the hasty 3, the even 2: 7 off.
        Check.due("line: mark", x.write(0, 0, 55), 9);
        Check.due("line: without both", x.appeal(0, 3), 1);
        x.train(0, 0, 15);
        x.adjust(0, 12, 0);
        // 67 reads k = 7, hasty 6, even 6, which is the edge: 104; k = 7 is it too.
        Check.due("line: mark with all habits", x.write(0, 0, 55), 0);
        Check.due("line: other habits stay", x.appeal(1, 3), 0);
        x.adjust(0, 0, 0);
        Check.due("line: mark of 63", x.write(0, 0, 63), 9);
        // k is 5.75: 6 without the habits, and that is the edge.
        Check.due("line: the edge without them", x.appeal(2, 3), -9);
    }

    private static void appealWrongly() {
        VernierSchool x = new VernierSchool();
        x.addInstrument(10, 2, 50, false);
        x.addPupil(0, 0);
        Check.due("appeal: no paper", x.appeal(0, 1), VernierSchool.UNKNOWN);
        x.write(0, 0, 40);
        x.write(0, 0, 40);
        Check.due("appeal: paper -1, cause 0", x.appeal(-1, 0), VernierSchool.UNKNOWN);
        Check.due("appeal: paper 2", x.appeal(2, 1), VernierSchool.UNKNOWN);
        Check.due("appeal: cause 0", x.appeal(0, 0), VernierSchool.BAD_VALUE);
        Check.due("appeal: cause 4", x.appeal(0, 4), VernierSchool.BAD_VALUE);
        Check.due("appeal: nothing waits", x.count(3), 0);
        Check.due("appeal: no hope", x.appeal(0, 1), 0);
        Check.due("appeal: twice", x.appeal(0, 2), VernierSchool.NOT_POSSIBLE);
        Check.due("appeal: twice, bad cause", x.appeal(0, 4), VernierSchool.BAD_VALUE);
        Check.due("appeal: the cause stays", x.paper(0, 6), 1);
        Check.due("appeal: refused", x.decide(), 0);
        Check.due("appeal: after it was refused", x.appeal(0, 1), VernierSchool.NOT_POSSIBLE);
        x.undo();
        x.undo();
        Check.due("appeal: undone", x.appeal(0, 2), 0);
        x.train(0, 50, 0);
        x.adjust(0, 0, 10);
        x.write(0, 0, 40);
        Check.due("appeal: hope of 10", x.appeal(2, 2), 10);
        Check.due("appeal: granted", x.decide(), 5);
        Check.due("appeal: after it was granted", x.appeal(2, 2), VernierSchool.NOT_POSSIBLE);
    }

    private static void appealUntilFull() {
        VernierSchool x = new VernierSchool();
        x.addInstrument(10, 2, 50, false);
        x.addPupil(0, 0);
        for (int i = 0; i < 22; i++) {
            x.write(0, 0, 40);
        }
        for (int i = 0; i < 20; i++) {
            Check.due("full: appeal", x.appeal(i, 1 + i % 3), 0);
        }
        Check.due("full: twenty wait", x.count(3), 20);
        Check.due("full: one more", x.appeal(20, 1), VernierSchool.FULL);
        Check.due("full: not possible ahead of full", x.appeal(3, 1), VernierSchool.NOT_POSSIBLE);
        Check.due("full: bad value ahead of full", x.appeal(20, 0), VernierSchool.BAD_VALUE);
        Check.due("full: the last one waits", x.waiting(19), 19);
        Check.due("full: no other", x.waiting(20), VernierSchool.NONE);
        Check.due("full: the first one", x.decide(), 0);
        Check.due("full: room again", x.appeal(20, 1), 0);
        Check.due("full: and full again", x.appeal(21, 1), VernierSchool.FULL);
    }

    private static void orderOfDecision() {
        VernierSchool x = new VernierSchool();
        x.addInstrument(12, 1, 2, false);
        x.addPupil(0, 0);
        x.setTrap(0, 1);
        int[] settings = {4, 5, 3, 5, 4, 6, 3};
        for (int setting : settings) {
            Check.due("order: mark", x.write(0, 0, setting), 2 * setting - 2);
        }
        int[] hopes = {4, 2, 6, 2, 4, 0, 6};
        for (int paper = 6; paper >= 0; paper--) {
            Check.due("order: hope", x.appeal(paper, 1), hopes[paper]);
        }
        x.addPupil(4, 0);
        x.teach(1, 1);
        x.adjust(0, 0, 5);
        Check.due("order: mark by the eye", x.write(1, 0, 4), 8);
        Check.due("order: hope by the eye", x.appeal(7, 2), 2);
        // The same hope and a lower mark, since the zero error of 3 stays in.
        x.addPupil(4, 8);
        x.teach(2, 1);
        x.adjust(0, 3, 5);
        Check.due("order: lower mark", x.write(2, 0, 4), 5);
        Check.due("order: hope of the lower mark", x.appeal(8, 2), 2);
        x.addPupil(2, 8);
        x.adjust(0, 12, 5);
        Check.due("order: no mark", x.write(3, 0, 2), 0);
        Check.due("order: no hope", x.appeal(9, 2), 0);
        int[] order = {2, 6, 0, 4, 8, 1, 3, 7, 9, 5};
        for (int place = 0; place < order.length; place++) {
            Check.due("order: waiting(" + place + ")", x.waiting(place), order[place]);
        }
        Check.due("order: waiting(10)", x.waiting(10), VernierSchool.NONE);
        Check.due("order: waiting(-1)", x.waiting(-1), VernierSchool.BAD_VALUE);
        Check.due("order: waiting least", x.waiting(Integer.MIN_VALUE), VernierSchool.BAD_VALUE);
        Check.due("order: waiting most", x.waiting(Integer.MAX_VALUE), VernierSchool.NONE);
        int[] decided = {5, 13, 1, 9, 17, 3, 7, 15, 18, 10};
        for (int due : decided) {
            Check.due("order: decide", x.decide(), due);
        }
        Check.due("order: no more", x.decide(), VernierSchool.NONE);
        Check.due("order: no more wait", x.waiting(0), VernierSchool.NONE);
    }

    /** Marks of 6, with a hope of 4 by the trap 1, that wait. */
    private static VernierSchool waitingForTheTrap(int papers) {
        VernierSchool x = new VernierSchool();
        x.addInstrument(12, 1, 2, false);
        x.addPupil(0, 0);
        x.setTrap(0, 1);
        for (int paper = 0; paper < papers; paper++) {
            x.write(0, 0, 4);
            x.appeal(paper, 1);
        }
        return x;
    }

    private static void decideTheTrap() {
        VernierSchool x = waitingForTheTrap(5);
        Check.due("decide trap: granted", x.decide(), 1);
        Check.due("decide trap: mark", x.paper(0, 4), 10);
        x.setTrap(0, 3);
        Check.due("decide trap: another trap", x.decide(), 3);
        x.setTrap(0, 0);
        Check.due("decide trap: no trap", x.decide(), 4);
        Check.due("decide trap: mark less", x.paper(2, 4), 5);
        x.setTrap(0, 2);
        x.announce(0);
        Check.due("decide trap: announced", x.decide(), 6);
        x.setTrap(0, 1);
        x.teach(0, 1);
        Check.due("decide trap: known, not announced", x.decide(), 9);
        Check.due("decide trap: granted ones", x.pupil(0, 6), 3);
        Check.due("decide trap: refused ones", x.pupil(0, 7), 2);
        Check.due("decide trap: sum", x.pupil(0, 4), 40);
        Check.due("decide trap: no more", x.decide(), VernierSchool.NONE);
        x.undo();
        Check.due("decide trap: undone", x.pupil(0, 6), 2);
        Check.due("decide trap: sum undone", x.pupil(0, 4), 36);
        Check.due("decide trap: waits again", x.paper(4, 5), 1);
    }

    private static void decideTheEye() {
        VernierSchool x = new VernierSchool();
        x.addInstrument(10, 2, 50, false);
        x.addPupil(20, 0);
        x.adjust(0, 0, 5);
        for (int paper = 0; paper < 4; paper++) {
            Check.due("decide eye: mark", x.write(0, 0, 40), 5);
            Check.due("decide eye: hope", x.appeal(paper, 2), 5);
        }
        Check.due("decide eye: gap 5", x.decide(), 1);
        Check.due("decide eye: mark 10", x.paper(0, 4), 10);
        x.adjust(0, 0, 4);
        Check.due("decide eye: gap 4", x.decide(), 2);
        Check.due("decide eye: mark 4", x.paper(1, 4), 4);
        x.adjust(0, 0, 20);
        x.setTrap(0, 1);
        x.announce(0);
        Check.due("decide eye: gap 20", x.decide(), 5);
        x.adjust(0, 0, 0);
        Check.due("decide eye: gap 0", x.decide(), 6);
        x.adjust(0, 0, 5);
        x.train(0, 0, 0);
        x.write(0, 0, 40);
        Check.due("decide eye: no hope", x.appeal(4, 2), 0);
        Check.due("decide eye: gap 5 without hope", x.decide(), 8);
    }

    private static void decideTheLine() {
        VernierSchool x = new VernierSchool();
        x.addInstrument(10, 10, 50, false);
        x.addInstrument(10, 11, 50, false);
        x.addPupil(0, 2);
        Check.due("decide line: mark of u 10", x.write(0, 0, 30), 9);
        Check.due("decide line: mark of u 11", x.write(0, 1, 33), 9);
        Check.due("decide line: hope of u 10", x.appeal(0, 3), 1);
        Check.due("decide line: hope of u 11", x.appeal(1, 3), 1);
        Check.due("decide line: u 10", x.decide(), 1);
        Check.due("decide line: u 11", x.decide(), 2);
        Check.due("decide line: mark of the first", x.paper(0, 4), 10);
        Check.due("decide line: mark of the second", x.paper(1, 4), 8);
        Check.due("decide line: state of the first", x.paper(0, 5), 2);
        Check.due("decide line: state of the second", x.paper(1, 5), 3);
    }

    private static void refusedAtMarkZero() {
        VernierSchool x = new VernierSchool();
        x.addInstrument(10, 1, 50, false);
        x.addPupil(0, 0);
        x.setTrap(0, 3);
        Check.due("mark 0", x.write(0, 0, 40), 0);
        Check.due("mark 0: no hope", x.appeal(0, 2), 0);
        Check.due("mark 0: refused", x.decide(), 0);
        Check.due("mark 0: stays", x.paper(0, 4), 0);
        Check.due("mark 0: sum stays", x.pupil(0, 4), 0);
        x.setTrap(0, 1);
        // 0 is read as 10, 1 as 9.
        Check.due("mark 2", x.write(0, 0, 1), 2);
        Check.due("mark 2: no hope", x.appeal(1, 2), 0);
        x.decide();
        Check.due("mark 1: left", x.paper(1, 4), 1);
        x.setTrap(0, 0);
        x.train(0, 0, 8);
        x.adjust(0, 9, 0);
        Check.due("mark 1", x.write(0, 0, 40), 1);
        x.appeal(2, 1);
        x.decide();
        Check.due("mark 0: left", x.paper(2, 4), 0);
        Check.due("mark 0: sum", x.pupil(0, 4), 1);
    }
}

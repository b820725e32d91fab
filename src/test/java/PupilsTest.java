/** Promises 6 to 8, 19 and 24: addPupil, teach, train, pupil, ranked. */
final class PupilsTest {
    public static void main(String[] args) {
        addPupil();
        addPupilWrongly();
        teach();
        train();
        pupil();
        lowestMark();
        ranksByMean();
        ranksOfTheSameMean();
        rankedWrongly();
        Check.end();
    }

    private static void addPupil() {
        VernierSchool x = new VernierSchool();
        Check.due("addPupil: least", x.addPupil(-50, 0), 0);
        Check.due("addPupil: greatest", x.addPupil(50, 15), 1);
        int[] least = {-50, 0, 0, 0, 0, 0, 0, 0, VernierSchool.NONE};
        int[] greatest = {50, 15, 0, 0, 0, 1, 0, 0, VernierSchool.NONE};
        for (int what = 0; what <= 8; what++) {
            Check.due("addPupil: first, " + what, x.pupil(0, what), least[what]);
            Check.due("addPupil: second, " + what, x.pupil(1, what), greatest[what]);
        }
        for (int i = 2; i < 12; i++) {
            Check.due("addPupil: number", x.addPupil(i, i), i);
        }
        Check.due("addPupil: full", x.addPupil(0, 0), VernierSchool.FULL);
        Check.due("addPupil: bad value ahead of full", x.addPupil(51, 0), VernierSchool.BAD_VALUE);
        Check.due("addPupil: twelve", x.count(1), 12);
        x.teach(11, 3);
        x.undo();
        x.undo();
        Check.due("addPupil: eleven", x.count(1), 11);
        Check.due("addPupil: the number again", x.addPupil(1, 2), 11);
        Check.due("addPupil: knows nothing", x.pupil(11, 2), 0);
    }

    private static void addPupilWrongly() {
        VernierSchool x = new VernierSchool();
        int bad = VernierSchool.BAD_VALUE;
        Check.due("addPupil: eye -51", x.addPupil(-51, 0), bad);
        Check.due("addPupil: eye 51", x.addPupil(51, 0), bad);
        Check.due("addPupil: habits -1", x.addPupil(0, -1), bad);
        Check.due("addPupil: habits 16", x.addPupil(0, 16), bad);
        Check.due("addPupil: far", x.addPupil(Integer.MIN_VALUE, Integer.MAX_VALUE), bad);
        Check.due("addPupil: none", x.count(1), 0);
        Check.due("addPupil: no state", x.count(7), 0);
    }

    private static void teach() {
        VernierSchool x = new VernierSchool();
        x.addPupil(0, 0);
        x.addPupil(0, 0);
        Check.due("teach: 3", x.teach(0, 3), 4);
        Check.due("teach: 1", x.teach(0, 1), 5);
        Check.due("teach: 1 again", x.teach(0, 1), VernierSchool.NONE);
        Check.due("teach: known", x.pupil(0, 2), 5);
        Check.due("teach: the other knows nothing", x.pupil(1, 2), 0);
        Check.due("teach: states", x.count(7), 4);
        Check.due("teach: 2", x.teach(0, 2), 7);
        x.undo();
        Check.due("teach: undone", x.pupil(0, 2), 5);
        Check.due("teach: no pupil", x.teach(2, 1), VernierSchool.UNKNOWN);
        Check.due("teach: no pupil, bad trap", x.teach(-1, 0), VernierSchool.UNKNOWN);
        Check.due("teach: trap 0", x.teach(0, 0), VernierSchool.BAD_VALUE);
        Check.due("teach: trap 4", x.teach(0, 4), VernierSchool.BAD_VALUE);
        Check.due("teach: trap 33", x.teach(0, 33), VernierSchool.BAD_VALUE);
        Check.due("teach: nothing changed", x.pupil(0, 2), 5);
    }

    private static void train() {
        VernierSchool x = new VernierSchool();
        x.addPupil(10, 5);
        x.addPupil(10, 5);
        Check.due("train: both so already", x.train(0, 10, 5), VernierSchool.NONE);
        Check.due("train: no state", x.count(7), 2);
        Check.due("train: the eye alone", x.train(0, -50, 5), 0);
        Check.due("train: is an act", x.count(7), 3);
        Check.due("train: all habits", x.train(0, -50, 10), 4);
        Check.due("train: one habit and the eye", x.train(0, 50, 2), 1);
        Check.due("train: eye", x.pupil(0, 0), 50);
        Check.due("train: habits", x.pupil(0, 1), 2);
        Check.due("train: the other's eye", x.pupil(1, 0), 10);
        Check.due("train: no pupil", x.train(2, 0, 0), VernierSchool.UNKNOWN);
        Check.due("train: no pupil, bad eye", x.train(-1, 99, 0), VernierSchool.UNKNOWN);
        Check.due("train: eye 51", x.train(0, 51, 2), VernierSchool.BAD_VALUE);
        Check.due("train: eye -51", x.train(0, -51, 2), VernierSchool.BAD_VALUE);
        Check.due("train: habits 16", x.train(0, 50, 16), VernierSchool.BAD_VALUE);
        Check.due("train: habits -1", x.train(0, 50, -1), VernierSchool.BAD_VALUE);
        Check.due("train: nothing changed", x.pupil(0, 1), 2);
        Check.due("train: 15", x.train(0, 0, 15), 3);
        Check.due("train: 0", x.train(0, 0, 0), 4);
        x.undo();
        Check.due("train: undone", x.pupil(0, 1), 15);
    }

    private static void pupil() {
        VernierSchool x = new VernierSchool();
        x.addInstrument(10, 2, 50, false);
        x.adjust(0, 3, 0);
        x.addPupil(-7, 8);
        x.addPupil(5, 0);
        x.teach(0, 2);
        // Not corrected: 3 too much (mark 9); the reading of 47 is 50 - 2 / 2 rounded.
        Check.due("pupil: mark at 40", x.write(0, 0, 40), 9);
        Check.due("pupil: mark at 47", x.write(0, 0, 47), 9);
        Check.due("pupil: the other's mark", x.write(1, 0, 40), 10);
        x.adjust(0, 12, 5);
        // 12 too much, 3 too little by the eye: p is 49, the reading 48.
        Check.due("pupil: mark with a great error", x.write(0, 0, 40), 6);
        int[] due = {-7, 8, 2, 3, 24, 1, 0, 0, 6};
        for (int what = 0; what <= 8; what++) {
            Check.due("pupil(0, " + what + ")", x.pupil(0, what), due[what]);
        }
        // With the eye 0: p is 52, the mark 4, so the hope is -2, and it is refused.
        Check.due("pupil: appeal without hope", x.appeal(3, 2), -2);
        x.adjust(0, 0, 5);
        Check.due("pupil: appeal with hope", x.appeal(0, 2), 1);
        Check.due("pupil: granted", x.decide(), 1);
        Check.due("pupil: refused", x.decide(), 6);
        int[] then = {-7, 8, 2, 3, 24, 1, 1, 1, 5};
        for (int what = 0; what <= 8; what++) {
            Check.due("then: pupil(0, " + what + ")", x.pupil(0, what), then[what]);
        }
        Check.due("pupil: the other's granted", x.pupil(1, 6), 0);
        Check.due("pupil: the other's refused", x.pupil(1, 7), 0);
        Check.due("pupil: the other's lowest", x.pupil(1, 8), 10);
        Check.due("pupil: what -1", x.pupil(0, -1), VernierSchool.BAD_VALUE);
        Check.due("pupil: what 9", x.pupil(0, 9), VernierSchool.BAD_VALUE);
        Check.due("pupil: no pupil, what 9", x.pupil(2, 9), VernierSchool.UNKNOWN);
        Check.due("pupil: no pupil -1", x.pupil(-1, 0), VernierSchool.UNKNOWN);
    }

    private static void ranks(String what, VernierSchool x, int... order) {
        for (int place = 0; place < order.length; place++) {
            Check.due(what + ": ranked(" + place + ")", x.ranked(place), order[place]);
            Check.due(what + ": rank of " + order[place], x.pupil(order[place], 5), place);
        }
        Check.due(what + ": no more", x.ranked(order.length), VernierSchool.NONE);
    }

    private static void ranksByMean() {
        // The means: 6, 0, none, 20 / 3, 8.
        ranks("means", Schools.withMarks(new int[][] {{6}, {0}, {}, {10, 10, 0}, {8, 8}}),
                4, 3, 0, 1, 2);
        ranks("one paper each", Schools.withMarks(new int[][] {{0}, {2}, {4, 4}}), 2, 1, 0);
        ranks("one paper against two", Schools.withMarks(new int[][] {{10}, {4, 4}}), 0, 1);
        // 22 / 3 against 7 and a bit less: whole means would be the same.
        ranks("exact means", Schools.withMarks(new int[][] {{6, 8}, {6, 8, 8}, {10, 4, 8, 6, 8}}),
                1, 2, 0);
    }

    private static void lowestMark() {
        VernierSchool x = Schools.withMarks(new int[][] {{2, 8}, {8, 0, 4}, {10, 6}});
        Check.due("lowest: the first paper", x.pupil(0, 8), 2);
        Check.due("lowest: the middle one", x.pupil(1, 8), 0);
        Check.due("lowest: the last one", x.pupil(2, 8), 6);
    }

    private static void ranksOfTheSameMean() {
        ranks("more papers", Schools.withMarks(new int[][] {{}, {4}, {8, 0}, {4, 4}, {}}),
                2, 3, 1, 0, 4);
        ranks("no papers at all", Schools.withMarks(new int[][] {{}, {}, {}}), 0, 1, 2);
        ranks("mean 0", Schools.withMarks(new int[][] {{}, {0}, {0, 0}}), 2, 1, 0);
    }

    private static void rankedWrongly() {
        VernierSchool x = Schools.withMarks(new int[][] {{2}, {4}});
        Check.due("ranked(-1)", x.ranked(-1), VernierSchool.BAD_VALUE);
        Check.due("ranked least int", x.ranked(Integer.MIN_VALUE), VernierSchool.BAD_VALUE);
        Check.due("ranked greatest int", x.ranked(Integer.MAX_VALUE), VernierSchool.NONE);
        x.undo();
        x.undo();
        x.undo();
        Check.due("ranked after undo", x.ranked(1), VernierSchool.NONE);
    }
}

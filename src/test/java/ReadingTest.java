/** Promises 22 and 9, the readings: answer and the mark of write, by the eye, habits and traps. */
final class ReadingTest {
    public static void main(String[] args) {
        exactReading();
        parallax();
        belowTheScale();
        hastyHabit();
        evenHabit();
        edgeHabit();
        uncorrectedHabit();
        trapReversed();
        trapFives();
        trapLineTooMany();
        changesInTheirOrder();
        wrongArguments();
        marks();
        Check.end();
    }

    /** A school with one instrument, and the pupil 0. */
    private static VernierSchool school(int n, int u, int lines, int eye, int habits) {
        VernierSchool x = new VernierSchool();
        x.addInstrument(n, u, lines, false);
        x.addPupil(eye, habits);
        return x;
    }

    private static void exactReading() {
        VernierSchool x = school(10, 2, 50, 0, 0);
        x.addInstrument(10, 2, 50, true);
        for (int i = 0; i < 2; i++) {
            Check.due("exact: 0", x.answer(0, i, 0), 0);
            Check.due("exact: 46", x.answer(0, i, 46), 46);
            Check.due("exact: 47 between two lines", x.answer(0, i, 47), 46);
            Check.due("exact: 1000", x.answer(0, i, 1000), 1000);
            x.adjust(i, -7, 0);
            Check.due("exact: z is -7", x.answer(0, i, 46), 45);
            Check.due("exact: at 0", x.answer(0, i, 0), -1);
            x.adjust(i, 20, 0);
            Check.due("exact: z is 20", x.answer(0, i, 1000), 1000);
        }
        Check.due("exact: no paper", x.count(2), 0);
    }

    private static void parallax() {
        VernierSchool x = school(10, 1, 50, 9, 0);
        x.adjust(0, 0, 1);
        Check.due("eye 9, gap 1", x.answer(0, 0, 100), 100);
        x.train(0, -9, 0);
        Check.due("eye -9, gap 1: rounded towards 0", x.answer(0, 0, 100), 100);
        x.train(0, -10, 0);
        Check.due("eye -10, gap 1", x.answer(0, 0, 100), 99);
        x.adjust(0, 0, 20);
        Check.due("eye -10, gap 20", x.answer(0, 0, 100), 80);
        x.train(0, -3, 0);
        x.adjust(0, 0, 13);
        Check.due("eye -3, gap 13", x.answer(0, 0, 100), 97);
        x.train(0, 50, 0);
        x.adjust(0, 2, 20);
        Check.due("eye 50, gap 20", x.answer(0, 0, 100), 200);
        Check.due("eye 50, above the last line", x.answer(0, 0, 500), 600);
    }

    private static void belowTheScale() {
        VernierSchool x = school(10, 2, 50, -50, 0);
        x.adjust(0, 0, 20);
        Check.due("below: 47 - 100", x.answer(0, 0, 47), -54);
        x.train(0, -50, 4);
        // p is -53: m is -3, r is 7, k is 3, not above 5; at p = -46 k is 7.
        Check.due("below: not at the edge", x.answer(0, 0, 47), -54);
        Check.due("below: at the edge", x.answer(0, 0, 54), -26);
        x.setTrap(0, 2);
        Check.due("below: trap 2 wants m above 0", x.answer(0, 0, 47), -54);
        x.setTrap(0, 3);
        Check.due("below: trap 3", x.answer(0, 0, 47), -34);
    }

    private static void hastyHabit() {
        VernierSchool x = school(10, 4, 50, 0, 1);
        Check.due("hasty: on the line", x.answer(0, 0, 48), 48);
        Check.due("hasty: behind the line", x.answer(0, 0, 49), 48);
        Check.due("hasty: between two", x.answer(0, 0, 50), 48);
        Check.due("hasty: ahead of the line", x.answer(0, 0, 51), 48);
        Check.due("hasty: odd numbers stay", x.answer(0, 0, 52), 52);
        Check.due("hasty: the edge is no edge", x.answer(0, 0, 67), 64);
        x.train(0, 0, 0);
        Check.due("not hasty", x.answer(0, 0, 51), 52);
    }

    private static void evenHabit() {
        VernierSchool x = school(10, 4, 50, 0, 2);
        Check.due("even: 3", x.answer(0, 0, 52), 48);
        Check.due("even: 2", x.answer(0, 0, 48), 48);
        Check.due("even: 1", x.answer(0, 0, 44), 40);
        Check.due("even: 10", x.answer(0, 0, 79), 80);
        x.train(0, 0, 3);
        // k is 4, more than r tells: 3 for the hasty one, so 2.
        Check.due("even and hasty", x.answer(0, 0, 55), 48);
    }

    private static void edgeHabit() {
        VernierSchool x = school(10, 4, 50, 0, 4);
        Check.due("edge: 5 of 10", x.answer(0, 0, 60), 60);
        Check.due("edge: 6 of 10", x.answer(0, 0, 64), 104);
        x.addInstrument(5, 4, 50, false);
        Check.due("edge: 2 of 5", x.answer(0, 1, 28), 28);
        Check.due("edge: 3 of 5", x.answer(0, 1, 32), 52);
        x.train(0, 0, 6);
        // 3 becomes 2, which is no more than 2.
        Check.due("edge: 3 of 5, even", x.answer(0, 1, 32), 28);
    }

    private static void uncorrectedHabit() {
        VernierSchool x = school(10, 2, 50, 0, 8);
        x.adjust(0, 6, 0);
        Check.due("uncorrected: 6", x.answer(0, 0, 46), 52);
        x.adjust(0, -6, 0);
        Check.due("uncorrected: -6", x.answer(0, 0, 46), 40);
    }

    private static void trapReversed() {
        VernierSchool x = school(10, 2, 50, 0, 0);
        x.addInstrument(10, 2, 50, true);
        x.setTrap(0, 1);
        x.setTrap(1, 1);
        Check.due("trap 1: 46", x.answer(0, 0, 46), 54);
        Check.due("trap 1: retrograde", x.answer(0, 1, 46), 54);
        Check.due("trap 1: 40", x.answer(0, 0, 40), 60);
        x.train(0, 0, 4);
        Check.due("trap 1: the edge is ahead", x.answer(0, 0, 46), 54);
        Check.due("trap 1: the edge was there", x.answer(0, 0, 54), 66);
        x.teach(0, 3);
        x.teach(0, 2);
        Check.due("trap 1: others are known", x.answer(0, 0, 46), 54);
        x.teach(0, 1);
        Check.due("trap 1: known", x.answer(0, 0, 46), 46);
    }

    private static void trapFives() {
        VernierSchool x = school(10, 2, 50, 0, 0);
        x.setTrap(0, 2);
        Check.due("trap 2: m is 0", x.answer(0, 0, 6), 6);
        Check.due("trap 2: m is 4", x.answer(0, 0, 86), 86);
        Check.due("trap 2: m is 5", x.answer(0, 0, 106), 126);
        Check.due("trap 2: m is 14", x.answer(0, 0, 286), 326);
        x.train(0, 0, 4);
        Check.due("trap 2: the edge makes 5 of 4", x.answer(0, 0, 94), 134);
        x.teach(0, 2);
        Check.due("trap 2: known", x.answer(0, 0, 86), 86);
    }

    private static void trapLineTooMany() {
        VernierSchool x = school(10, 2, 50, 0, 0);
        x.setTrap(0, 3);
        Check.due("trap 3: 46", x.answer(0, 0, 46), 66);
        Check.due("trap 3: 0", x.answer(0, 0, 0), 20);
        x.teach(0, 3);
        Check.due("trap 3: known", x.answer(0, 0, 46), 46);
    }

    private static void changesInTheirOrder() {
        VernierSchool x = school(9, 4, 60, 7, 15);
        x.adjust(0, 5, 10);
        x.setTrap(0, 1);
        // p is 239 + 5 + 7 = 251: m is 6, r is 35, k is 9; hasty 8; even 8; the edge
        // makes m 7; reversed k is 1: 7 * 36 + 4, and z stays in.
        Check.due("order: all habits, trap 1", x.answer(0, 0, 239), 256);
        x.setTrap(0, 2);
        Check.due("order: all habits, trap 2", x.answer(0, 0, 239), 8 * 36 + 32);
        x.setTrap(0, 3);
        Check.due("order: all habits, trap 3", x.answer(0, 0, 239), 8 * 36 + 32);
        x.setTrap(0, 0);
        Check.due("order: all habits, no trap", x.answer(0, 0, 239), 7 * 36 + 32);
        x.train(0, 7, 7);
        Check.due("order: corrected", x.answer(0, 0, 239), 7 * 36 + 32 - 5);
    }

    private static void wrongArguments() {
        VernierSchool x = school(10, 2, 50, 0, 0);
        int unknown = VernierSchool.UNKNOWN;
        Check.due("answer: no pupil", x.answer(1, 0, 0), unknown);
        Check.due("answer: pupil -1", x.answer(-1, 0, 0), unknown);
        Check.due("answer: no instrument", x.answer(0, 1, 0), unknown);
        Check.due("answer: instrument -1, bad setting", x.answer(0, -1, -1), unknown);
        Check.due("answer: setting -1", x.answer(0, 0, -1), VernierSchool.BAD_VALUE);
        Check.due("answer: setting 1001", x.answer(0, 0, 1001), VernierSchool.BAD_VALUE);
        Check.due("write: no pupil", x.write(1, 0, 0), unknown);
        Check.due("write: pupil -1", x.write(-1, 0, 0), unknown);
        Check.due("write: no instrument", x.write(0, 1, 0), unknown);
        Check.due("write: instrument -1, bad setting", x.write(0, -1, -1), unknown);
        Check.due("write: setting -1", x.write(0, 0, -1), VernierSchool.BAD_VALUE);
        Check.due("write: setting 1001", x.write(0, 0, 1001), VernierSchool.BAD_VALUE);
        Check.due("write: no paper", x.count(2), 0);
        Check.due("write: no state", x.count(7), 2);
        Check.due("write: setting 0", x.write(0, 0, 0), 10);
        Check.due("write: setting 1000", x.write(0, 0, 1000), 10);
    }

    private static void marks() {
        VernierSchool x = school(10, 4, 50, 0, 8);
        int[][] dueAtZeroError = {{0, 10}, {4, 9}, {-4, 9}, {8, 8}, {36, 1}, {-36, 1}, {40, 0}};
        for (int[] due : dueAtZeroError) {
            x.adjust(0, due[0], 0);
            Check.due("mark with " + due[0] + " too much", x.write(0, 0, 400), due[1]);
        }
        x.adjust(0, 5, 0);
        // p is 407, between two lines nearer to 408; 402 + 5 is 407 too.
        Check.due("mark: 6 off is 1 whole", x.write(0, 0, 402), 9);
        x.adjust(0, -2, 0);
        Check.due("mark: 3 off is 0 whole", x.write(0, 0, 405), 10);
        x.setTrap(0, 3);
        Check.due("mark: far off", x.write(0, 0, 400), 1);
        x.train(0, 50, 8);
        x.adjust(0, 0, 20);
        Check.due("mark: not below 0", x.write(0, 0, 400), 0);
    }
}

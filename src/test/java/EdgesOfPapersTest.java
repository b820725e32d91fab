/**
 * The edges that the document names for papers and appeals (promises 9 to 11, 20, 23 and 25): a
 * test for each sentence of it that names one.
 */
final class EdgesOfPapersTest {
    private static final int BAD_VALUE = VernierSchool.BAD_VALUE;
    private static final int FULL = VernierSchool.FULL;
    private static final int NONE = VernierSchool.NONE;
    private static final int NOT_POSSIBLE = VernierSchool.NOT_POSSIBLE;
    private static final int UNKNOWN = VernierSchool.UNKNOWN;

    public static void main(String[] args) {
        mostPapers();
        marksRoundedDownAtLeastZero();
        laterChanges();
        settingOfWrite();
        errorsOfWrite();
        appealedOnceEver();
        nothingIsDifferent();
        hopeAsThingsAreThen();
        everythingElseAsItIsThen();
        hopeNegativeOrZero();
        mostAppealsThatWait();
        greatestHopeNext();
        lowerMarkNext();
        lowerNumberNext();
        positiveHopeAlone();
        trapNotAnnounced();
        gapOfAtLeastFive();
        leastCountOfAtMostTen();
        markGreaterByTheHope();
        markLessIfAboveZero();
        causeOfAppeal();
        answersOfAppeal();
        answersOfDecide();
        whatOfPaper();
        errorsOfPaper();
        appealsPlayNoPart();
        whatOfWould();
        errorsOfWould();
        placeOfWaiting();
        answersOfWaiting();
        Check.end();
    }

    private static void mostPapers() {
        Check.sentence("There are at most 60 papers, numbered from 0 in the order in which they"
                + " were written.");
        VernierSchool x = Schools.plain();
        for (int paper = 0; paper < 60; paper++) {
            Check.due("write " + paper, x.write(0, 0, 60 - paper), 10);
            Check.due("papers then", x.count(2), paper + 1);
        }
        Check.due("write one more", x.write(0, 0, 0), FULL);
        Check.due("papers", x.count(2), 60);
        for (int paper = 0; paper < 60; paper++) {
            Check.due("setting of " + paper, x.paper(paper, 2), 60 - paper);
        }
        Check.due("none behind the last", x.paper(60, 0), UNKNOWN);
    }

    private static void marksRoundedDownAtLeastZero() {
        Check.sentence("a mark: 10 minus the quotient |answer - setting| / u, which is rounded"
                + " down, at least 0.");
        // The pupil does not correct, so that the zero error is what is too much.
        VernierSchool x = Schools.pair(10, 4, 50, 0, 8);
        int[][] settingZeroMark = {{400, 0, 10}, {401, 3, 10}, {400, 4, 9}, {401, 39, 1},
            {400, 40, 0}, {399, -3, 10}, {400, -4, 9}, {399, -39, 1}, {400, -40, 0}};
        for (int[] due : settingZeroMark) {
            x.adjust(0, due[1], 0);
            Check.due(due[1] + " too much", x.write(0, 0, due[0]), due[2]);
        }
        x.setTrap(0, 3);
        x.adjust(0, 40, 0);
        Check.due("80 too much", x.write(0, 0, 400), 0);
        x.addInstrument(10, 1, 50, false);
        int[] zeros = {1, 9, 10, -1, -9, -10};
        int[] marks = {9, 1, 0, 9, 1, 0};
        for (int i = 0; i < zeros.length; i++) {
            x.adjust(1, zeros[i], 0);
            Check.due(zeros[i] + " too much of u 1", x.write(0, 1, 100), marks[i]);
        }
        x.addInstrument(50, 50, 200, true);
        x.adjust(2, 499, 0);
        Check.due("499 too much of u 50", x.write(0, 2, 1), 1);
        x.adjust(2, 500, 0);
        Check.due("500 too much of u 50", x.write(0, 2, 0), 0);
        x.setTrap(2, 2);
        x.adjust(2, 2500, 0);
        Check.due("the most of all too much", x.write(0, 2, 500000), 0);
        Check.due("its answer", x.paper(x.count(2) - 1, 3), 602500);
    }

    private static void laterChanges() {
        Check.sentence("Later changes of pupils and instruments do not change papers.");
        VernierSchool x = Schools.plain();
        x.write(0, 0, 46);
        int[] due = {0, 0, 46, 46, 10, 0, NONE, NONE};
        x.adjust(0, 20, 20);
        x.setTrap(0, 3);
        x.train(0, -50, 15);
        for (int what = 0; what <= 7; what++) {
            Check.due("paper(0, " + what + ")", x.paper(0, what), due[what]);
        }
        Check.due("the answer now", x.answer(0, 0, 46), -16);
        x.announce(0);
        Check.due("the sum of the marks", x.pupil(0, 4), 10);
    }

    private static void settingOfWrite() {
        Check.sentence("`setting`: a setting of it");
        VernierSchool x = Schools.plain();
        x.addInstrument(2, 1, 2, true);
        x.addInstrument(50, 50, 200, false);
        Check.bounds("setting of 0", 0, 1000, setting -> x.write(0, 0, setting));
        Check.bounds("setting of 1", 0, 4, setting -> x.write(0, 1, setting));
        Check.bounds("setting of 2", 0, 500000, setting -> x.write(0, 2, setting));
        Check.due("six were written", x.count(2), 6);
    }

    private static void errorsOfWrite() {
        Check.sentence("Returns the mark; UNKNOWN (pupil or instrument); BAD_VALUE; FULL.");
        VernierSchool x = Schools.plain();
        Check.numbers("write, pupil", 1, pupil -> x.write(pupil, 0, 0));
        Check.numbers("write, instrument", 1, instrument -> x.write(0, instrument, 0));
        for (int paper = 4; paper < 60; paper++) {
            Check.due("write " + paper, x.write(0, 0, 0), 10);
        }
        Check.due("full", x.write(0, 0, 0), FULL);
        Check.due("full, bad setting", x.write(0, 0, 1001), BAD_VALUE);
        Check.due("full, bad setting below", x.write(0, 0, -1), BAD_VALUE);
        Check.due("full, unknown pupil", x.write(1, 0, 0), UNKNOWN);
        Check.due("full, unknown instrument", x.write(0, 1, 0), UNKNOWN);
        Check.due("unknown pupil, bad setting", x.write(-1, 0, -1), UNKNOWN);
        Check.due("unknown instrument, bad setting", x.write(0, -1, -1), UNKNOWN);
        x.undo();
        Check.due("room again", x.write(0, 0, 0), 10);
        Check.due("and full again", x.write(0, 0, 0), FULL);
    }

    private static void appealedOnceEver() {
        Check.sentence("A paper can be appealed once ever, for a cause: 1 the trap, 2 the eye, 3"
                + " the line.");
        VernierSchool x = Schools.pair(10, 1, 50, 20, 0);
        x.adjust(0, 0, 5);
        Check.due("mark", x.write(0, 0, 40), 0);
        Check.due("the same again", x.write(0, 0, 40), 0);
        Check.due("appeal", x.appeal(0, 2), 10);
        Check.due("appeal of another", x.appeal(1, 3), 0);
        for (int cause = 1; cause <= 3; cause++) {
            Check.due("while it waits", x.appeal(0, cause), NOT_POSSIBLE);
        }
        Check.due("granted", x.decide(), 1);
        Check.due("refused", x.decide(), 2);
        for (int cause = 1; cause <= 3; cause++) {
            Check.due("when it was granted", x.appeal(0, cause), NOT_POSSIBLE);
            Check.due("when it was refused", x.appeal(1, cause), NOT_POSSIBLE);
        }
        x.undo();
        x.undo();
        x.undo();
        Check.due("when it was not appealed in this state", x.appeal(1, 1), 0);
    }

    private static void nothingIsDifferent() {
        Check.sentence("1 knew the trap of the instrument (if it has none, or the pupil knows it,"
                + " nothing is different)");
        VernierSchool x = Schools.pair(10, 1, 50, 20, 0);
        x.adjust(0, 0, 5);
        for (int paper = 0; paper < 4; paper++) {
            Check.due("mark", x.write(0, 0, 40), 0);
        }
        Check.due("it has none", x.appeal(0, 1), 0);
        x.setTrap(0, 3);
        x.teach(0, 3);
        Check.due("the pupil knows it", x.appeal(1, 1), 0);
        x.train(0, -9, 0);
        // Nothing is different from what the pupil would be given then: 4 too little.
        Check.due("the pupil knows it, another eye", x.appeal(2, 1), 6);
        x.setTrap(0, 0);
        Check.due("it has none, another eye", x.appeal(3, 1), 6);
    }

    private static void hopeAsThingsAreThen() {
        Check.sentence("The appeal has a hope: the mark that the paper would have, if the pupil,"
                + " as pupil and instrument are when the appeal is made,");
        VernierSchool x = Schools.pair(10, 1, 50, 0, 0);
        x.setTrap(0, 1);
        for (int paper = 0; paper < 3; paper++) {
            Check.due("42 is read as 48", x.write(0, 0, 42), 4);
        }
        Check.due("the trap of now", x.appeal(0, 1), 6);
        x.setTrap(0, 3);
        Check.due("another trap then", x.appeal(1, 1), 6);
        Check.due("the hope stays", x.paper(0, 7), 6);
        x.train(0, 10, 0);
        x.adjust(0, 0, 3);
        Check.due("another eye then", x.appeal(2, 1), 3);
        x.train(0, 0, 0);
        Check.due("which stays too", x.paper(2, 7), 3);
    }

    private static void everythingElseAsItIsThen() {
        Check.sentence("2 had the eye 0, or 3 read the line without the habits 0 and 1; everything"
                + " else as it is then;");
        // The eye, the habits, the trap, the setting, and the hopes for the causes 1 to 3; the
        // mark of each paper was 10, when all of these were 0.
        int[][] rows = {
            {0, 0, 0, 40, 0, 0, 0},
            {8, 0, 0, 40, -2, 0, -2},
            {0, 2, 0, 48, -1, -1, 0},
            {-2, 1, 0, 45, -1, 0, 0},
            {-2, 3, 0, 53, -2, 0, 0},
            {0, 12, 0, 64, -10, -10, -10},
            {8, 4, 0, 58, -10, 0, -10},
            {8, 4, 0, 59, -10, -10, -10},
            {0, 15, 0, 40, 0, 0, -1},
            {0, 0, 1, 48, 0, -4, -4},
            {8, 2, 1, 40, -1, -9, -6}};
        for (int[] row : rows) {
            VernierSchool x = Schools.pair(10, 4, 50, 0, 0);
            x.adjust(0, 4, 10);
            for (int paper = 0; paper < 3; paper++) {
                Check.due("mark", x.write(0, 0, row[3]), 10);
            }
            x.train(0, row[0], row[1]);
            x.setTrap(0, row[2]);
            for (int cause = 1; cause <= 3; cause++) {
                Check.due("hope for " + cause + " with the eye " + row[0] + ", habits " + row[1]
                        + ", trap " + row[2], x.appeal(cause - 1, cause), row[3 + cause]);
            }
        }
    }

    private static void hopeNegativeOrZero() {
        Check.sentence("minus the mark that the paper has (the hope can be negative or 0).");
        VernierSchool x = Schools.pair(10, 1, 50, 0, 0);
        for (int paper = 0; paper < 2; paper++) {
            Check.due("mark", x.write(0, 0, 40), 10);
        }
        Check.due("of 0", x.appeal(0, 3), 0);
        x.setTrap(0, 3);
        Check.due("the least of all", x.appeal(1, 3), -10);
        Check.due("the least of all is told", x.paper(1, 7), -10);
        Check.due("it was recorded", x.undo(), 3);
        Check.due("no mark", x.write(0, 0, 40), 0);
        Check.due("the greatest of all", x.appeal(2, 1), 10);
    }

    private static void mostAppealsThatWait() {
        Check.sentence("Appeals wait to be decided, at most 20.");
        VernierSchool x = Schools.plain();
        for (int paper = 0; paper < 22; paper++) {
            x.write(0, 0, paper);
        }
        for (int paper = 0; paper < 20; paper++) {
            Check.due("appeal " + paper, x.appeal(paper, 1), 0);
            Check.due("so many wait", x.count(3), paper + 1);
        }
        Check.due("one more", x.appeal(20, 1), FULL);
        Check.due("twenty wait", x.count(3), 20);
        Check.due("it does not", x.paper(20, 5), 0);
        Check.due("decide", x.decide(), 0);
        Check.due("room again", x.appeal(20, 2), 0);
        Check.due("and full again", x.appeal(21, 3), FULL);
        Check.due("the last in the order", x.waiting(19), 20);
    }

    /** The papers in the order in which they are decided, all of them refused. */
    private static void order(VernierSchool x, int... papers) {
        for (int place = 0; place < papers.length; place++) {
            Check.due("waiting(" + place + ")", x.waiting(place), papers[place]);
        }
        Check.due("no more", x.waiting(papers.length), NONE);
        for (int paper : papers) {
            Check.due("decide", x.decide(), 2 * paper);
        }
        Check.due("none waits", x.decide(), NONE);
    }

    private static void greatestHopeNext() {
        Check.sentence("The next one is that with the greatest hope;");
        VernierSchool x = Schools.pair(10, 1, 50, 0, 0);
        for (int paper = 0; paper < 5; paper++) {
            Check.due("mark", x.write(0, 0, 40), 10);
        }
        int[] eyes = {2, 1, 10, 0, 9};
        int[] hopes = {-2, -1, -10, 0, -9};
        x.adjust(0, 0, 10);
        for (int paper = 0; paper < 5; paper++) {
            x.train(0, eyes[paper], 0);
            Check.due("hope of " + paper, x.appeal(paper, 1), hopes[paper]);
        }
        order(x, 3, 1, 0, 4, 2);
    }

    private static void lowerMarkNext() {
        Check.sentence("of the same the one whose paper has the lower mark;");
        VernierSchool x = Schools.withMarks(new int[][] {{6, 0, 10, 2, 8, 4}});
        for (int paper = 0; paper < 6; paper++) {
            Check.due("no hope", x.appeal(paper, 2), 0);
        }
        order(x, 1, 3, 5, 0, 4, 2);
    }

    private static void lowerNumberNext() {
        Check.sentence("then the one whose paper has the lower number.");
        VernierSchool x = Schools.withMarks(new int[][] {{6, 6}, {6, 6, 4}, {6}});
        for (int paper = 5; paper >= 0; paper--) {
            Check.due("no hope", x.appeal(paper, 3), 0);
        }
        order(x, 4, 0, 1, 2, 3, 5);
    }

    private static void positiveHopeAlone() {
        Check.sentence("An appeal is granted if its hope is positive and, as the instrument is"
                + " when it is decided:");
        // What each cause wants of the instrument holds; the zero error, which stays in, makes
        // the hope.
        VernierSchool x = Schools.pair(10, 10, 50, 0, 8);
        x.setTrap(0, 3);
        x.teach(0, 3);
        int paper = 0;
        for (int cause = 1; cause <= 3; cause++) {
            for (int hope = -1; hope <= 1; hope++) {
                x.adjust(0, 10, 5);
                Check.due("mark", x.write(0, 0, 400), 9);
                x.adjust(0, 10 - 10 * hope, 5);
                Check.due("hope for " + cause, x.appeal(paper, cause), hope);
                int granted = hope > 0 ? 1 : 0;
                Check.due("hope " + hope + " for " + cause, x.decide(), 2 * paper + granted);
                Check.due("the mark then", x.paper(paper, 4), hope > 0 ? 10 : 8);
                Check.due("granted ones", x.pupil(0, 6), granted == 1 ? cause : cause - 1);
                paper++;
                Check.due("refused ones", x.pupil(0, 7), paper - x.pupil(0, 6));
            }
        }
        Check.due("all granted ones", x.count(4), 3);
        Check.due("all refused ones", x.count(5), 6);
    }

    private static void trapNotAnnounced() {
        Check.sentence("1 it has a trap (whichever it is then) which is not announced;");
        for (int then = 0; then <= 3; then++) {
            for (int announced = 0; announced <= Math.min(1, then); announced++) {
                VernierSchool x = Schools.pair(10, 11, 50, 0, 0);
                x.setTrap(0, 3);
                Check.due("mark", x.write(0, 0, 0), 0);
                Check.due("hope", x.appeal(0, 1), 10);
                x.setTrap(0, then);
                if (announced == 1) {
                    x.announce(0);
                }
                int granted = then > 0 && announced == 0 ? 1 : 0;
                Check.due("trap " + then + ", announced " + announced, x.decide(), granted);
            }
        }
    }

    private static void gapOfAtLeastFive() {
        Check.sentence("2 its gap is at least 5;");
        int[] gaps = {0, 4, 5, 6, 20};
        for (int gap : gaps) {
            VernierSchool x = Schools.pair(10, 11, 50, 50, 0);
            x.adjust(0, 0, 20);
            Check.due("100 too much", x.write(0, 0, 0), 1);
            Check.due("hope", x.appeal(0, 2), 9);
            x.adjust(0, 1, gap);
            Check.due("gap " + gap, x.decide(), gap >= 5 ? 1 : 0);
        }
    }

    private static void leastCountOfAtMostTen() {
        Check.sentence("3 its least count is at most 10.");
        int[] leasts = {1, 9, 10, 11, 50};
        for (int least : leasts) {
            VernierSchool x = Schools.pair(10, least, 50, 0, 2);
            Check.due("a line too low", x.write(0, 0, 3 * least), 9);
            Check.due("hope", x.appeal(0, 3), 1);
            Check.due("u " + least, x.decide(), least <= 10 ? 1 : 0);
        }
    }

    private static void markGreaterByTheHope() {
        Check.sentence("Then the mark becomes greater by the hope.");
        VernierSchool x = Schools.pair(10, 1, 50, 0, 0);
        x.setTrap(0, 3);
        Check.due("no mark", x.write(0, 0, 40), 0);
        Check.due("the greatest hope", x.appeal(0, 1), 10);
        Check.due("granted", x.decide(), 1);
        Check.due("the mark", x.paper(0, 4), 10);
        Check.due("the sum of the pupil", x.pupil(0, 4), 10);
        Check.due("the lowest of the pupil", x.pupil(0, 8), 10);
        Check.due("the sum of all", x.count(6), 10);
        x.undo();
        Check.due("the mark again", x.paper(0, 4), 0);
        Check.due("the sum again", x.pupil(0, 4), 0);
    }

    private static void markLessIfAboveZero() {
        Check.sentence("Otherwise it is refused, and the mark becomes less by 1 if it is above"
                + " 0.");
        VernierSchool x = Schools.pair(10, 1, 50, 0, 8);
        int[] zeros = {10, 9, 8, 0};
        int[] marks = {0, 1, 2, 10};
        int[] refused = {0, 0, 1, 9};
        for (int paper = 0; paper < 4; paper++) {
            x.adjust(0, zeros[paper], 0);
            Check.due("mark", x.write(0, 0, 40), marks[paper]);
            Check.due("no hope", x.appeal(paper, 2), 0);
            Check.due("refused", x.decide(), 2 * paper);
            Check.due("the mark then", x.paper(paper, 4), refused[paper]);
        }
        Check.due("the sum of the pupil", x.pupil(0, 4), 10);
        Check.due("the lowest of the pupil", x.pupil(0, 8), 0);
        Check.due("refused ones", x.pupil(0, 7), 4);
        Check.due("granted ones", x.pupil(0, 6), 0);
    }

    private static void causeOfAppeal() {
        Check.sentence("`cause`: 1 to 3");
        VernierSchool x = Schools.plain();
        for (int paper = 0; paper < 3; paper++) {
            x.write(0, 0, 0);
        }
        Check.bounds("cause", 1, 3, cause -> x.appeal(cause == 1 ? 0 : 1, cause));
        Check.due("the first cause", x.paper(0, 6), 1);
        Check.due("the last cause", x.paper(1, 6), 3);
        Check.due("none", x.paper(2, 6), NONE);
    }

    private static void answersOfAppeal() {
        Check.sentence("Returns the hope; UNKNOWN; BAD_VALUE; NOT_POSSIBLE if the paper was"
                + " appealed already; FULL if 20 appeals wait.");
        VernierSchool x = Schools.plain();
        Check.due("no paper at all", x.appeal(0, 1), UNKNOWN);
        for (int paper = 0; paper < 22; paper++) {
            x.write(0, 0, 0);
        }
        Check.numbers("appeal", 22, paper -> x.appeal(paper, 1));
        for (int paper = 1; paper < 19; paper++) {
            Check.due("appeal " + paper, x.appeal(paper, 1), 0);
        }
        Check.due("full", x.appeal(19, 1), FULL);
        Check.due("full, appealed already", x.appeal(0, 1), NOT_POSSIBLE);
        Check.due("full, appealed already, bad", x.appeal(0, 0), BAD_VALUE);
        Check.due("full, bad", x.appeal(19, 4), BAD_VALUE);
        Check.due("full, unknown and bad", x.appeal(22, 4), UNKNOWN);
        Check.due("decide", x.decide(), 0);
        Check.due("room, decided already", x.appeal(0, 1), NOT_POSSIBLE);
        Check.due("room", x.appeal(19, 1), 0);
    }

    private static void answersOfDecide() {
        Check.sentence("Returns 2 * the number of the paper, plus 1 if the appeal is granted; NONE"
                + " if none waits.");
        VernierSchool x = Schools.pair(10, 1, 50, 0, 2);
        Check.due("no papers", x.decide(), NONE);
        for (int paper = 0; paper < 60; paper++) {
            x.write(0, 0, 41);
        }
        Check.due("no appeals", x.decide(), NONE);
        int[] appealed = {59, 0, 58, 1};
        for (int i = 0; i < 4; i++) {
            Check.due("hope", x.appeal(appealed[i], i < 2 ? 3 : 2), i < 2 ? 1 : 0);
        }
        int[] due = {1, 119, 2, 116, NONE};
        for (int answer : due) {
            Check.due("decide", x.decide(), answer);
        }
        Check.due("none is no act", x.count(7), 4);
        x.undo();
        Check.due("the last one again", x.decide(), 116);
    }

    private static void whatOfPaper() {
        Check.sentence("`what`: 0 for its pupil, 1 for its instrument, 2 for its setting, 3 for"
                + " its answer, 4 for its mark, 5 for its appeal (0 none, 1 waits, 2 granted, 3"
                + " refused), 6 for the cause of this (NONE if it was not appealed), 7 for its"
                + " hope (likewise)");
        VernierSchool x = Schools.pair(10, 1, 50, 0, 2);
        x.addPupil(-50, 8);
        x.addInstrument(2, 1, 2, true);
        x.adjust(1, -2, 20);
        x.write(0, 0, 41);
        x.write(1, 1, 0);
        int[][] rows = {{0, 0, 41, 40, 9, 0, NONE, NONE}, {0, 0, 41, 40, 9, 1, 3, 1},
            {0, 0, 41, 40, 10, 2, 3, 1}};
        int[][] others = {{1, 1, 0, -102, 0, 0, NONE, NONE}, {1, 1, 0, -102, 0, 1, 1, 0},
            {1, 1, 0, -102, 0, 3, 1, 0}};
        for (int step = 0; step < 3; step++) {
            for (int what = 0; what <= 7; what++) {
                Check.due("paper(0, " + what + ") " + step, x.paper(0, what), rows[step][what]);
                Check.due("paper(1, " + what + ") " + step, x.paper(1, what), others[step][what]);
            }
            if (step == 0) {
                x.appeal(0, 3);
                x.appeal(1, 1);
            } else {
                x.decide();
                x.decide();
            }
        }
        Check.bounds("what", 0, 7, what -> x.paper(0, what));
    }

    private static void errorsOfPaper() {
        Check.sentence("Returns the number; UNKNOWN; BAD_VALUE.");
        VernierSchool x = Schools.plain();
        Check.due("no paper at all", x.paper(0, 0), UNKNOWN);
        x.write(0, 0, 0);
        x.write(0, 0, 0);
        for (int what = 0; what <= 7; what++) {
            int asked = what;
            Check.numbers("paper, " + what, 2, paper -> x.paper(paper, asked));
        }
        Check.due("unknown and bad", x.paper(2, 8), UNKNOWN);
        Check.due("unknown and bad below", x.paper(-1, -1), UNKNOWN);
        x.undo();
        Check.due("unknown after undo", x.paper(1, 0), UNKNOWN);
    }

    private static void appealsPlayNoPart() {
        Check.sentence("Tells the sum of the marks that all papers of a pupil would have if they"
                + " were written now, without a weakness of the pupil (appeals play no part).");
        VernierSchool x = Schools.plain();
        x.addPupil(0, 0);
        Check.due("no papers", x.would(0, 0), 0);
        for (int paper = 0; paper < 60; paper++) {
            x.write(0, 0, 2 * paper);
        }
        Check.due("all sixty", x.would(0, 0), 600);
        Check.due("the other has none", x.would(1, 4), 0);
        x.appeal(0, 1);
        Check.due("one waits", x.would(0, 0), 600);
        x.decide();
        Check.due("the sum of the marks", x.pupil(0, 4), 599);
        Check.due("one was refused", x.would(0, 0), 600);
        x.setTrap(0, 3);
        Check.due("all sixty without a mark", x.would(0, 0), 0);
        Check.due("all sixty, the trap known", x.would(0, 3), 600);
    }

    private static void whatOfWould() {
        Check.sentence("`what`: 0 as the pupil is, 1 with the eye 0, 2 without all four habits, 3"
                + " knowing all traps, 4 with all of 1 to 3");
        // The eye, the habits, the trap, the setting, and what is due for each what; by the gap
        // of 10 the eye tells how far the line is seen from its place.
        int[][] rows = {
            {0, 0, 0, 40, 10, 10, 10, 10, 10},
            {8, 0, 0, 40, 8, 10, 8, 8, 10},
            {-2, 1, 0, 45, 9, 10, 10, 9, 10},
            {0, 2, 0, 48, 9, 9, 10, 9, 10},
            {0, 4, 0, 64, 0, 0, 10, 0, 10},
            {8, 4, 0, 58, 0, 10, 9, 0, 10},
            {8, 4, 0, 59, 0, 0, 8, 0, 10},
            {0, 8, 0, 40, 9, 9, 10, 9, 10},
            {0, 0, 1, 48, 6, 6, 6, 10, 10},
            {0, 0, 2, 196, 0, 0, 0, 10, 10},
            {0, 0, 3, 40, 0, 0, 0, 10, 10},
            {8, 2, 1, 40, 3, 1, 4, 9, 10}};
        for (int[] row : rows) {
            VernierSchool x = Schools.pair(10, 4, 50, 0, 0);
            x.adjust(0, 4, 10);
            Check.due("mark without weakness", x.write(0, 0, row[3]), 10);
            x.train(0, row[0], row[1]);
            x.setTrap(0, row[2]);
            for (int what = 0; what <= 4; what++) {
                Check.due("would(0, " + what + ") with the eye " + row[0] + ", habits " + row[1]
                        + ", trap " + row[2], x.would(0, what), row[4 + what]);
            }
            Check.bounds("what", 0, 4, what -> x.would(0, what));
        }
    }

    private static void errorsOfWould() {
        Check.sentence("Returns the sum; UNKNOWN; BAD_VALUE.");
        VernierSchool x = new VernierSchool();
        Check.due("no pupil at all", x.would(0, 0), UNKNOWN);
        x.addPupil(0, 0);
        x.addPupil(0, 0);
        for (int what = 0; what <= 4; what++) {
            int asked = what;
            Check.numbers("would, " + what, 2, pupil -> x.would(pupil, asked));
        }
        Check.due("unknown and bad", x.would(2, 5), UNKNOWN);
        Check.due("unknown and bad below", x.would(-1, -1), UNKNOWN);
    }

    private static void placeOfWaiting() {
        Check.sentence("`place`: a place in the order in which appeals that wait would be decided,"
                + " from 0");
        VernierSchool x = Schools.withMarks(new int[][] {{2, 0, 4}});
        x.appeal(2, 2);
        Check.due("the only one", x.waiting(0), 2);
        x.appeal(0, 2);
        x.appeal(1, 2);
        Check.due("the first of three", x.waiting(0), 1);
        Check.due("the last of three", x.waiting(2), 2);
    }

    private static void answersOfWaiting() {
        Check.sentence("Returns the paper; BAD_VALUE if place is negative; NONE if not so many"
                + " wait.");
        VernierSchool x = Schools.plain();
        Check.due("none waits", x.waiting(0), NONE);
        Check.due("none waits, negative", x.waiting(-1), BAD_VALUE);
        for (int paper = 0; paper < 20; paper++) {
            x.write(0, 0, 0);
            x.appeal(paper, 1);
        }
        Check.due("waiting(19)", x.waiting(19), 19);
        Check.due("waiting(20)", x.waiting(20), NONE);
        Check.due("waiting of the greatest int", x.waiting(Integer.MAX_VALUE), NONE);
        Check.due("waiting(-1)", x.waiting(-1), BAD_VALUE);
        Check.due("waiting of the least int", x.waiting(Integer.MIN_VALUE), BAD_VALUE);
        x.decide();
        Check.due("waiting(0) then", x.waiting(0), 1);
        Check.due("waiting(19) then", x.waiting(19), NONE);
    }
}

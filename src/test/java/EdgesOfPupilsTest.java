/**
 * The edges that the document names for pupils, what they read and their ranks (promises 6 to 8,
 * 19, 22 and 24): a test for each sentence of it that names one.
 */
final class EdgesOfPupilsTest {
    private static final int BAD_VALUE = VernierSchool.BAD_VALUE;
    private static final int FULL = VernierSchool.FULL;
    private static final int NONE = VernierSchool.NONE;
    private static final int UNKNOWN = VernierSchool.UNKNOWN;

    public static void main(String[] args) {
        mostPupils();
        rangesOfAPupil();
        parallaxRoundedTowardsZero();
        hastyOnlyIfMore();
        evenOnlyIfOdd();
        edgeOnlyIfMore();
        reversedAtBothEnds();
        fivesOnlyIfPositive();
        lineTooManyEverywhere();
        trapsThatAreKnown();
        changesByWhatIsLeft();
        correctionAtBothEnds();
        parametersOfAddPupil();
        errorsOfAddPupil();
        trapOfTeach();
        answersOfTeach();
        parametersOfTrain();
        answersOfTrain();
        settingOfAnswer();
        noPaperIsWritten();
        errorsOfAnswer();
        meansComparedExactly();
        ranksOfTheSameMean();
        pupilsWithoutPapers();
        placeOfRanked();
        answersOfRanked();
        whatOfPupil();
        errorsOfPupil();
        Check.end();
    }

    private static void mostPupils() {
        Check.sentence("There are at most 12 pupils, numbered from 0.");
        VernierSchool x = new VernierSchool();
        for (int i = 0; i < 12; i++) {
            Check.due("add the number " + i, x.addPupil(i - 50, 15 - i), i);
        }
        Check.due("add a thirteenth", x.addPupil(0, 0), FULL);
        Check.due("count(1)", x.count(1), 12);
        for (int i = 0; i < 12; i++) {
            Check.due("eye of " + i, x.pupil(i, 0), i - 50);
            Check.due("habits of " + i, x.pupil(i, 1), 15 - i);
            Check.due("ranked(" + i + ")", x.ranked(i), i);
        }
        Check.due("none behind the twelfth", x.pupil(12, 0), UNKNOWN);
    }

    private static void rangesOfAPupil() {
        Check.sentence("A pupil has an eye (-50 to 50), habits (a bit set of the habits 0 to 3"
                + " below) and knows traps (a bit set; the bit t - 1 is the trap t; at first 0).");
        VernierSchool x = new VernierSchool();
        x.addPupil(-50, 0);
        x.addPupil(50, 15);
        Check.due("the least eye", x.pupil(0, 0), -50);
        Check.due("no habits", x.pupil(0, 1), 0);
        Check.due("the greatest eye", x.pupil(1, 0), 50);
        Check.due("all habits", x.pupil(1, 1), 15);
        for (int trap = 1; trap <= 3; trap++) {
            Check.due("at first 0", x.pupil(trap, 2), trap == 1 ? 0 : UNKNOWN);
            Check.due("the bit of the trap " + trap, x.teach(0, trap), (1 << trap) - 1);
        }
        Check.due("all traps", x.pupil(0, 2), 7);
    }

    private static void parallaxRoundedTowardsZero() {
        Check.sentence("When a pupil reads an instrument at a setting x, the line 0 of the vernier"
                + " is seen at the place p = x + z + eye * gap / 10 (this quotient is rounded"
                + " towards 0).");
        VernierSchool x = Schools.pair(10, 1, 50, 0, 0);
        int[][] eyeGapDue = {{9, 1, 0}, {-9, 1, 0}, {10, 1, 1}, {-10, 1, -1}, {19, 1, 1},
            {-19, 1, -1}, {50, 0, 0}, {-50, 0, 0}, {-1, 9, 0}, {-1, 10, -1}, {1, 20, 2},
            {-3, 13, -3}, {50, 20, 100}, {-50, 20, -100}};
        for (int[] due : eyeGapDue) {
            x.train(0, due[0], 0);
            x.adjust(0, 0, due[1]);
            Check.due("eye " + due[0] + ", gap " + due[1], x.answer(0, 0, 100), 100 + due[2]);
        }
        // Beyond both ends of the main scale, from 0 to 500.
        x.adjust(0, -10, 20);
        Check.due("the least of all places", x.answer(0, 0, 0), -100);
        x.train(0, 50, 0);
        x.adjust(0, 10, 20);
        Check.due("the greatest of all places", x.answer(0, 0, 500), 600);
    }

    private static void hastyOnlyIfMore() {
        Check.sentence("habit 0 (hasty): if k * u is more than r, k becomes less by 1.");
        VernierSchool x = Schools.pair(10, 4, 50, 0, 1);
        int[] settings = {0, 40, 42, 43, 44, 45, 77, 78, 79, 80, 1999, 2000};
        int[] answers = {0, 40, 40, 40, 44, 44, 76, 76, 76, 80, 1996, 2000};
        for (int i = 0; i < settings.length; i++) {
            Check.due("hasty at " + settings[i], x.answer(0, 0, settings[i]), answers[i]);
        }
    }

    private static void evenOnlyIfOdd() {
        Check.sentence("habit 1 (even numbers): if k is odd, it becomes less by 1.");
        VernierSchool x = Schools.pair(5, 4, 50, 0, 2);
        int[] settings = {0, 4, 8, 12, 16, 19, 20, 24, 1000};
        int[] answers = {0, 0, 8, 8, 16, 16, 20, 20, 1000};
        for (int i = 0; i < settings.length; i++) {
            Check.due("even at " + settings[i], x.answer(0, 0, settings[i]), answers[i]);
        }
    }

    private static void edgeOnlyIfMore() {
        Check.sentence("habit 2 (edge): if k is more than n / 2 (rounded down), m becomes greater"
                + " by 1.");
        int[] sizes = {2, 3, 10, 49, 50};
        for (int n : sizes) {
            VernierSchool x = Schools.pair(n, 3, 50, 0, 4);
            int half = n / 2;
            int length = 3 * n;
            Check.due("0 of " + n, x.answer(0, 0, 0), 0);
            Check.due("the half of " + n, x.answer(0, 0, 3 * half), 3 * half);
            // Ahead of the line n the place of the fraction half + 1 of n 2 is a new main line.
            int above = n == 2 ? length - 1 : 3 * half + 3;
            Check.due("more than the half of " + n, x.answer(0, 0, above),
                    length + 3 * half + 3);
            Check.due("the line n of " + n, x.answer(0, 0, length - 1), 2 * length);
            Check.due("the next main line of " + n, x.answer(0, 0, length), length);
        }
    }

    private static void reversedAtBothEnds() {
        Check.sentence("trap 1 (numbers of the vernier reversed), if the instrument has it and the"
                + " pupil does not know it: k becomes n - k.");
        VernierSchool x = Schools.pair(10, 4, 50, 0, 0);
        x.setTrap(0, 1);
        int[] settings = {0, 4, 20, 36, 39, 40, 2000};
        int[] answers = {40, 36, 20, 4, 0, 80, 2040};
        for (int i = 0; i < settings.length; i++) {
            Check.due("trap 1 at " + settings[i], x.answer(0, 0, settings[i]), answers[i]);
        }
    }

    private static void fivesOnlyIfPositive() {
        Check.sentence("trap 2 (fives taken for tens), likewise: if m is positive, m becomes m + m"
                + " / 5 (rounded down).");
        VernierSchool x = Schools.pair(10, 1, 200, 0, 0);
        x.setTrap(0, 2);
        int[] settings = {0, 9, 10, 49, 50, 59, 99, 100, 1999, 2000};
        int[] answers = {0, 9, 10, 49, 60, 69, 109, 120, 2389, 2400};
        for (int i = 0; i < settings.length; i++) {
            Check.due("trap 2 at " + settings[i], x.answer(0, 0, settings[i]), answers[i]);
        }
        x.train(0, -50, 0);
        x.adjust(0, 0, 20);
        Check.due("m is -10", x.answer(0, 0, 0), -100);
        Check.due("m is -5", x.answer(0, 0, 50), -50);
        Check.due("m is -1", x.answer(0, 0, 99), -1);
        Check.due("m is 0", x.answer(0, 0, 100), 0);
        Check.due("m is 5", x.answer(0, 0, 150), 60);
    }

    private static void lineTooManyEverywhere() {
        Check.sentence("trap 3 (a line too many), likewise: m becomes greater by 1.");
        VernierSchool x = Schools.pair(10, 1, 50, 0, 0);
        x.setTrap(0, 3);
        Check.due("m is 0", x.answer(0, 0, 0), 10);
        Check.due("m is the last line", x.answer(0, 0, 500), 510);
        x.train(0, -50, 0);
        x.adjust(0, 0, 20);
        Check.due("m is -10", x.answer(0, 0, 0), -90);
        Check.due("m is -1", x.answer(0, 0, 99), 9);
    }

    private static void trapsThatAreKnown() {
        Check.sentence("if the instrument has it and the pupil does not know it");
        int[] trapped = {54, 126, 66};
        int[] settings = {46, 106, 46};
        for (int trap = 1; trap <= 3; trap++) {
            VernierSchool x = Schools.plain();
            x.addInstrument(10, 2, 50, false);
            int setting = settings[trap - 1];
            x.setTrap(0, trap);
            for (int other = 1; other <= 3; other++) {
                Check.due("trap " + trap, x.answer(0, 0, setting), trapped[trap - 1]);
                if (other != trap) {
                    x.teach(0, other);
                }
            }
            Check.due("without the trap " + trap, x.answer(0, 1, setting), setting);
            x.teach(0, trap);
            Check.due("trap " + trap + " known", x.answer(0, 0, setting), setting);
            // Who knows them all reads every instrument.
            for (int other = 0; other <= 3; other++) {
                x.setTrap(0, other);
                Check.due("trap " + other + " known too", x.answer(0, 0, setting), setting);
            }
        }
    }

    private static void changesByWhatIsLeft() {
        Check.sentence("The numbers m and k are found as told above, and then changed as follows,"
                + " in this order, each change by what those ahead of it have left:");
        VernierSchool x = Schools.pair(10, 4, 50, 0, 3);
        Check.due("hasty 3 is even 2", x.answer(0, 0, 55), 48);
        x.train(0, 0, 5);
        Check.due("hasty 5 is not the edge", x.answer(0, 0, 63), 60);
        x.train(0, 0, 6);
        Check.due("even 6 is the edge", x.answer(0, 0, 68), 104);
        x.addInstrument(5, 4, 50, false);
        Check.due("even 2 is not the edge of 5", x.answer(0, 1, 32), 28);
        x.train(0, 0, 4);
        x.setTrap(0, 1);
        Check.due("6 is the edge ahead of being 4", x.answer(0, 0, 64), 96);
        Check.due("4 is none ahead of being 6", x.answer(0, 0, 56), 64);
        x.setTrap(0, 2);
        Check.due("the edge makes 5 ahead of 6", x.answer(0, 0, 184), 264);
        x.setTrap(0, 3);
        Check.due("the edge and a line too many", x.answer(0, 0, 64), 144);
        x.setTrap(0, 1);
        x.train(0, 0, 3);
        Check.due("hasty 7, even 6, reversed 4", x.answer(0, 0, 71), 56);
    }

    private static void correctionAtBothEnds() {
        Check.sentence("The answer is m * n * u + k * u - z; with the habit 3 (no correction) z is"
                + " not subtracted.");
        VernierSchool x = Schools.pair(10, 1, 50, 0, 8);
        x.addPupil(0, 7);
        x.addPupil(0, 0);
        Check.due("z is 0", x.answer(0, 0, 0), 0);
        x.adjust(0, -10, 0);
        Check.due("uncorrected, the least z", x.answer(0, 0, 0), -10);
        Check.due("corrected, the least z", x.answer(2, 0, 0), 0);
        x.adjust(0, 10, 0);
        Check.due("uncorrected, the greatest z", x.answer(0, 0, 500), 510);
        Check.due("corrected, the greatest z", x.answer(2, 0, 500), 500);
        Check.due("the other habits correct", x.answer(1, 0, 500), 500);
    }

    private static void parametersOfAddPupil() {
        Check.sentence("`eye`: -50 to 50");
        Check.bounds("eye", -50, 50, eye -> new VernierSchool().addPupil(eye, 0));
        Check.sentence("`habits`: 0 to 15: a bit set");
        Check.bounds("habits", 0, 15, habits -> new VernierSchool().addPupil(0, habits));
    }

    private static void errorsOfAddPupil() {
        Check.sentence("Returns the pupil's number; BAD_VALUE; FULL.");
        VernierSchool x = new VernierSchool();
        for (int i = 0; i < 12; i++) {
            Check.due("add " + i, x.addPupil(0, 0), i);
        }
        Check.due("full", x.addPupil(0, 0), FULL);
        Check.due("full, bad eye", x.addPupil(-51, 0), BAD_VALUE);
        Check.due("full, bad habits", x.addPupil(0, 16), BAD_VALUE);
        x.undo();
        Check.due("room again", x.addPupil(0, 0), 11);
        Check.due("and full again", x.addPupil(0, 0), FULL);
    }

    private static void trapOfTeach() {
        Check.sentence("`trap`: 1 to 3");
        VernierSchool x = new VernierSchool();
        x.addPupil(0, 0);
        Check.bounds("trap", 1, 3, trap -> x.teach(0, trap));
        Check.due("both edges are known", x.pupil(0, 2), 5);
    }

    private static void answersOfTeach() {
        Check.sentence("Returns the traps that the pupil knows then, as a bit set; UNKNOWN;"
                + " BAD_VALUE; NONE if the pupil knows it already.");
        VernierSchool x = Schools.plain();
        Check.due("the first", x.teach(0, 3), 4);
        Check.due("known already", x.teach(0, 3), NONE);
        Check.due("the second", x.teach(0, 2), 6);
        x.setTrap(0, 1);
        x.announce(0);
        Check.due("known by what was announced", x.teach(0, 1), NONE);
        Check.due("all", x.pupil(0, 2), 7);
        Check.due("unknown and bad", x.teach(1, 4), UNKNOWN);
        Check.due("bad, all are known", x.teach(0, 0), BAD_VALUE);
        Check.numbers("teach", 1, pupil -> x.teach(pupil, 1));
    }

    private static void parametersOfTrain() {
        VernierSchool x = new VernierSchool();
        x.addPupil(0, 0);
        Check.sentence("`eye`: -50 to 50");
        Check.bounds("eye", -50, 50, eye -> x.train(0, eye, 0));
        Check.due("the last eye stays", x.pupil(0, 0), 50);
        Check.sentence("`habits`: 0 to 15");
        Check.bounds("habits", 0, 15, habits -> x.train(0, 1, habits));
        Check.due("the last habits stay", x.pupil(0, 1), 15);
    }

    private static void answersOfTrain() {
        Check.sentence("Returns how many of the four habits are other than before; UNKNOWN;"
                + " BAD_VALUE; NONE if both are so already.");
        VernierSchool x = new VernierSchool();
        x.addPupil(0, 0);
        Check.due("both so", x.train(0, 0, 0), NONE);
        Check.due("the eye alone", x.train(0, -50, 0), 0);
        Check.due("all four", x.train(0, -50, 15), 4);
        Check.due("both so again", x.train(0, -50, 15), NONE);
        Check.due("all four away", x.train(0, 50, 0), 4);
        for (int habit = 1; habit <= 8; habit *= 2) {
            Check.due("one more", x.train(0, 50, 2 * habit - 1), 1);
        }
        Check.due("two there and two away", x.train(0, 50, 5), 2);
        Check.due("each is other", x.train(0, 50, 10), 4);
        Check.due("unknown and bad", x.train(1, 51, 16), UNKNOWN);
        Check.due("bad eye, the habits so", x.train(0, -51, 10), BAD_VALUE);
        Check.due("bad habits, the eye so", x.train(0, 50, -1), BAD_VALUE);
        Check.numbers("train", 1, pupil -> x.train(pupil, 50, 10));
    }

    private static void settingOfAnswer() {
        Check.sentence("`setting`: a setting of it");
        VernierSchool x = Schools.plain();
        x.addInstrument(2, 1, 2, true);
        Check.bounds("setting of 0", 0, 1000, setting -> x.answer(0, 0, setting));
        Check.bounds("setting of 1", 0, 4, setting -> x.answer(0, 1, setting));
        Check.due("the least", x.answer(0, 1, 0), 0);
        Check.due("the greatest", x.answer(0, 1, 4), 4);
    }

    private static void noPaperIsWritten() {
        Check.sentence("Tells the answer that a pupil would give; no paper is written.");
        VernierSchool x = Schools.plain();
        String before = Schools.told(x, 1);
        Check.due("answer(0, 0, 46)", x.answer(0, 0, 46), 46);
        Check.isTrue("nothing changes", Schools.told(x, 1).equals(before));
        Check.due("no state is recorded", x.count(7), 2);
        for (int paper = 0; paper < 60; paper++) {
            x.write(0, 0, 46);
        }
        Check.due("there need not be room", x.answer(0, 0, 46), 46);
    }

    private static void errorsOfAnswer() {
        Check.sentence("Returns the answer; UNKNOWN (pupil or instrument); BAD_VALUE.");
        VernierSchool x = Schools.plain();
        Check.numbers("answer, pupil", 1, pupil -> x.answer(pupil, 0, 0));
        Check.numbers("answer, instrument", 1, instrument -> x.answer(0, instrument, 0));
        Check.due("both unknown", x.answer(1, 1, 0), UNKNOWN);
        Check.due("pupil unknown, bad setting", x.answer(1, 0, -1), UNKNOWN);
        Check.due("instrument unknown, bad setting", x.answer(0, 1, 1001), UNKNOWN);
        Check.due("bad setting", x.answer(0, 0, 1001), BAD_VALUE);
        VernierSchool instruments = Schools.instrument(10, 2, 50, false);
        Check.due("no pupil at all", instruments.answer(0, 0, 0), UNKNOWN);
        VernierSchool pupils = new VernierSchool();
        pupils.addPupil(0, 0);
        Check.due("no instrument at all", pupils.answer(0, 0, 0), UNKNOWN);
    }

    private static void ranks(VernierSchool x, int... order) {
        for (int place = 0; place < order.length; place++) {
            Check.due("ranked(" + place + ")", x.ranked(place), order[place]);
            Check.due("rank of " + order[place], x.pupil(order[place], 5), place);
        }
        Check.due("no more", x.ranked(order.length), NONE);
    }

    private static void meansComparedExactly() {
        Check.sentence("Pupils are ranked by the mean of the marks of their papers, the greatest"
                + " first (means are compared exactly)");
        ranks(Schools.withMarks(new int[][] {{0}, {10}, {4}}), 1, 2, 0);
        // 14 / 3 is less than 5 and 24 / 5, which are less than 16 / 3.
        ranks(Schools.withMarks(new int[][] {{4, 4, 6}, {4, 4, 4, 6, 6}, {4, 6}, {4, 6, 6}}),
                3, 2, 1, 0);
        // 2 / 30 is less than 2 / 29, though more papers would be ahead.
        int[][] marks = {new int[30], new int[29]};
        marks[0][0] = 2;
        marks[1][28] = 2;
        ranks(Schools.withMarks(marks), 1, 0);
        marks[1][28] = 0;
        ranks(Schools.withMarks(marks), 0, 1);
    }

    private static void ranksOfTheSameMean() {
        Check.sentence("of the same mean the one with more papers is ahead, then the one with the"
                + " lower number.");
        ranks(Schools.withMarks(new int[][] {{4}, {4, 4}, {2, 4, 6}}), 2, 1, 0);
        ranks(Schools.withMarks(new int[][] {{2, 4}, {6, 0}, {4, 2}}), 0, 1, 2);
        // 1 / 3 three times over: 2 / 6 and twice 4 / 12.
        int[][] marks = {new int[6], new int[12], new int[12]};
        marks[0][5] = 2;
        marks[1][3] = 4;
        marks[2][0] = 4;
        ranks(Schools.withMarks(marks), 1, 2, 0);
        ranks(Schools.withMarks(new int[][] {{0}, {0, 0}, {0}}), 1, 0, 2);
    }

    private static void pupilsWithoutPapers() {
        Check.sentence("Pupils without papers come last, by number.");
        ranks(Schools.withMarks(new int[][] {{}, {0}, {}, {}, {0}}), 1, 4, 0, 2, 3);
        VernierSchool x = Schools.withMarks(new int[][] {{}, {}, {10}});
        ranks(x, 2, 0, 1);
        x.undo();
        ranks(x, 0, 1, 2);
    }

    private static void placeOfRanked() {
        Check.sentence("`place`: a place in the ranks, from 0");
        VernierSchool x = Schools.withMarks(new int[][] {{0}, {2}, {4}});
        Check.due("the first place", x.ranked(0), 2);
        Check.due("the last place", x.ranked(2), 0);
    }

    private static void answersOfRanked() {
        Check.sentence("Returns the pupil there; BAD_VALUE if place is negative; NONE if there are"
                + " not so many.");
        VernierSchool x = Schools.withMarks(new int[][] {{0}, {2}});
        Check.due("ranked(1)", x.ranked(1), 0);
        Check.due("ranked(2)", x.ranked(2), NONE);
        Check.due("ranked(12)", x.ranked(12), NONE);
        Check.due("ranked of the greatest int", x.ranked(Integer.MAX_VALUE), NONE);
        Check.due("ranked(-1)", x.ranked(-1), BAD_VALUE);
        Check.due("ranked of the least int", x.ranked(Integer.MIN_VALUE), BAD_VALUE);
        VernierSchool empty = new VernierSchool();
        Check.due("no pupils", empty.ranked(0), NONE);
        Check.due("no pupils, negative", empty.ranked(-1), BAD_VALUE);
    }

    private static void whatOfPupil() {
        Check.sentence("`what`: 0 for the eye, 1 for the habits, 2 for the traps that the pupil"
                + " knows, 3 for papers, 4 for the sum of their marks, 5 for the rank (0 for the"
                + " first), 6 for appeals that were granted, 7 for those that were refused, 8 for"
                + " the lowest mark (NONE without papers)");
        VernierSchool x = Schools.pair(10, 1, 50, -50, 15);
        x.addPupil(50, 0);
        int[] first = {-50, 15, 0, 0, 0, 0, 0, 0, NONE};
        for (int what = 0; what <= 8; what++) {
            Check.due("pupil(0, " + what + ")", x.pupil(0, what), first[what]);
        }
        x.setTrap(0, 3);
        Check.due("a mark of 0", x.write(0, 0, 40), 0);
        Check.due("the lowest is 0, not none", x.pupil(0, 8), 0);
        Check.due("the other has none", x.pupil(1, 8), NONE);
        Check.due("the rank of the last", x.pupil(1, 5), 1);
        x.undo();
        Check.due("none again", x.pupil(0, 8), NONE);
        x.setTrap(0, 0);
        for (int paper = 0; paper < 60; paper++) {
            x.write(1, 0, 40);
        }
        int[] full = {50, 0, 0, 60, 600, 0, 0, 0, 10};
        for (int what = 0; what <= 8; what++) {
            Check.due("pupil(1, " + what + ")", x.pupil(1, what), full[what]);
        }
        Check.bounds("what, with papers", 0, 8, what -> x.pupil(1, what));
        Check.bounds("what, without papers", 0, 8, what -> x.pupil(0, what));
    }

    private static void errorsOfPupil() {
        Check.sentence("Returns the number; UNKNOWN; BAD_VALUE.");
        VernierSchool x = new VernierSchool();
        x.addPupil(0, 0);
        x.addPupil(0, 0);
        for (int what = 0; what <= 8; what++) {
            int asked = what;
            Check.numbers("pupil, " + what, 2, pupil -> x.pupil(pupil, asked));
        }
        Check.due("unknown and bad", x.pupil(2, 9), UNKNOWN);
        Check.due("unknown and bad below", x.pupil(-1, -1), UNKNOWN);
        x.undo();
        Check.due("unknown after undo", x.pupil(1, 0), UNKNOWN);
    }
}

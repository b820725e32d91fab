/**
 * The edges that the document names for instruments and lines that coincide (promises 1 to 5, 18
 * and 21): a test for each sentence of it that names one.
 */
final class EdgesOfInstrumentsTest {
    private static final int BAD_VALUE = VernierSchool.BAD_VALUE;
    private static final int FULL = VernierSchool.FULL;
    private static final int NONE = VernierSchool.NONE;
    private static final int NOT_POSSIBLE = VernierSchool.NOT_POSSIBLE;
    private static final int UNKNOWN = VernierSchool.UNKNOWN;

    public static void main(String[] args) {
        emptySchool();
        mostInstruments();
        sizesOfInstruments();
        divisionsOfTheVernier();
        linesOfTheVernier();
        parametersOfAddInstrument();
        errorsOfAddInstrument();
        addedWithZerosAndNoTrap();
        rangesOfAnInstrument();
        settings();
        zeroOfAdjust();
        gapOfAdjust();
        answersOfAdjust();
        trapOfSetTrap();
        notAnnouncedThen();
        answersOfSetTrap();
        allPupilsThatThereAre();
        answersOfAnnounce();
        whatOfInstrument();
        errorsOfInstrument();
        placesBeyondBothEnds();
        placesRoundedDown();
        distanceWithoutItsSign();
        lowerFractionOfTwo();
        fractionThatALineTells();
        placeOfCoincidence();
        whatOfCoincidence();
        errorsOfCoincidence();
        Check.end();
    }

    private static void emptySchool() {
        Check.sentence("Creates a school without instruments and pupils.");
        VernierSchool x = new VernierSchool();
        Check.due("count(0)", x.count(0), 0);
        Check.due("count(1)", x.count(1), 0);
        Check.due("instrument(0, 0)", x.instrument(0, 0), UNKNOWN);
        Check.due("pupil(0, 0)", x.pupil(0, 0), UNKNOWN);
        Check.due("adjust(0, 0, 0)", x.adjust(0, 0, 0), UNKNOWN);
        Check.due("train(0, 0, 0)", x.train(0, 0, 0), UNKNOWN);
        Check.due("ranked(0)", x.ranked(0), NONE);
    }

    private static void mostInstruments() {
        Check.sentence("There are at most 10 instruments, numbered from 0 in the order in which"
                + " they were added.");
        VernierSchool x = new VernierSchool();
        for (int i = 0; i < 10; i++) {
            Check.due("add the number " + i, x.addInstrument(50 - i, i + 1, 200 - i, i > 4), i);
        }
        Check.due("add an eleventh", x.addInstrument(10, 2, 50, false), FULL);
        Check.due("count(0)", x.count(0), 10);
        for (int i = 0; i < 10; i++) {
            Check.due("n of " + i, x.instrument(i, 0), 50 - i);
            Check.due("u of " + i, x.instrument(i, 1), i + 1);
            Check.due("lines of " + i, x.instrument(i, 2), 200 - i);
        }
        Check.due("none behind the tenth", x.instrument(10, 0), UNKNOWN);
    }

    private static void sizesOfInstruments() {
        Check.sentence("An instrument has a vernier of n divisions (2 to 50), a least count u (1"
                + " to 50), and a main scale of 2 to 200 divisions, each n * u long.");
        int[][] sizes = {{2, 1, 2}, {50, 1, 2}, {2, 50, 2}, {2, 1, 200}, {50, 50, 200}};
        int[] greatest = {4, 100, 200, 400, 500000};
        for (int i = 0; i < sizes.length; i++) {
            VernierSchool x = Schools.instrument(sizes[i][0], sizes[i][1], sizes[i][2], false);
            Check.due("n of " + i, x.instrument(0, 0), sizes[i][0]);
            Check.due("u of " + i, x.instrument(0, 1), sizes[i][1]);
            Check.due("lines of " + i, x.instrument(0, 2), sizes[i][2]);
            Check.due("greatest setting of " + i, x.instrument(0, 8), greatest[i]);
            Check.due("the last line of " + i, x.coincidence(0, greatest[i], 0), sizes[i][2]);
        }
        Check.due("n 1", new VernierSchool().addInstrument(1, 1, 2, false), BAD_VALUE);
        Check.due("n 51", new VernierSchool().addInstrument(51, 50, 200, false), BAD_VALUE);
        Check.due("u 0", new VernierSchool().addInstrument(2, 0, 2, false), BAD_VALUE);
        Check.due("u 51", new VernierSchool().addInstrument(50, 51, 200, false), BAD_VALUE);
        Check.due("lines 1", new VernierSchool().addInstrument(2, 1, 1, false), BAD_VALUE);
        Check.due("lines 201", new VernierSchool().addInstrument(50, 50, 201, false), BAD_VALUE);
    }

    private static void divisionsOfTheVernier() {
        Check.sentence("a division of the vernier is (n - 1) * u long if it is direct, (n + 1) *"
                + " u if it is retrograde.");
        Check.due("least, direct", Schools.instrument(2, 1, 2, false).instrument(0, 9), 1);
        Check.due("least, retrograde", Schools.instrument(2, 1, 2, true).instrument(0, 9), 3);
        Check.due("most, direct", Schools.instrument(50, 50, 200, false).instrument(0, 9), 2450);
        Check.due("most, retrograde", Schools.instrument(50, 50, 200, true).instrument(0, 9), 2550);
    }

    private static void linesOfTheVernier() {
        Check.sentence("The vernier has lines 0 to n.");
        int[] sizes = {2, 10, 50};
        for (int n : sizes) {
            int last = 3 * n - 1;
            VernierSchool direct = Schools.instrument(n, 3, 2, false);
            Check.due("direct, line 0 of " + n, direct.coincidence(0, 0, 2), 0);
            Check.due("direct, line n of " + n, direct.coincidence(0, last, 2), n);
            VernierSchool retrograde = Schools.instrument(n, 3, 2, true);
            Check.due("retrograde, line n of " + n, retrograde.coincidence(0, 0, 2), n);
            Check.due("retrograde, line 0 of " + n, retrograde.coincidence(0, last, 2), 0);
        }
    }

    private static void parametersOfAddInstrument() {
        Check.sentence("`divisions`: 2 to 50: n");
        Check.bounds("divisions", 2, 50, n -> new VernierSchool().addInstrument(n, 1, 2, true));
        Check.sentence("`least`: 1 to 50: u");
        Check.bounds("least", 1, 50, u -> new VernierSchool().addInstrument(2, u, 2, true));
        Check.sentence("`lines`: 2 to 200: the divisions of its main scale");
        Check.bounds("lines", 2, 200, l -> new VernierSchool().addInstrument(2, 1, l, false));
        Check.sentence("`retrograde`: whether it is retrograde, otherwise direct");
        Check.due("retrograde", Schools.instrument(2, 1, 2, true).instrument(0, 3), 1);
        Check.due("direct", Schools.instrument(2, 1, 2, false).instrument(0, 3), 0);
    }

    private static void errorsOfAddInstrument() {
        Check.sentence("Returns its number; BAD_VALUE; FULL.");
        VernierSchool x = new VernierSchool();
        for (int i = 0; i < 10; i++) {
            Check.due("add " + i, x.addInstrument(2, 1, 2, false), i);
        }
        Check.due("full", x.addInstrument(2, 1, 2, false), FULL);
        Check.due("full, bad n", x.addInstrument(1, 1, 2, false), BAD_VALUE);
        Check.due("full, bad u", x.addInstrument(2, 51, 2, false), BAD_VALUE);
        Check.due("full, bad lines", x.addInstrument(2, 1, 201, false), BAD_VALUE);
        x.undo();
        Check.due("room again", x.addInstrument(3, 1, 2, false), 9);
        Check.due("and full again", x.addInstrument(2, 1, 2, false), FULL);
    }

    private static void addedWithZerosAndNoTrap() {
        Check.sentence("Adds an instrument, with the zero error 0, the gap 0 and no trap.");
        VernierSchool x = new VernierSchool();
        for (int i = 0; i < 2; i++) {
            x.addInstrument(10, 2, 50, false);
            for (int what = 4; what <= 7; what++) {
                Check.due("instrument(0, " + what + ")", x.instrument(0, what), 0);
            }
            x.adjust(0, 20, 20);
            x.setTrap(0, 3);
            x.announce(0);
            // The same row is used again, and nothing of it is left.
            for (int undone = 0; undone < 4; undone++) {
                x.undo();
            }
            Check.due("count(0)", x.count(0), 0);
        }
    }

    private static void rangesOfAnInstrument() {
        Check.sentence("The instrument has a zero error z (-n * u to n * u), a gap (0 to 20)"
                + " between the vernier and the main scale, and a trap (0 to 3; 0 is none), which"
                + " is announced or not (at first it is not).");
        VernierSchool x = Schools.instrument(50, 50, 200, false);
        Check.due("adjust to the least", x.adjust(0, -2500, 0), 0);
        Check.due("the least zero error", x.instrument(0, 4), -2500);
        Check.due("adjust to the greatest", x.adjust(0, 2500, 20), -2500);
        Check.due("the greatest zero error", x.instrument(0, 4), 2500);
        Check.due("the greatest gap", x.instrument(0, 5), 20);
        for (int trap = 1; trap <= 3; trap++) {
            Check.due("setTrap(0, " + trap + ")", x.setTrap(0, trap), trap - 1);
            Check.due("the trap", x.instrument(0, 6), trap);
            Check.due("at first it is not announced", x.instrument(0, 7), 0);
        }
        Check.due("setTrap(0, 0)", x.setTrap(0, 0), 3);
        Check.due("0 is none", x.announce(0), NOT_POSSIBLE);
    }

    private static void settings() {
        Check.sentence("A setting of an instrument is a length x from 0 to (its main divisions)"
                + " * n * u.");
        VernierSchool x = Schools.plain();
        x.addInstrument(2, 1, 2, true);
        x.addInstrument(50, 50, 200, false);
        int[] greatest = {1000, 4, 500000};
        for (int i = 0; i < greatest.length; i++) {
            int instrument = i;
            Check.due("greatest of " + i, x.instrument(i, 8), greatest[i]);
            Check.bounds("answer of " + i, 0, greatest[i], s -> x.answer(0, instrument, s));
            Check.bounds("write of " + i, 0, greatest[i], s -> x.write(0, instrument, s));
        }
        // The zero error and the gap move what is seen, not what can be set.
        x.adjust(0, 20, 20);
        Check.bounds("adjusted", 0, 1000, s -> x.answer(0, 0, s));
    }

    private static void zeroOfAdjust() {
        Check.sentence("`zero`: -n * u to n * u");
        VernierSchool x = Schools.instrument(7, 3, 2, true);
        Check.bounds("n * u is 21", -21, 21, zero -> x.adjust(0, zero, 1));
        Check.due("the last one stays", x.instrument(0, 4), 21);
        VernierSchool small = Schools.instrument(2, 1, 200, false);
        Check.bounds("n * u is 2", -2, 2, zero -> small.adjust(0, zero, 1));
        VernierSchool large = Schools.instrument(50, 50, 2, false);
        Check.bounds("n * u is 2500", -2500, 2500, zero -> large.adjust(0, zero, 1));
    }

    private static void gapOfAdjust() {
        Check.sentence("`gap`: 0 to 20");
        VernierSchool x = Schools.instrument(7, 3, 2, true);
        Check.bounds("gap", 0, 20, gap -> x.adjust(0, 1, gap));
        Check.due("the last one stays", x.instrument(0, 5), 20);
    }

    private static void answersOfAdjust() {
        Check.sentence("Returns the previous zero error; UNKNOWN; BAD_VALUE; NONE if both are so"
                + " already.");
        VernierSchool x = Schools.instrument(10, 2, 50, false);
        Check.due("both are 0", x.adjust(0, 0, 0), NONE);
        Check.due("first", x.adjust(0, -20, 20), 0);
        Check.due("the least before", x.adjust(0, 20, 20), -20);
        Check.due("both so", x.adjust(0, 20, 20), NONE);
        Check.due("the gap is other", x.adjust(0, 20, 19), 20);
        Check.due("the zero error is other", x.adjust(0, 19, 19), 20);
        Check.due("the zero error so, the gap bad", x.adjust(0, 19, 21), BAD_VALUE);
        Check.due("the gap so, the zero error bad", x.adjust(0, -21, 19), BAD_VALUE);
        Check.due("unknown, both bad", x.adjust(1, 21, 21), UNKNOWN);
        Check.numbers("adjust", 1, i -> x.adjust(i, 0, 0));
        VernierSchool empty = new VernierSchool();
        Check.due("no instrument at all", empty.adjust(0, 0, 0), UNKNOWN);
    }

    private static void trapOfSetTrap() {
        Check.sentence("`trap`: 0 to 3");
        VernierSchool x = Schools.instrument(7, 3, 2, true);
        Check.bounds("trap", 0, 3, trap -> x.setTrap(0, trap));
        Check.due("the last one stays", x.instrument(0, 6), 3);
    }

    private static void notAnnouncedThen() {
        Check.sentence("Gives an instrument a trap, which is not announced then.");
        VernierSchool x = Schools.instrument(10, 2, 50, false);
        x.setTrap(0, 3);
        x.announce(0);
        Check.due("announced", x.instrument(0, 7), 1);
        x.setTrap(0, 1);
        Check.due("another is not", x.instrument(0, 7), 0);
        x.announce(0);
        x.setTrap(0, 0);
        Check.due("none is not", x.instrument(0, 7), 0);
        x.setTrap(0, 1);
        Check.due("the same after none is not", x.instrument(0, 7), 0);
        Check.due("and can be announced again", x.announce(0), 0);
    }

    private static void answersOfSetTrap() {
        Check.sentence("Returns the previous trap; UNKNOWN; BAD_VALUE; NONE if it is so already.");
        VernierSchool x = Schools.instrument(10, 2, 50, false);
        Check.due("none already", x.setTrap(0, 0), NONE);
        Check.due("from none", x.setTrap(0, 3), 0);
        Check.due("3 already", x.setTrap(0, 3), NONE);
        Check.due("from 3", x.setTrap(0, 0), 3);
        Check.due("unknown and bad", x.setTrap(1, 4), UNKNOWN);
        Check.due("unknown and bad below", x.setTrap(-1, -1), UNKNOWN);
        Check.numbers("setTrap", 1, i -> x.setTrap(i, 2));
    }

    private static void allPupilsThatThereAre() {
        Check.sentence("Announces the trap of an instrument: all pupils that there are know this"
                + " trap from then on, on all instruments.");
        VernierSchool x = Schools.instrument(10, 2, 50, false);
        x.addInstrument(10, 2, 50, true);
        for (int pupil = 0; pupil < 11; pupil++) {
            x.addPupil(0, 0);
        }
        x.setTrap(0, 3);
        x.setTrap(1, 3);
        Check.due("announce to eleven", x.announce(0), 11);
        Check.due("the first knows it", x.pupil(0, 2), 4);
        Check.due("the last knows it", x.pupil(10, 2), 4);
        Check.due("on the other instrument too", x.answer(10, 1, 46), 46);
        x.addPupil(0, 0);
        Check.due("one who comes later does not", x.pupil(11, 2), 0);
        Check.due("nor on the first instrument", x.answer(11, 0, 46), 66);
    }

    private static void answersOfAnnounce() {
        Check.sentence("Returns how many pupils did not know it before; UNKNOWN; NOT_POSSIBLE if"
                + " it has no trap; NONE if it is announced already (also if pupils do not know"
                + " it).");
        VernierSchool x = Schools.instrument(10, 2, 50, false);
        Check.due("no trap", x.announce(0), NOT_POSSIBLE);
        x.setTrap(0, 2);
        Check.due("no pupils", x.announce(0), 0);
        Check.due("already, no pupils", x.announce(0), NONE);
        x.addPupil(0, 0);
        x.addPupil(0, 0);
        Check.due("already, two do not know it", x.announce(0), NONE);
        Check.due("they still do not", x.pupil(0, 2), 0);
        x.setTrap(0, 1);
        x.teach(0, 1);
        Check.due("one of two", x.announce(0), 1);
        x.setTrap(0, 2);
        x.teach(0, 2);
        x.teach(1, 2);
        Check.due("none of two", x.announce(0), 0);
        x.setTrap(0, 0);
        Check.due("no trap any more", x.announce(0), NOT_POSSIBLE);
        x.setTrap(0, 3);
        Check.numbers("announce", 1, x::announce);
    }

    private static void whatOfInstrument() {
        Check.sentence("`what`: 0 for n, 1 for u, 2 for its main divisions, 3 for whether it is"
                + " retrograde (1, otherwise 0), 4 for its zero error, 5 for its gap, 6 for its"
                + " trap, 7 for whether this is announced (1, otherwise 0), 8 for its greatest"
                + " setting, 9 for the length of a division of its vernier, 10 for the papers"
                + " written with it");
        VernierSchool x = Schools.pair(3, 4, 5, 0, 0);
        x.addInstrument(3, 4, 5, true);
        int[] direct = {3, 4, 5, 0, 0, 0, 0, 0, 60, 8, 0};
        int[] retrograde = {3, 4, 5, 1, -12, 20, 2, 1, 60, 16, 60};
        x.adjust(1, -12, 20);
        x.setTrap(1, 2);
        x.announce(1);
        for (int paper = 0; paper < 60; paper++) {
            x.write(0, 1, paper);
        }
        Check.due("full", x.write(0, 0, 0), FULL);
        for (int what = 0; what <= 10; what++) {
            Check.due("instrument(0, " + what + ")", x.instrument(0, what), direct[what]);
            Check.due("instrument(1, " + what + ")", x.instrument(1, what), retrograde[what]);
        }
        Check.bounds("what", 0, 10, what -> x.instrument(0, what));
        x.undo();
        Check.due("papers after undo", x.instrument(1, 10), 59);
    }

    private static void errorsOfInstrument() {
        Check.sentence("Returns the number; UNKNOWN; BAD_VALUE.");
        VernierSchool x = Schools.instrument(10, 2, 50, false);
        x.addInstrument(10, 2, 50, false);
        Check.numbers("instrument", 2, i -> x.instrument(i, 0));
        Check.due("unknown and bad", x.instrument(2, 11), UNKNOWN);
        Check.due("unknown and bad below", x.instrument(-1, -1), UNKNOWN);
        x.undo();
        Check.due("unknown after undo", x.instrument(1, 0), UNKNOWN);
    }

    private static void seen(VernierSchool x, int instrument, int place, int... due) {
        for (int what = 0; what <= 6; what++) {
            Check.due("coincidence(" + instrument + ", " + place + ", " + what + ")",
                    x.coincidence(instrument, place, what), due[what]);
        }
    }

    private static void placesBeyondBothEnds() {
        Check.sentence("So the main scale has lines 0, 1, 2 and so on at the places 0, n * u, 2 *"
                + " n * u and so on (for coincidence, it is counted on beyond both ends).");
        VernierSchool x = Schools.instrument(2, 1, 2, false);
        x.addInstrument(50, 50, 200, true);
        seen(x, 0, -1000, -500, 0, 0, 0, 0, 1, -1000);
        seen(x, 0, 4, 2, 0, 0, 0, 0, 1, 4);
        seen(x, 0, 5, 2, 1, 1, 0, 1, 1, 5);
        seen(x, 0, 6, 3, 0, 0, 0, 0, 1, 6);
        seen(x, 0, 999999, 499999, 1, 1, 0, 1, 1, 999999);
        seen(x, 0, 1000000, 500000, 0, 0, 0, 0, 1, 1000000);
        seen(x, 1, -1000, -1, 1500, 20, 0, 30, 1, -1000);
        seen(x, 1, 500000, 200, 0, 50, 0, 0, 1, 500000);
        seen(x, 1, 1000000, 400, 0, 50, 0, 0, 1, 1000000);
    }

    private static void placesRoundedDown() {
        Check.sentence("When the line 0 of the vernier is seen at the place p of the main scale,"
                + " then m is p / (n * u), rounded down (m can be negative, or above the last"
                + " line), and r is p - m * n * u.");
        VernierSchool x = Schools.instrument(10, 2, 2, false);
        int[] places = {-41, -40, -21, -20, -19, -1, 0, 1, 19, 20, 39, 40, 41, 59, 60};
        int[] mains = {-3, -2, -2, -1, -1, -1, 0, 0, 0, 1, 1, 2, 2, 2, 3};
        int[] rests = {19, 0, 19, 0, 1, 19, 0, 1, 19, 0, 19, 0, 1, 19, 0};
        for (int i = 0; i < places.length; i++) {
            Check.due("m at " + places[i], x.coincidence(0, places[i], 0), mains[i]);
            Check.due("r at " + places[i], x.coincidence(0, places[i], 1), rests[i]);
        }
    }

    private static void distanceWithoutItsSign() {
        Check.sentence("The distance of the line j of a vernier is how far it is from the line m"
                + " + j of the main scale (a direct one: r - j * u, without its sign), or from the"
                + " line m + j + 1 (a retrograde one: n * u - r - j * u, without its sign).");
        VernierSchool x = Schools.instrument(5, 4, 3, false);
        x.addInstrument(5, 4, 3, true);
        // r is 7, 8 and 9: ahead of the line of the fraction 2, at it, and behind it.
        seen(x, 0, 27, 1, 7, 2, 1, 2, 1, 28);
        seen(x, 0, 28, 1, 8, 2, 0, 2, 1, 28);
        seen(x, 0, 29, 1, 9, 2, 1, 2, 1, 28);
        seen(x, 1, 27, 1, 7, 3, 1, 2, 1, 28);
        seen(x, 1, 28, 1, 8, 3, 0, 2, 1, 28);
        seen(x, 1, 29, 1, 9, 3, 1, 2, 1, 28);
        seen(x, 0, -13, -1, 7, 2, 1, 2, 1, -12);
    }

    private static void lowerFractionOfTwo() {
        Check.sentence("The line that coincides is the one with the least distance. If there are"
                + " two of these, it is the one that tells the lower fraction.");
        VernierSchool x = Schools.instrument(10, 4, 3, false);
        x.addInstrument(10, 4, 3, true);
        seen(x, 0, 2, 0, 2, 0, 2, 0, 2, 0);
        seen(x, 0, 38, 0, 38, 9, 2, 9, 2, 36);
        seen(x, 0, 39, 0, 39, 10, 1, 10, 1, 40);
        seen(x, 1, 2, 0, 2, 10, 2, 0, 2, 0);
        seen(x, 1, 38, 0, 38, 1, 2, 9, 2, 36);
        seen(x, 1, 39, 0, 39, 0, 1, 10, 1, 40);
        seen(x, 1, -2, -1, 38, 1, 2, 9, 2, -4);
        // An odd least count has no middle, and at 1 each place has a line of its own.
        x.addInstrument(10, 3, 3, false);
        x.addInstrument(2, 1, 3, true);
        for (int place = 0; place < 30; place++) {
            Check.due("lines at " + place + " of u 3", x.coincidence(2, place, 5), 1);
            Check.due("lines at " + place + " of u 1", x.coincidence(3, place, 5), 1);
            Check.due("distance at " + place + " of u 1", x.coincidence(3, place, 3), 0);
        }
    }

    private static void fractionThatALineTells() {
        Check.sentence("The fraction k that a line tells is j if the vernier is direct, and n - j"
                + " if it is retrograde.");
        VernierSchool x = Schools.instrument(50, 3, 3, false);
        x.addInstrument(50, 3, 3, true);
        for (int fraction = 0; fraction <= 50; fraction++) {
            int place = Math.min(3 * fraction, 149);
            Check.due("direct line at " + place, x.coincidence(0, place, 2), fraction);
            Check.due("direct fraction at " + place, x.coincidence(0, place, 4), fraction);
            Check.due("retrograde line at " + place, x.coincidence(1, place, 2), 50 - fraction);
            Check.due("retrograde fraction at " + place, x.coincidence(1, place, 4), fraction);
        }
    }

    private static void placeOfCoincidence() {
        Check.sentence("`place`: -1000 to 1000000");
        VernierSchool x = Schools.instrument(2, 1, 2, false);
        x.addInstrument(50, 50, 200, true);
        for (int what = 0; what <= 6; what++) {
            int asked = what;
            Check.bounds("place, of " + what, -1000, 1000000, p -> x.coincidence(0, p, asked));
            Check.bounds("place, of " + what, -1000, 1000000, p -> x.coincidence(1, p, asked));
        }
    }

    private static void whatOfCoincidence() {
        Check.sentence("`what`: 0 for m, 1 for r, 2 for the line that coincides, 3 for its"
                + " distance, 4 for the fraction that it tells, 5 for the number of lines with"
                + " this least distance, 6 for the reading");
        VernierSchool x = Schools.instrument(10, 2, 50, true);
        x.addPupil(50, 15);
        x.adjust(0, -20, 20);
        x.setTrap(0, 3);
        seen(x, 0, -1000, -50, 0, 10, 0, 0, 1, -1000);
        seen(x, 0, 1000000, 50000, 0, 10, 0, 0, 1, 1000000);
        seen(x, 0, 53, 2, 13, 4, 1, 6, 2, 52);
        Check.bounds("what", 0, 6, what -> x.coincidence(0, 53, what));
    }

    private static void errorsOfCoincidence() {
        Check.sentence("Returns the number; UNKNOWN; BAD_VALUE.");
        VernierSchool x = Schools.instrument(10, 2, 50, true);
        x.addInstrument(10, 2, 50, false);
        Check.numbers("coincidence", 2, i -> x.coincidence(i, 0, 0));
        Check.due("unknown, bad place", x.coincidence(2, -1001, 0), UNKNOWN);
        Check.due("unknown, bad what", x.coincidence(2, 0, 7), UNKNOWN);
        Check.due("bad place and what", x.coincidence(1, 1000001, 7), BAD_VALUE);
        Check.due("no instrument at all", new VernierSchool().coincidence(0, 0, 0), UNKNOWN);
    }
}

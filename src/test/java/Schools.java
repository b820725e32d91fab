/** Schools that tests begin with. */
final class Schools {
    private Schools() {
    }

    /** One instrument and no pupil. */
    static VernierSchool instrument(int n, int u, int lines, boolean retrograde) {
        VernierSchool x = new VernierSchool();
        x.addInstrument(n, u, lines, retrograde);
        return x;
    }

    /** A direct instrument, and a pupil who knows no trap. */
    static VernierSchool pair(int n, int u, int lines, int eye, int habits) {
        VernierSchool x = instrument(n, u, lines, false);
        x.addPupil(eye, habits);
        return x;
    }

    /** The instrument 10, 2, 50 (its greatest setting is 1000), and a pupil without weakness. */
    static VernierSchool plain() {
        return pair(10, 2, 50, 0, 0);
    }

    /** A pupil for each row of even marks, who gets these marks, and no history that matters. */
    static VernierSchool withMarks(int[][] marks) {
        VernierSchool x = new VernierSchool();
        // By trap 1 a setting s below 12 is answered by 12 - s: the mark is 2 * s - 2.
        x.addInstrument(12, 1, 2, false);
        x.setTrap(0, 1);
        for (int pupil = 0; pupil < marks.length; pupil++) {
            x.addPupil(0, 0);
        }
        for (int pupil = 0; pupil < marks.length; pupil++) {
            for (int mark : marks[pupil]) {
                Check.due("rank: mark", x.write(pupil, 0, (mark + 2) / 2), mark);
            }
        }
        return x;
    }

    /** All that is told of the first rows of a state; nothing of the text and the history. */
    static String told(VernierSchool x, int rows) {
        StringBuilder told = new StringBuilder();
        for (int what = 0; what <= 6; what++) {
            told.append(x.count(what)).append(' ');
        }
        for (int row = 0; row < rows; row++) {
            for (int what = 0; what <= 10; what++) {
                told.append(x.instrument(row, what)).append(' ');
            }
            for (int what = 0; what <= 8; what++) {
                told.append(x.pupil(row, what)).append(' ');
            }
            for (int what = 0; what <= 7; what++) {
                told.append(x.paper(row, what)).append(' ');
            }
            told.append(x.ranked(row)).append(' ').append(x.waiting(row)).append('\n');
        }
        return told.toString();
    }
}

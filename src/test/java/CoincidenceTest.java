/** Promise 21: coincidence, by hand and against the lines of every instrument counted out. */
final class CoincidenceTest {
    public static void main(String[] args) {
        direct();
        retrograde();
        wrongly();
        unadjusted();
        everyLineCountedOut();
        Check.end();
    }

    private static void all(VernierSchool x, int instrument, int place, int... due) {
        for (int what = 0; what <= 6; what++) {
            Check.due("coincidence(" + instrument + ", " + place + ", " + what + ")",
                    x.coincidence(instrument, place, what), due[what]);
        }
    }

    private static void direct() {
        VernierSchool x = new VernierSchool();
        x.addInstrument(10, 2, 50, false);
        x.addInstrument(4, 5, 10, false);
        all(x, 0, 46, 2, 6, 3, 0, 3, 1, 46);
        all(x, 0, 47, 2, 7, 3, 1, 3, 2, 46);
        all(x, 0, 0, 0, 0, 0, 0, 0, 1, 0);
        all(x, 0, 39, 1, 19, 9, 1, 9, 2, 38);
        all(x, 0, -1, -1, 19, 9, 1, 9, 2, -2);
        all(x, 0, -1000, -50, 0, 0, 0, 0, 1, -1000);
        all(x, 1, 18, 0, 18, 4, 2, 4, 1, 20);
        all(x, 1, 17, 0, 17, 3, 2, 3, 1, 15);
        all(x, 1, 1000000, 50000, 0, 0, 0, 0, 1, 1000000);
    }

    private static void retrograde() {
        VernierSchool x = new VernierSchool();
        x.addInstrument(10, 2, 50, true);
        x.addInstrument(4, 5, 10, true);
        all(x, 0, 46, 2, 6, 7, 0, 3, 1, 46);
        all(x, 0, 47, 2, 7, 7, 1, 3, 2, 46);
        all(x, 0, 0, 0, 0, 10, 0, 0, 1, 0);
        all(x, 1, 18, 0, 18, 0, 2, 4, 1, 20);
        all(x, 1, 17, 0, 17, 1, 2, 3, 1, 15);
        all(x, 1, -7, -1, 13, 1, 2, 3, 1, -5);
    }

    private static void wrongly() {
        VernierSchool x = new VernierSchool();
        Check.due("coincidence: no instrument", x.coincidence(0, -1001, 7), VernierSchool.UNKNOWN);
        x.addInstrument(10, 2, 50, true);
        int bad = VernierSchool.BAD_VALUE;
        Check.due("coincidence: instrument -1", x.coincidence(-1, 0, 0), VernierSchool.UNKNOWN);
        Check.due("coincidence: instrument 1", x.coincidence(1, 0, 0), VernierSchool.UNKNOWN);
        Check.due("coincidence: place -1001", x.coincidence(0, -1001, 0), bad);
        Check.due("coincidence: place 1000001", x.coincidence(0, 1000001, 0), bad);
        Check.due("coincidence: what -1", x.coincidence(0, 0, -1), bad);
        Check.due("coincidence: what 7", x.coincidence(0, 0, 7), bad);
        Check.due("coincidence: no state", x.count(7), 1);
    }

    /** The zero error, the gap and the trap play no part. */
    private static void unadjusted() {
        VernierSchool x = new VernierSchool();
        x.addInstrument(10, 2, 50, false);
        x.adjust(0, 7, 20);
        x.setTrap(0, 1);
        all(x, 0, 46, 2, 6, 3, 0, 3, 1, 46);
    }

    private static void everyLineCountedOut() {
        int[] divisions = {2, 3, 10, 49, 50};
        int[] leasts = {1, 2, 3, 10, 49, 50};
        for (int n : divisions) {
            for (int u : leasts) {
                compareLines(n, u, false);
                compareLines(n, u, true);
            }
        }
    }

    private static void compareLines(int n, int u, boolean retrograde) {
        for (int from = -1000; from < 5200; from += 60) {
            VernierSchool x = new VernierSchool();
            x.addInstrument(n, u, 2, retrograde);
            for (int place = from; place < from + 60; place++) {
                all(x, 0, place, counted(n, u, retrograde, place));
            }
        }
    }

    /** The places of the lines themselves, as the document's first part gives them. */
    private static int[] counted(int n, int u, boolean retrograde, int place) {
        int m = (int) Math.floor((double) place / (n * u));
        int r = place - m * n * u;
        int division = (retrograde ? n + 1 : n - 1) * u;
        int line = -1;
        int least = Integer.MAX_VALUE;
        int fraction = -1;
        int number = 0;
        for (int j = 0; j <= n; j++) {
            int vernierLine = place + j * division;
            int mainLine = (retrograde ? m + j + 1 : m + j) * n * u;
            int distance = Math.abs(vernierLine - mainLine);
            int told = retrograde ? n - j : j;
            number = distance < least ? 1 : distance == least ? number + 1 : number;
            if (distance < least || (distance == least && told < fraction)) {
                least = distance;
                line = j;
                fraction = told;
            }
        }
        return new int[] {m, r, line, least, fraction, number, m * n * u + fraction * u};
    }
}

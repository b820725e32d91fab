/** Promises 12 to 14: type, clearText, readPapers. */
final class TextTest {
    public static void main(String[] args) {
        typeAndClear();
        textIsNoState();
        faults();
        faultOfEveryCharacter();
        readPapers();
        readAllOrNone();
        readUntilFull();
        longestTexts();
        Check.end();
    }

    private static void typeAndClear() {
        VernierSchool x = new VernierSchool();
        Check.due("clear: empty", x.clearText(), 0);
        Check.due("type: ordinary", x.type('0'), 1);
        Check.due("type: 0", x.type((char) 0), 2);
        Check.due("type: greatest", x.type((char) 65535), 3);
        Check.due("clear: three", x.clearText(), 3);
        Check.due("clear: again", x.clearText(), 0);
        for (int length = 1; length <= 60; length++) {
            Check.due("type: length", x.type('7'), length);
        }
        Check.due("type: full", x.type('7'), VernierSchool.FULL);
        Check.due("type: count", x.count(8), 60);
        Check.due("clear: sixty", x.clearText(), 60);
        Check.due("type: room again", x.type('7'), 1);
    }

    private static void textIsNoState() {
        VernierSchool x = new VernierSchool();
        x.addPupil(0, 0);
        x.keep();
        x.type('4');
        Check.due("text: no state", x.count(7), 1);
        x.restore();
        Check.due("text: restore leaves it", x.count(8), 1);
        x.undo();
        x.undo();
        Check.due("text: undo leaves it", x.count(8), 1);
        x.clearText();
        Check.due("text: clearText is no act", x.undo(), VernierSchool.NONE);
    }

    private static void faultIs(String text, int fault) {
        VernierSchool x = new VernierSchool();
        Check.typeAll(x, text);
        Check.due("fault of " + text, x.readPapers(), fault < 0 ? VernierSchool.UNKNOWN
                : -100 - fault);
        Check.due("text stays: " + text, x.count(8), text.length());
    }

    private static void faults() {
        faultIs("", 0);
        faultIs("0", 1);
        faultIs("10", 2);
        faultIs("0/", 2);
        faultIs("0/1", 3);
        faultIs("0/10", 4);
        faultIs("0/0@", 4);
        faultIs("0/0@0;", 6);
        faultIs("0/0@12;3", 8);
        faultIs("x", 0);
        faultIs("/0@0", 0);
        faultIs("0@0", 1);
        faultIs("0/0/0", 3);
        faultIs("0/@0", 2);
        faultIs("00/0@0", 1);
        faultIs("01/0@0", 1);
        faultIs("100/0@0", 2);
        faultIs("0/00@0", 3);
        faultIs("0/07@0", 3);
        faultIs("0/123@0", 4);
        faultIs("0/0@00", 5);
        faultIs("0/0@05", 5);
        faultIs("0/0@1234567", 10);
        faultIs("0/0@;", 4);
        faultIs("0/0@1;;", 6);
        faultIs("0/0@1; 0/0@1", 6);
        faultIs("0/0@-1", 4);
        faultIs(" 0/0@1", 0);
        faultIs("0/0@1 ", 5);
        faultIs("0/0@1/", 5);
        faultIs("0/0@1;0/0@01", 11);
        faultIs("0/0@1;0/0@1;x", 12);
        faultIs("0/0@0", -1);
        faultIs("10/90@999999", -1);
        faultIs("99/10@100000;0/0@0", -1);
    }

    /** At each place of a paper just what the document allows, of all characters to 300. */
    private static void faultOfEveryCharacter() {
        String[] fronts = {"", "1", "12", "1/", "1/2", "1/23", "1/2@", "1/2@3", "1/2@345678", "0"};
        String digits = "0123456789";
        String[] allowed = {digits, digits + "/", "/", digits, digits + "@", "@", digits,
            digits + ";", ";", "/"};
        for (int i = 0; i < fronts.length; i++) {
            for (char c = 0; c <= 300; c++) {
                boolean fits = allowed[i].indexOf(c) >= 0;
                String text = fronts[i] + c;
                boolean ends = text.matches("[0-9]+/[0-9]+@[0-9]+");
                faultIs(text, fits && ends ? -1 : fits ? text.length() : fronts[i].length());
            }
        }
        faultIs("1/2@" + (char) (65536 - 256 + '3'), 4);
    }

    private static VernierSchool school() {
        VernierSchool x = new VernierSchool();
        x.addInstrument(10, 2, 50, false);
        x.addInstrument(5, 4, 10, true);
        x.addPupil(0, 0);
        x.addPupil(0, 8);
        x.adjust(1, 4, 0);
        return x;
    }

    private static void readPapers() {
        VernierSchool x = school();
        Check.typeAll(x, "1/1@20;0/0@1000;1/0@47");
        Check.due("read: marks", x.readPapers(), 29);
        Check.due("read: papers", x.count(2), 3);
        int[][] papers = {{1, 1, 20, 24, 9}, {0, 0, 1000, 1000, 10}, {1, 0, 47, 46, 10}};
        for (int paper = 0; paper < 3; paper++) {
            for (int what = 0; what <= 4; what++) {
                Check.due("read: paper " + paper + ", " + what, x.paper(paper, what),
                        papers[paper][what]);
            }
        }
        Check.due("read: of the pupil", x.pupil(1, 3), 2);
        Check.due("read: marks of the pupil", x.pupil(1, 4), 19);
        Check.due("read: of the instrument", x.instrument(0, 10), 2);
        Check.due("read: the text stays", x.count(8), 22);
        Check.due("read: again", x.readPapers(), 29);
        Check.due("read: six papers", x.count(2), 6);
        x.undo();
        Check.due("read: one act", x.count(2), 3);
        x.undo();
        Check.due("read: no papers", x.count(2), 0);
        Check.due("read: none of the pupil", x.pupil(1, 3), 0);
    }

    private static void readAllOrNone() {
        VernierSchool x = school();
        String[] unknown = {"2/0@0", "0/2@0", "0/0@0;12/0@0", "0/0@0;0/10@0", "0/0@1001;0/2@0",
            "99/99@999999"};
        for (String text : unknown) {
            x.clearText();
            Check.typeAll(x, text);
            Check.due("read: " + text, x.readPapers(), VernierSchool.UNKNOWN);
        }
        String[] bad = {"0/0@1001", "0/1@201", "0/0@0;0/1@999999", "1/0@1000;1/0@1001;1/0@1"};
        for (String text : bad) {
            x.clearText();
            Check.typeAll(x, text);
            Check.due("read: " + text, x.readPapers(), VernierSchool.BAD_VALUE);
        }
        x.clearText();
        Check.typeAll(x, "2/2@99999;0/0@01");
        Check.due("read: the fault is ahead of all", x.readPapers(), -115);
        Check.due("read: none was written", x.count(2), 0);
        Check.due("read: no state", x.count(7), 4);
        x.undo();
        Check.due("read: the latest state was the zero error", x.instrument(1, 4), 0);
    }

    private static void readUntilFull() {
        VernierSchool x = school();
        Check.typeAll(x, "0/0@1;0/0@2;0/0@3");
        for (int i = 1; i <= 19; i++) {
            Check.due("full: read", x.readPapers(), 30);
        }
        x.write(0, 0, 0);
        Check.due("full: 58 papers", x.readPapers(), VernierSchool.FULL);
        Check.due("full: none of three", x.count(2), 58);
        x.undo();
        Check.due("full: 57 papers", x.readPapers(), 30);
        Check.due("full: sixty", x.count(2), 60);
        Check.due("full: 60 papers", x.readPapers(), VernierSchool.FULL);
        x.clearText();
        Check.typeAll(x, "0/0@1001");
        Check.due("full: bad value ahead of full", x.readPapers(), VernierSchool.BAD_VALUE);
        x.clearText();
        Check.typeAll(x, "2/0@1001");
        Check.due("full: unknown ahead of full", x.readPapers(), VernierSchool.UNKNOWN);
    }

    private static void longestTexts() {
        VernierSchool x = school();
        Check.typeAll(x, "0/0@2;0/0@2;0/0@2;0/0@2;0/0@2;0/0@2;0/0@2;0/0@2;0/0@2;0/0@2");
        Check.due("long: ten papers", x.readPapers(), 100);
        Check.due("long: ten were written", x.count(2), 10);
        x.type(';');
        Check.due("long: ends too early", x.readPapers(), -160);
        Check.due("long: full", x.type('0'), VernierSchool.FULL);
        x.clearText();
        Check.typeAll(x, "10/10@100000;10/10@100000;10/10@100000;10/10@100000;10/10@12");
        Check.due("long: sixty", x.count(8), 60);
        Check.due("long: no fault", x.readPapers(), VernierSchool.UNKNOWN);
    }
}

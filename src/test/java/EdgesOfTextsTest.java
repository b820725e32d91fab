/**
 * The edges that the document names for texts (promises 12 to 14): a test for each sentence of it
 * that names one.
 */
final class EdgesOfTextsTest {
    private static final int BAD_VALUE = VernierSchool.BAD_VALUE;
    private static final int FULL = VernierSchool.FULL;
    private static final int UNKNOWN = VernierSchool.UNKNOWN;

    public static void main(String[] args) {
        mostCharacters();
        oneOrMorePapers();
        shapeOfAPaper();
        pupilAndInstrumentDigits();
        settingDigits();
        zerosInFront();
        firstCharacterNotAllowed();
        textThatEndsTooEarly();
        playsNoPart();
        anyCharacter();
        answersOfType();
        answersOfClearText();
        textStays();
        allOrNone();
        oneAct();
        sumOfTheMarks();
        errorsInTheirOrder();
        unknownInAnyOfThem();
        badValueInAnyOfThem();
        placesLeft();
        Check.end();
    }

    /** No pupil and no instrument: a text without a fault is UNKNOWN. */
    private static void read(String text, int due) {
        VernierSchool x = new VernierSchool();
        Check.typeAll(x, text);
        Check.due("reading \"" + text + "\"", x.readPapers(), due);
    }

    private static void faultless(String... texts) {
        for (String text : texts) {
            read(text, UNKNOWN);
        }
    }

    private static void mostCharacters() {
        Check.sentence("There is a text of at most 60 characters, empty at first.");
        VernierSchool x = new VernierSchool();
        Check.due("the length at first", x.count(8), 0);
        Check.due("clearText at first", x.clearText(), 0);
        Check.due("readPapers at first", x.readPapers(), -100);
        for (int length = 1; length <= 60; length++) {
            Check.due("type", x.type(';'), length);
            Check.due("the length", x.count(8), length);
        }
        Check.due("one more", x.type(';'), FULL);
        Check.due("the length of sixty", x.count(8), 60);
    }

    private static void oneOrMorePapers() {
        Check.sentence("A text of papers is one or more papers with \";\" between two.");
        faultless("0/0@0", "0/0@0;0/0@0", "0/0@0;0/0@0;0/0@0;0/0@0;0/0@0");
        faultless("0/0@0;0/0@0;0/0@0;0/0@0;0/0@0;0/0@0;0/0@0;0/0@0;0/0@0;0/0@0");
        read("", -100);
        read(";", -100);
        read(";0/0@0", -100);
        read("0/0@0;", -106);
        read("0/0@0;;0/0@0", -106);
        read("0/0@0,0/0@0", -105);
        read("0/0@00/0@0", -105);
    }

    private static void shapeOfAPaper() {
        Check.sentence("A paper is: the pupil, \"/\", the instrument, \"@\", the setting;");
        faultless("1/2@3", "12/34@567890");
        read("1@2/3", -101);
        read("1/2/3", -103);
        read("1//2@3", -102);
        read("1/2@@3", -104);
        read("1/2@3/4", -105);
        read("1/2@3@4", -105);
        read("/2@3", -100);
        read("1/@3", -102);
        read("1/2@", -104);
        read("1/2", -103);
        read("1", -101);
    }

    private static void pupilAndInstrumentDigits() {
        Check.sentence("pupil and instrument are numbers of one or two digits,");
        faultless("0/0@0", "9/9@0", "10/10@0", "99/99@0");
        read("100/0@0", -102);
        read("999/0@0", -102);
        read("0/100@0", -104);
        read("0/999@0", -104);
        read("-1/0@0", -100);
        read("0/+1@0", -102);
    }

    private static void settingDigits() {
        Check.sentence("the setting of one to six digits,");
        faultless("0/0@1", "0/0@12", "0/0@123", "0/0@1234", "0/0@12345", "0/0@123456",
                "0/0@999999");
        read("0/0@1234567", -110);
        read("0/0@9999999999", -110);
        read("0/0@123456;0/0@1234567", -121);
        read("0/0@-1", -104);
        VernierSchool x = Schools.pair(50, 50, 200, 0, 0);
        Check.typeAll(x, "0/0@500000;0/0@99950");
        Check.due("six and five digits", x.readPapers(), 20);
        Check.due("the setting of six", x.paper(0, 2), 500000);
        Check.due("the setting of five", x.paper(1, 2), 99950);
    }

    private static void zerosInFront() {
        Check.sentence("all without zeros in front (unless it is the single digit 0).");
        faultless("0/0@0", "10/20@30", "90/90@100000");
        read("00/0@0", -101);
        read("01/0@0", -101);
        read("0/00@0", -103);
        read("0/01@0", -103);
        read("0/0@00", -105);
        read("0/0@01", -105);
        read("0/0@0123456", -105);
        read("0/0@0;01/0@0", -107);
    }

    private static void firstCharacterNotAllowed() {
        Check.sentence("The fault of the text is the index, from 0, of the first character that is"
                + " not allowed at its place,");
        read("x", -100);
        read(" 0/0@0", -100);
        read("0 /0@0", -101);
        read("0/0@0 ", -105);
        read("0/0@0;x;;", -106);
        read("0/x@x", -102);
        // The last of sixty characters, behind nine papers.
        String papers = "0/0@0;0/0@0;0/0@0;0/0@0;0/0@0;0/0@0;0/0@0;0/0@0;0/0@0;0/0@0";
        read(papers + "x", -159);
        read(papers + "1", -159);
        read(papers.substring(0, 58) + "x", -158);
        // These are no digits, though they look like some or end in the same bits.
        char[] others = {(char) 0, (char) ('0' - 1), (char) ('9' + 1), (char) ('0' + 256),
            (char) ('0' + 128), (char) 0x0660, (char) 0xff10, (char) 65535};
        for (char other : others) {
            read(other + "/0@0", -100);
            read("1" + other + "/0@0", -101 - (other == '/' ? 1 : 0));
            read("0/0@1" + other, -105);
        }
    }

    private static void textThatEndsTooEarly() {
        Check.sentence("or the length of the text if it ends too early (the empty text does).");
        String text = "12/34@567890;1/2@3";
        for (int length = 0; length <= text.length(); length++) {
            boolean whole = length >= 7 && length <= 12 || length == text.length();
            read(text.substring(0, length), whole ? UNKNOWN : -100 - length);
        }
        read("0/0@0;0/0@0;0/0@0;0/0@0;0/0@0;0/0@0;0/0@0;0/0@0;0/0@0;0/0@0;", -160);
        read("10/10@100000;10/10@100000;10/10@100000;10/10@100000;10/10@0;", -160);
        VernierSchool x = Schools.plain();
        Check.typeAll(x, "0/0@0");
        Check.due("a whole text", x.readPapers(), 10);
        x.clearText();
        Check.due("the empty text again", x.readPapers(), -100);
    }

    private static void playsNoPart() {
        Check.sentence("Whether there is such a pupil or instrument, or such a setting, plays no"
                + " part in this.");
        VernierSchool x = Schools.plain();
        Check.typeAll(x, "99/99@999999;0/0@1001;x");
        Check.due("the fault", x.readPapers(), -122);
        x.clearText();
        Check.typeAll(x, "99/99@999999");
        Check.due("no fault", x.readPapers(), UNKNOWN);
    }

    private static void anyCharacter() {
        Check.sentence("`character`: any character");
        char[] characters = {(char) 0, '\n', ' ', '0', (char) 127, (char) 128, (char) 255,
            (char) 256, (char) 0xd800, (char) 65535};
        VernierSchool x = new VernierSchool();
        for (int i = 0; i < characters.length; i++) {
            Check.due("type " + (int) characters[i], x.type(characters[i]), i + 1);
        }
    }

    private static void answersOfType() {
        Check.sentence("Returns the length of the text then; FULL if it has 60 characters.");
        VernierSchool x = new VernierSchool();
        Check.due("the first", x.type('0'), 1);
        for (int length = 2; length <= 59; length++) {
            x.type('0');
        }
        Check.due("the sixtieth", x.type('0'), 60);
        Check.due("full", x.type('0'), FULL);
        Check.due("full again", x.type((char) 0), FULL);
        Check.due("no act", x.count(7), 0);
        x.clearText();
        Check.due("the first again", x.type('0'), 1);
    }

    private static void answersOfClearText() {
        Check.sentence("Returns the length that it had.");
        VernierSchool x = new VernierSchool();
        Check.due("empty", x.clearText(), 0);
        x.type('0');
        Check.due("one", x.clearText(), 1);
        Check.due("empty again", x.clearText(), 0);
        for (int length = 1; length <= 61; length++) {
            x.type('0');
        }
        Check.due("sixty", x.clearText(), 60);
        Check.due("no act", x.count(7), 0);
    }

    private static void textStays() {
        Check.sentence("Lets the papers of the text, which stays, be written, in their order;");
        VernierSchool x = Schools.plain();
        Check.typeAll(x, "0/0@1;0/0@2;0/0@3");
        for (int time = 0; time < 2; time++) {
            Check.due("read", x.readPapers(), 30);
            for (int paper = 0; paper < 3; paper++) {
                Check.due("setting", x.paper(3 * time + paper, 2), paper + 1);
            }
        }
        Check.due("the length", x.count(8), 17);
        Check.due("goes on behind it", x.type('0'), 18);
        Check.due("read what was typed on", x.readPapers(), 30);
        Check.due("the last setting", x.paper(8, 2), 30);
        // A shorter text in place of a longer one leaves nothing of it.
        x.clearText();
        Check.typeAll(x, "0/0@4");
        Check.due("a shorter text", x.readPapers(), 10);
        Check.due("one paper", x.count(2), 10);
    }

    private static void allOrNone() {
        Check.sentence("all of them, or none.");
        String[] texts = {"0/0@1;0/0@2;x", "0/0@1;0/0@2;1/0@3", "0/0@1;0/0@2;0/1@3",
            "0/0@1;0/0@2;0/0@1001", "0/0@1;0/0@2;0/0@3"};
        for (int i = 0; i < texts.length; i++) {
            VernierSchool x = Schools.plain();
            for (int paper = 0; i == 4 && paper < 58; paper++) {
                x.write(0, 0, 0);
            }
            int papers = x.count(2);
            String before = Schools.told(x, 1);
            Check.typeAll(x, texts[i]);
            Check.isTrue("not read: " + texts[i], x.readPapers() <= -100);
            Check.due("none of " + texts[i], x.count(2), papers);
            Check.isTrue("the state after " + texts[i], Schools.told(x, 1).equals(before));
        }
    }

    private static void oneAct() {
        Check.sentence("This is one act.");
        VernierSchool x = new VernierSchool();
        x.addInstrument(10, 2, 50, false);
        x.addPupil(0, 0);
        Check.typeAll(x, "0/0@0;0/0@0;0/0@0;0/0@0;0/0@0;0/0@0;0/0@0;0/0@0;0/0@0;0/0@0");
        Check.due("ten papers", x.readPapers(), 100);
        Check.due("one state more", x.count(7), 3);
        Check.due("undo", x.undo(), 2);
        Check.due("all ten are gone", x.count(2), 0);
        Check.due("the pupil is not", x.count(1), 1);
    }

    private static void sumOfTheMarks() {
        Check.sentence("Returns the sum of their marks;");
        VernierSchool x = Schools.plain();
        Check.typeAll(x, "0/0@0;0/0@0;0/0@0;0/0@0;0/0@0;0/0@0;0/0@0;0/0@0;0/0@0;0/0@0");
        Check.due("the greatest sum", x.readPapers(), 100);
        x.setTrap(0, 3);
        Check.due("the sum 0 is no error", x.readPapers(), 0);
        Check.due("all were written", x.count(2), 20);
    }

    private static void errorsInTheirOrder() {
        Check.sentence("-100 minus the fault of the text if it has one (which is an error);"
                + " UNKNOWN if there is no such pupil or instrument in any of them; then BAD_VALUE"
                + " if any setting is none of its instrument; then FULL if there are not so many"
                + " places left.");
        VernierSchool x = Schools.plain();
        String[] texts = {"0/0@1;0/0@1001;1/0@1;x", "0/0@1;0/0@1001;1/0@1", "0/0@1;0/0@1001",
            "0/0@1"};
        int[] due = {-121, UNKNOWN, BAD_VALUE, FULL};
        for (int paper = 0; paper < 60; paper++) {
            x.write(0, 0, 0);
        }
        for (int i = 0; i < texts.length; i++) {
            x.clearText();
            Check.typeAll(x, texts[i]);
            Check.due("full: " + texts[i], x.readPapers(), due[i]);
        }
        Check.due("a fault is an error: no act", x.count(7), 4);
        x.undo();
        Check.due("room again", x.readPapers(), 10);
    }

    private static void refused(VernierSchool x, int due, String... texts) {
        for (String text : texts) {
            x.clearText();
            Check.typeAll(x, text);
            Check.due(text, x.readPapers(), due);
        }
    }

    private static void unknownInAnyOfThem() {
        Check.sentence("UNKNOWN if there is no such pupil or instrument in any of them;");
        VernierSchool x = Schools.plain();
        refused(x, UNKNOWN, "1/0@0", "0/1@0", "99/0@0", "0/99@0", "1/0@0;0/0@0", "0/0@0;0/1@0",
                "0/0@0;1/0@0;0/0@0", "0/0@1001;0/1@0", "0/1@999999");
        refused(new VernierSchool(), UNKNOWN, "0/0@0");
        refused(Schools.instrument(10, 2, 50, false), UNKNOWN, "0/0@0");
        x.addPupil(0, 0);
        refused(x, 10, "1/0@0");
        x.undo();
        x.undo();
        refused(x, UNKNOWN, "1/0@0");
    }

    private static void badValueInAnyOfThem() {
        Check.sentence("then BAD_VALUE if any setting is none of its instrument;");
        VernierSchool x = Schools.plain();
        x.addInstrument(2, 1, 2, true);
        refused(x, BAD_VALUE, "0/0@1001", "0/0@999999", "0/1@5", "0/1@5;0/0@0", "0/0@5;0/1@5",
                "0/0@0;0/0@1001;0/0@0");
        refused(x, 10, "0/0@1000", "0/0@0", "0/1@4", "0/1@0");
        refused(x, 20, "0/0@5;0/1@4");
    }

    private static void placesLeft() {
        Check.sentence("then FULL if there are not so many places left.");
        VernierSchool x = Schools.plain();
        Check.typeAll(x, "0/0@0;0/0@2;0/0@4");
        for (int paper = 0; paper < 57; paper++) {
            x.write(0, 0, 6);
        }
        Check.due("three places for three", x.readPapers(), 30);
        Check.due("sixty papers", x.count(2), 60);
        Check.due("no place for three", x.readPapers(), FULL);
        x.undo();
        x.write(0, 0, 6);
        Check.due("two places for three", x.readPapers(), FULL);
        Check.due("none of them", x.count(2), 58);
        x.clearText();
        Check.typeAll(x, "0/0@0;0/0@2");
        Check.due("two places for two", x.readPapers(), 20);
        Check.due("the last paper", x.paper(59, 2), 2);
    }
}

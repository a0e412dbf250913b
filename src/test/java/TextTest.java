/** Promises 8 to 12: the text and the code book. */
public final class TextTest {
    private static final int MIN = Integer.MIN_VALUE;
    private static final int MAX = Integer.MAX_VALUE;
    private static final Check check = new Check();

    public static void main(String[] args) {
        type();
        clearText();
        addWord();
        addWordUntilFull();
        removeWord();
        signCountOfFaults();
        signCountOfWords();
        check.end();
    }

    private static void type() {
        check.part("promise 8");
        OpticalTelegraph x = new OpticalTelegraph();
        char[] any = {'a', ' ', 'z', '\0', '\uffff', 'A', (char) 233, '\n', (char) 0x4e00};
        for (int i = 0; i < 60; i++) {
            check.due("type", x.type(any[i % any.length]), i + 1);
        }
        check.due("type('a')", x.type('a'), -5);
        check.due("type(0)", x.type('\0'), -5);
        check.due("signCount()", x.signCount(), -103);
        check.due("clearText()", x.clearText(), 60);
        check.due("type('q')", x.type('q'), 1);
        // What was refused is not in the text.
        x.clearText();
        for (int i = 0; i < 60; i++) {
            x.type('a');
        }
        check.due("type('!')", x.type('!'), -5);
        check.due("signCount()", x.signCount(), 61);
    }

    private static void clearText() {
        check.part("promise 9");
        OpticalTelegraph x = new OpticalTelegraph();
        check.due("clearText()", x.clearText(), 0);
        Check.write(x, "a!b");
        check.due("clearText()", x.clearText(), 3);
        check.due("clearText()", x.clearText(), 0);
        check.due("signCount()", x.signCount(), -100);
        check.due("type('b')", x.type('b'), 1);
        check.due("signCount()", x.signCount(), 2);
    }

    private static void addWord() {
        check.part("promise 10");
        OpticalTelegraph x = new OpticalTelegraph();
        check.due("addWord of an empty text", x.addWord(40, 40), -3);
        for (String bad : new String[] {"abcdefghijk", "a b", " a", "a ", "A", "aB", "{", "`", " ", "ab\u00e4", "\uffff"}) {
            Check.write(x, bad);
            check.due("addWord of '" + bad + "'", x.addWord(40, 40), -3);
        }
        Check.write(x, "abcdefghij");
        for (int[] bad : new int[][] {{29, 40}, {96, 40}, {40, 29}, {40, 96}, {MIN, 40}, {40, MAX}, {-1, -1}, {0, 0}}) {
            check.due("addWord(" + bad[0] + ", " + bad[1] + ")", x.addWord(bad[0], bad[1]), -3);
        }
        check.due("value(4)", x.value(4), 0);
        check.due("addWord(30, 95)", x.addWord(30, 95), 1);
        check.due("the text stays", x.signCount(), 3);
        check.due("addWord(30, 95)", x.addWord(30, 95), -4);
        check.due("addWord(31, 95)", x.addWord(31, 95), -4);
        check.due("addWord(29, 95)", x.addWord(29, 95), -3);
        Check.write(x, "abcdefghi");
        check.due("a beginning of a word is another word", x.addWord(95, 30), 2);
        Check.write(x, "z");
        check.due("addWord(95, 30)", x.addWord(95, 30), -4);
        check.due("addWord(30, 95)", x.addWord(30, 95), -4);
        check.due("addWord(30, 30)", x.addWord(30, 30), 3);
        check.due("value(4)", x.value(4), 3);
        check.due("clearText()", x.clearText(), 1);
    }

    private static void addWordUntilFull() {
        check.part("promise 10");
        OpticalTelegraph x = new OpticalTelegraph();
        for (int i = 0; i < 20; i++) {
            x.clearText();
            x.type((char) ('a' + i));
            check.due("addWord(50, " + (60 + i) + ")", x.addWord(50, 60 + i), i + 1);
        }
        check.due("addWord(51, 60)", x.addWord(51, 60), -4);
        Check.write(x, "zz");
        check.due("addWord(50, 79)", x.addWord(50, 79), -4);
        check.due("addWord(50, 80)", x.addWord(50, 80), -5);
        check.due("addWord(50, 96)", x.addWord(50, 96), -3);
        check.due("value(4)", x.value(4), 20);
        check.due("signCount()", x.signCount(), 3);
        Check.write(x, "t");
        check.due("signCount()", x.signCount(), 3);
        check.due("removeWord()", x.removeWord(), 19);
        check.due("signCount()", x.signCount(), 2);
        Check.write(x, "zz");
        check.due("addWord(50, 79)", x.addWord(50, 79), 20);
    }

    private static void removeWord() {
        check.part("promise 11");
        OpticalTelegraph x = new OpticalTelegraph();
        check.due("removeWord of an empty text", x.removeWord(), -6);
        String[] words = {"one", "two", "three"};
        for (int i = 0; i < 3; i++) {
            Check.write(x, words[i]);
            x.addWord(30 + i, 40);
        }
        Check.send(x, "one two three", 0, 1, 0);
        check.due("removeWord of three words", x.removeWord(), -6);
        Check.write(x, "on");
        check.due("removeWord of 'on'", x.removeWord(), -6);
        Check.write(x, "ones");
        check.due("removeWord of 'ones'", x.removeWord(), -6);
        Check.write(x, "O ?");
        check.due("removeWord of 'O ?'", x.removeWord(), -6);
        check.due("value(4)", x.value(4), 3);
        Check.write(x, "one");
        check.due("removeWord of 'one'", x.removeWord(), 2);
        check.due("removeWord of 'one'", x.removeWord(), -6);
        check.due("the text stays", x.signCount(), 4);
        check.due("message(0, 3)", x.message(0, 3), 9);
        check.due("sign(0, 0, 1)", x.sign(0, 0, 1), 30);
        check.dueText("reading", Check.read(x, 0, 0), "? two three ");
        check.due("addWord(77, 77)", x.addWord(77, 77), 3);
        check.dueText("reading", Check.read(x, 0, 0), "? two three ");
        Check.write(x, "three");
        check.due("removeWord of 'three'", x.removeWord(), 2);
        check.dueText("reading", Check.read(x, 0, 0), "? two ? ");
        check.due("addWord(30, 40)", x.addWord(30, 40), 3);
        check.dueText("reading", Check.read(x, 0, 0), "three two ? ");
    }

    private static void signCountOfFaults() {
        check.part("promise 12");
        OpticalTelegraph x = new OpticalTelegraph();
        String[] texts = {"", " ", " a", "a ", "a  ", "a  b", "ab cd ", "ab cd!", "Ab", "aB", "a b C", "`", "{", "a{", "a-b", "a \uffff", "\0", "a\tb"};
        int[] faults = {0, 0, 0, 2, 2, 2, 6, 5, 0, 1, 4, 0, 0, 1, 1, 2, 0, 1};
        for (int i = 0; i < texts.length; i++) {
            Check.write(x, texts[i]);
            check.due("signCount of '" + texts[i] + "'", x.signCount(), -100 - faults[i]);
        }
        Check.write(x, "a".repeat(59) + " ");
        check.due("signCount of 59 letters and a blank", x.signCount(), -160);
        Check.write(x, "a".repeat(59) + "!");
        check.due("signCount of 59 letters and '!'", x.signCount(), -159);
    }

    private static void signCountOfWords() {
        check.part("promise 12");
        OpticalTelegraph x = new OpticalTelegraph();
        String[] texts = {"a", "z", "ab", "ab cd", "a b c", "abcdefghijklmnopqrstuvwxyz", "a".repeat(60)};
        int[] counts = {2, 2, 3, 6, 6, 27, 61};
        for (int i = 0; i < texts.length; i++) {
            Check.write(x, texts[i]);
            check.due("signCount of '" + texts[i] + "'", x.signCount(), counts[i]);
        }
        Check.write(x, "b");
        x.addWord(30, 30);
        Check.write(x, "abcdefghij");
        x.addWord(30, 31);
        String[] more = {"b", "bb", "b b", "a b c", "abcdefghij", "abcdefghijk", "abcdefghi", "x abcdefghij b", "b ".repeat(29) + "bb", "b ".repeat(29) + "b"};
        int[] moreCounts = {3, 3, 6, 7, 3, 12, 10, 8, 90, 90};
        for (int i = 0; i < more.length; i++) {
            Check.write(x, more[i]);
            check.due("signCount of '" + more[i] + "'", x.signCount(), moreCounts[i]);
        }
        check.due("the text stays", x.clearText(), 59);
    }
}

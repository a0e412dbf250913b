/** The boundary cases of "Code book", "Text" and the promises 8 to 12, sentence by sentence. */
public final class TextEdgesTest {
    private static final Check check = new Check();
    private static final Twins empty = new Twins(check, OpticalTelegraph::new);
    private static final Twins busy = new Twins(check, Scenes::busy);

    public static void main(String[] args) {
        charactersThatAreAllowed();
        blanksThatAreAllowed();
        textThatEndsTooEarly();
        faultAtEachIndex();
        wordsThatAreInTheBook();
        readingOfEachSign();
        readingOfTheBookSign();
        readingOfAnotherRow();
        typeUntilFull();
        clearTheText();
        wordRanges();
        wordOfOneToTenLetters();
        wordsThatAreThere();
        wordsUntilFull();
        wordErrorsInOrder();
        wordRefused();
        removeWhatIsNotThere();
        removeAnyWord();
        removeOneOfTwenty();
        removeKeepsSigns();
        countOfSigns();
        askingChangesNothing();
        check.end();
    }

    private static void charactersThatAreAllowed() {
        check.part("A text for a message consists of words of letters a to z, with one blank between each two");
        OpticalTelegraph x = null;
        for (int c = 0; c <= 0xffff; c++) {
            if (c % 50 == 0) {
                x = new OpticalTelegraph();
            }
            boolean letter = c >= 'a' && c <= 'z';
            x.clearText();
            x.type((char) c);
            check.due("signCount() of the character " + c, x.signCount(), letter ? 2 : -100);
            x.clearText();
            x.type('a');
            x.type((char) c);
            check.due("signCount() of 'a' and the character " + c, x.signCount(), letter ? 3 : c == ' ' ? -102 : -101);
        }
    }

    private static void blanksThatAreAllowed() {
        check.part("with one blank between each two: the index of the first character that is not allowed at its place");
        String[] texts = {"a b", " a", "a  b", "a b  c", "a b c", "  ", " ", "a   ", "a b c d!", "! ", " !", "a !", "a! "};
        int[] due = {4, -100, -102, -104, 6, -100, -100, -102, -107, -100, -100, -102, -101};
        for (int i = 0; i < texts.length; i++) {
            check.due("signCount() of '" + texts[i] + "'", Scenes.withText(texts[i]).signCount(), due[i]);
            check.due("send of '" + texts[i] + "'", Scenes.withText(texts[i]).send(0, 1, 0), Math.min(due[i], 0));
        }
    }

    private static void textThatEndsTooEarly() {
        check.part("or its length if it ends too early (if it is empty, or ends with a blank)");
        check.due("signCount() of an empty text", new OpticalTelegraph().signCount(), -100);
        check.due("send of an empty text", new OpticalTelegraph().send(0, 1, 0), -100);
        for (int letters = 1; letters <= 59; letters++) {
            check.due("signCount() of letters and a blank", Scenes.withText("a".repeat(letters) + " ").signCount(), -101 - letters);
            check.due("send of letters and a blank", Scenes.withText("a".repeat(letters) + " ").send(0, 1, 0), -101 - letters);
        }
        check.due("signCount() of 60 letters", Scenes.withText("a".repeat(60)).signCount(), 61);
    }

    private static void faultAtEachIndex() {
        check.part("The fault of a text is the index, from 0, of the first character that is not allowed");
        for (int i = 0; i < 60; i++) {
            check.due("signCount(), fault " + i, Scenes.withText("a".repeat(i) + "!").signCount(), -100 - i);
            check.due("signCount(), two faults", Scenes.withText("a".repeat(i) + "!".repeat(60 - i)).signCount(), -100 - i);
            check.due("send, fault " + i, Scenes.withText("z".repeat(i) + "Z").send(0, 1, 0), -100 - i);
        }
    }

    private static void wordsThatAreInTheBook() {
        check.part("Each word that is in the code book gives the signs 28, its page and its row; any other word gives its letters and 27");
        OpticalTelegraph x = Scenes.withText("ab");
        x.addWord(30, 95);
        String[] texts = {"ab", "a", "abc", "ba", "xab", "ab ab", "a ab", "ab a", "ab abc ab"};
        int[][] signs = {{28, 30, 95}, {1, 27}, {1, 2, 3, 27}, {2, 1, 27}, {24, 1, 2, 27}, {28, 30, 95, 28, 30, 95}, {1, 27, 28, 30, 95},
            {28, 30, 95, 1, 27}, {28, 30, 95, 1, 2, 3, 27, 28, 30, 95}};
        for (int i = 0; i < texts.length; i++) {
            Check.write(x, texts[i]);
            check.due("signCount() of '" + texts[i] + "'", x.signCount(), signs[i].length);
            check.due("send of '" + texts[i] + "'", x.send(0, 1, 0), i);
            for (int k = 0; k < signs[i].length; k++) {
                check.due("sign " + k + " of '" + texts[i] + "'", x.sign(i, 0, k), signs[i][k]);
            }
            check.due("sign after the last of '" + texts[i] + "'", x.sign(i, 0, signs[i].length), -6);
        }
    }

    /** Makes the readings of one sign go wrong and make up for it: the other sign is passed on. */
    private static void falsify(OpticalTelegraph x, int place, int sign, int instead) {
        int offset = Math.floorMod(instead - sign, 100);
        if (offset > 0) {
            x.addFault(0, 2 * place + 1, offset);
            x.addFault(0, 2 * place + 2, 100 - offset);
        }
    }

    private static void readingOfEachSign() {
        check.part("letters for 1 to 26, a blank for 27, any other sign gives \"#\", also 28 if there are not two signs behind it");
        for (int sign = 0; sign <= 99; sign++) {
            OpticalTelegraph x = Scenes.withText("m");
            falsify(x, 0, 13, sign);
            x.send(0, 1, 0);
            x.run(6);
            int due = sign >= 1 && sign <= 26 ? 96 + sign : sign == 27 ? ' ' : '#';
            check.due("sign(0, 1, 0)", x.sign(0, 1, 0), sign);
            check.due("reading(0, 1, 0) of the sign " + sign, x.reading(0, 1, 0), due);
            check.due("reading(0, 1, 1) of the sign " + sign, x.reading(0, 1, 1), ' ');
            check.due("reading(0, 1, 2) of the sign " + sign, x.reading(0, 1, 2), -6);
        }
    }

    private static void readingOfTheBookSign() {
        check.part("28 with the two signs behind it; 28 if there are not two signs behind it (each of which is then read by itself)");
        String[] due = {"?  ", "a? ", "ab# ", "abc#"};
        String[][] parts = {{"", "#", "#b", "? "}, {"", "a", "a#", "a#c"}, {"", "a", "ab", "ab#"}, {"", "a", "ab", "abc"}};
        int[] signs = {1, 2, 3, 27};
        for (int place = 0; place < 4; place++) {
            OpticalTelegraph x = new OpticalTelegraph();
            falsify(x, place, signs[place], 28);
            Check.send(x, "abc", 0, 1, 0);
            for (int copied = 0; copied < 4; copied++) {
                check.dueText("reading of " + copied + " signs, 28 at " + place, Check.read(x, 0, 1), parts[place][copied]);
                x.run(3);
            }
            check.dueText("reading of all signs, 28 at " + place, Check.read(x, 0, 1), due[place]);
        }
        // A 28 behind a 28 is one of the two signs behind it, and is not read again.
        OpticalTelegraph x = new OpticalTelegraph();
        falsify(x, 0, 1, 28);
        falsify(x, 1, 2, 28);
        falsify(x, 2, 3, 28);
        Check.send(x, "abc", 0, 1, 0);
        String[] threes = {"", "#", "##", "? ", "?  "};
        for (int copied = 0; copied <= 4; copied++) {
            check.dueText("reading of 28 28 28 27 after " + copied + " signs", Check.read(x, 0, 1), threes[copied]);
            x.run(3);
        }
    }

    private static void readingOfAnotherRow() {
        check.part("the word of the code book with this page and row, followed by a blank, or \"?\" and a blank if there is no such word");
        String[] due = {"x ", "y ", "? ", "? "};
        int[] rows = {30, 31, 32, 28};
        for (int i = 0; i < 4; i++) {
            OpticalTelegraph x = Scenes.withText("y");
            x.addWord(30, 31);
            Check.write(x, "x");
            x.addWord(30, 30);
            falsify(x, 2, 30, rows[i]);
            x.send(0, 1, 0);
            x.run(9);
            check.due("sign(0, 1, 2)", x.sign(0, 1, 2), rows[i]);
            check.dueText("reading of 28 30 " + rows[i], Check.read(x, 0, 1), due[i]);
        }
        // Page and row are not taken for each other.
        OpticalTelegraph x = Scenes.withText("x");
        x.addWord(30, 31);
        x.send(0, 1, 0);
        x.removeWord();
        Check.write(x, "y");
        x.addWord(31, 30);
        check.dueText("reading of 28 30 31 with a word at 31 30", Check.read(x, 0, 0), "? ");
    }

    private static void typeUntilFull() {
        check.part("promise 8: Returns the length of the text then; FULL if it has 60 characters");
        OpticalTelegraph x = new OpticalTelegraph();
        for (int i = 1; i <= 60; i++) {
            check.due("type", x.type('a'), i);
        }
        for (char c : new char[] {'a', ' ', '!', 0, '\uffff'}) {
            check.due("type of a sixty-first character", x.type(c), -5);
        }
        check.due("signCount()", x.signCount(), 61);
        check.due("clearText()", x.clearText(), 60);
        Twins fullText = new Twins(check, () -> Scenes.full("ab ".repeat(19) + "xyz"));
        fullText.stay("type('a')", y -> y.type('a'), -5);
        fullText.stay("type('!')", y -> y.type('!'), -5);
        fullText.stay("type(' ')", y -> y.type(' '), -5);
        check.part("promise 8: character: any character");
        for (int c = 0; c <= 0xffff; c += 0xff) {
            check.due("type of the character " + c, new OpticalTelegraph().type((char) c), 1);
        }
    }

    private static void clearTheText() {
        check.part("promise 9: Empties the text. Returns the length that it had");
        for (int length = 0; length <= 60; length++) {
            OpticalTelegraph x = Scenes.withText("a".repeat(length));
            check.due("clearText()", x.clearText(), length);
            check.due("clearText() again", x.clearText(), 0);
            check.due("type('a')", x.type('a'), 1);
            check.due("signCount()", x.signCount(), 2);
        }
        empty.stay("clearText() of an empty text", OpticalTelegraph::clearText, 0);
    }

    private static void wordRanges() {
        check.part("promise 10: page: 30 to 95");
        check.range("addWord of a page", 30, 95, 1, -3, page -> Scenes.withText("a").addWord(page, 30));
        check.part("promise 10: row: 30 to 95");
        check.range("addWord of a row", 30, 95, 1, -3, row -> Scenes.withText("a").addWord(95, row));
    }

    private static void wordOfOneToTenLetters() {
        check.part("promise 10: BAD_VALUE, also if the text is not a word of 1 to 10 letters");
        for (int letters = 0; letters <= 60; letters++) {
            check.due("addWord of " + letters + " letters", Scenes.withText("k".repeat(letters)).addWord(30, 30), letters >= 1 && letters <= 10 ? 1 : -3);
        }
        for (int place = 0; place < 10; place++) {
            for (char c : new char[] {' ', '`', '{', 'A', 0, '\uffff', (char) 0x161}) {
                char[] word = "abcdefghij".toCharArray();
                word[place] = c;
                check.due("addWord of the character " + (int) c + " at " + place, Scenes.withText(new String(word)).addWord(30, 30), -3);
            }
        }
        check.due("addWord of 'az'", Scenes.withText("az").addWord(30, 30), 1);
        check.due("addWord of 'a z'", Scenes.withText("a z").addWord(30, 30), -3);
    }

    private static void wordsThatAreThere() {
        check.part("promise 10: NOT_POSSIBLE if there is such a word, or one with this page and row");
        OpticalTelegraph x = Scenes.withText("abcdefghij");
        x.addWord(30, 95);
        check.due("the same word, page and row", x.addWord(30, 95), -4);
        check.due("the same word elsewhere", x.addWord(31, 31), -4);
        Check.write(x, "abcdefghik");
        check.due("another word there", x.addWord(30, 95), -4);
        check.due("another word, the same page", x.addWord(30, 94), 2);
        Check.write(x, "abcdefghi");
        check.due("another word, the same row", x.addWord(31, 95), 3);
        Check.write(x, "a");
        check.due("another word, page and row the other way round", x.addWord(95, 30), 4);
        Check.write(x, "aa");
        check.due("a word with the page of one and the row of another", x.addWord(31, 94), 5);
        // A word that was removed is not there any more, nor are its page and row.
        x.removeWord();
        check.due("the removed word", x.addWord(31, 94), 5);
        x.removeWord();
        Check.write(x, "b");
        check.due("another word in its place", x.addWord(31, 94), 5);
    }

    private static void wordsUntilFull() {
        check.part("promise 10: Returns the number of words then; FULL if there are 20 words");
        OpticalTelegraph x = new OpticalTelegraph();
        for (int i = 1; i <= 20; i++) {
            Check.write(x, "abcdefghi" + (char) (96 + i));
            check.due("addWord", x.addWord(95, 75 + i), i);
        }
        Check.write(x, "abcdefghij");
        check.due("signCount() of the tenth word", x.signCount(), 3);
        Check.write(x, "abcdefghit");
        check.due("signCount() of the twentieth word", x.signCount(), 3);
        Check.write(x, "abcdefghiu");
        check.due("addWord of a twenty-first", x.addWord(30, 30), -5);
        check.due("signCount() of it", x.signCount(), 11);
        check.due("value(4)", x.value(4), 20);
        check.due("the text stays", x.clearText(), 10);
    }

    private static void wordErrorsInOrder() {
        check.part("promise 10: BAD_VALUE; NOT_POSSIBLE; FULL");
        OpticalTelegraph x = Scenes.full("a");
        check.due("bad page, such a word, full", x.addWord(29, 60), -3);
        check.due("bad row, such a word, full", x.addWord(50, 96), -3);
        check.due("such a word, full", x.addWord(30, 30), -4);
        check.due("such a word there, full", x.addWord(50, 60), -4);
        Check.write(x, "z");
        check.due("bad page, full", x.addWord(96, 30), -3);
        check.due("this page and row, full", x.addWord(50, 79), -4);
        check.due("full", x.addWord(50, 80), -5);
        Check.write(x, "abcdefghijk");
        check.due("no word, this page and row, full", x.addWord(50, 79), -3);
        check.due("no word, full", x.addWord(30, 30), -3);
        x = Scenes.busy();
        check.due("no word, this page and row", x.addWord(30, 95), -3);
        Check.write(x, "ab");
        check.due("bad row, such a word", x.addWord(30, 96), -3);
    }

    private static void wordRefused() {
        check.part("promise 10: a refused call changes nothing");
        busy.stay("addWord(40, 40) of two words", x -> x.addWord(40, 40), -3);
        Twins shortText = new Twins(check, () -> Scenes.full("z"));
        shortText.stay("addWord(29, 40)", x -> x.addWord(29, 40), -3);
        shortText.stay("addWord(40, 96)", x -> x.addWord(40, 96), -3);
        shortText.stay("addWord(50, 60)", x -> x.addWord(50, 60), -4);
        shortText.stay("addWord(40, 40)", x -> x.addWord(40, 40), -5);
        new Twins(check, () -> Scenes.full("a")).stay("addWord(40, 40)", x -> x.addWord(40, 40), -4);
        empty.stay("addWord(40, 40) of no text", x -> x.addWord(40, 40), -3);
    }

    private static void removeWhatIsNotThere() {
        check.part("promise 11: NONE if it is not in the code book");
        empty.stay("removeWord() of no text and no word", OpticalTelegraph::removeWord, -6);
        for (String text : new String[] {"", "ab ", " ab", "a", "abc", "b", "ab ab", "Ab", "!", "z".repeat(60)}) {
            OpticalTelegraph x = Scenes.withText("ab");
            x.addWord(30, 30);
            Check.write(x, text);
            check.due("removeWord() of '" + text + "'", x.removeWord(), -6);
            check.due("value(4)", x.value(4), 1);
        }
        busy.stay("removeWord() of two words", OpticalTelegraph::removeWord, -6);
        new Twins(check, () -> Scenes.full("u")).stay("removeWord() of 'u'", OpticalTelegraph::removeWord, -6);
        new Twins(check, () -> Scenes.full("")).stay("removeWord() of no text", OpticalTelegraph::removeWord, -6);
        // A word that was in the book is no longer in it.
        OpticalTelegraph x = Scenes.withText("ab");
        x.addWord(30, 30);
        check.due("removeWord()", x.removeWord(), 0);
        check.due("removeWord() again", x.removeWord(), -6);
        check.due("the text stays", x.clearText(), 2);
    }

    private static void removeAnyWord() {
        check.part("promise 11: Removes the text from the code book; the other words stay");
        for (int removed = 0; removed < 4; removed++) {
            OpticalTelegraph x = new OpticalTelegraph();
            for (int i = 0; i < 4; i++) {
                Check.write(x, "w".repeat(i + 7));
                x.addWord(40 + i, 90 - i);
            }
            Check.write(x, "w".repeat(removed + 7));
            check.due("removeWord()", x.removeWord(), 3);
            for (int i = 0; i < 4; i++) {
                Check.write(x, "w".repeat(i + 7));
                check.due("signCount() of word " + i, x.signCount(), i == removed ? i + 8 : 3);
                x.send(0, 1, 0);
                check.due("page of word " + i, x.sign(i, 0, 1), i == removed ? 23 : 40 + i);
                check.due("row of word " + i, x.sign(i, 0, 2), i == removed ? 23 : 90 - i);
            }
        }
    }

    private static void removeOneOfTwenty() {
        check.part("promise 11: Returns the number of words then (a full book)");
        for (char c = 'a'; c <= 't'; c++) {
            OpticalTelegraph x = Scenes.full(String.valueOf(c));
            check.due("removeWord() of " + c, x.removeWord(), 19);
            check.due("addWord(50, 80) again", x.addWord(50, 80), 20);
            Check.write(x, "zz");
            check.due("addWord in its old place", x.addWord(50, 60 + c - 'a'), -5);
            check.due("addWord of one more", x.addWord(30, 30), -5);
            checkRows(x, c);
        }
        OpticalTelegraph x = Scenes.full("");
        for (int left = 19; left >= 0; left--) {
            x.clearText();
            x.type((char) ('a' + left * 7 % 20));
            check.due("removeWord()", x.removeWord(), left);
        }
        check.due("value(4)", x.value(4), 0);
        check.due("removeWord() of an empty book", x.removeWord(), -6);
    }

    /** The words a to t of a full book stand in their rows, but for the one that was added again. */
    private static void checkRows(OpticalTelegraph x, char again) {
        for (char c = 'a'; c <= 't'; c++) {
            x.reset(8);
            x.clearText();
            x.type(c);
            x.send(0, 1, 0);
            check.due("page of " + c + " after " + again + " was added again", x.sign(0, 0, 1), 50);
            check.due("row of " + c + " after " + again + " was added again", x.sign(0, 0, 2), c == again ? 80 : 60 + c - 'a');
        }
    }

    private static void removeKeepsSigns() {
        check.part("promise 11: Messages keep their signs");
        OpticalTelegraph x = Scenes.withText("ab");
        x.addWord(30, 95);
        x.send(0, 1, 0);
        x.run(4);
        x.removeWord();
        int[] signs = {28, 30, 95, -6};
        for (int k = 0; k < 4; k++) {
            check.due("sign(0, 0, " + k + ")", x.sign(0, 0, k), signs[k]);
        }
        check.due("message(0, 3)", x.message(0, 3), 3);
        x.run(5);
        check.due("message(0, 6)", x.message(0, 6), 9);
        check.dueText("reading", Check.read(x, 0, 1), "? ");
    }

    private static void countOfSigns() {
        check.part("promise 12: Returns the number of signs; -100 minus the fault if there is one");
        for (int letters = 1; letters <= 60; letters++) {
            check.due("signCount() of " + letters + " letters", Scenes.withText("z".repeat(letters)).signCount(), letters + 1);
        }
        // The most that a text can give: thirty words of one letter, all of them in the book.
        OpticalTelegraph x = Scenes.withText("b");
        x.addWord(30, 30);
        Check.write(x, "b ".repeat(29) + "b");
        check.due("signCount() of thirty words in the book", x.signCount(), 90);
        Check.write(x, "b ".repeat(30));
        check.due("signCount() of 60 characters with a blank at the end", x.signCount(), -160);
        Check.write(x, "c ".repeat(29) + "c");
        check.due("signCount() of thirty words", x.signCount(), 60);
        check.due("the text stays", x.clearText(), 59);
    }

    private static void askingChangesNothing() {
        check.part("promise 12: asking changes nothing");
        busy.stay("signCount()", OpticalTelegraph::signCount, 6);
        empty.stay("signCount() of no text", OpticalTelegraph::signCount, -100);
        new Twins(check, () -> Scenes.full("z".repeat(60))).stay("signCount()", OpticalTelegraph::signCount, 61);
    }
}

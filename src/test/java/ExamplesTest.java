/** The three examples of the document. */
public final class ExamplesTest {
    private static final Check check = new Check();

    public static void main(String[] args) {
        overTwoLinks();
        faultAndFog();
        wordOfTheBook();
        check.end();
    }

    private static void overTwoLinks() {
        check.part("example 1");
        OpticalTelegraph x = new OpticalTelegraph();
        check.due("type('a')", x.type('a'), 1);
        check.due("type('b')", x.type('b'), 2);
        check.due("signCount()", x.signCount(), 3);
        check.due("send(0, 2, 1)", x.send(0, 2, 1), 0);
        check.due("run(1)", x.run(1), 1);
        check.due("shown(0)", x.shown(0), 1);
        check.due("run(1)", x.run(1), 1);
        check.due("shown(1)", x.shown(1), 1);
        check.due("run(1)", x.run(1), 1);
        check.due("copied(0, 1)", x.copied(0, 1), 1);
        check.due("task(1, 1)", x.task(1, 1), 1);
        check.due("forecast(0)", x.forecast(0), 18);
        check.due("leastMinutes(0)", x.leastMinutes(0), 18);
        check.due("run(30)", x.run(30), 0);
        check.due("message(0, 6)", x.message(0, 6), 18);
        check.due("reading(0, 2, 1)", x.reading(0, 2, 1), 98);
    }

    private static void faultAndFog() {
        check.part("example 2");
        OpticalTelegraph x = new OpticalTelegraph();
        check.due("reset(3)", x.reset(3), 4);
        check.due("addFault(0, 1, 5)", x.addFault(0, 1, 5), 1);
        check.due("addFog(1, 2, 9)", x.addFog(1, 2, 9), 1);
        check.due("type('z')", x.type('z'), 1);
        check.due("send(0, 1, 0)", x.send(0, 1, 0), 0);
        check.due("send(2, 1, 2)", x.send(2, 1, 2), 1);
        check.due("run(3)", x.run(3), 2);
        check.due("shown(0)", x.shown(0), 0);
        check.due("linkCount(0, 1)", x.linkCount(0, 1), 0);
        check.due("message(0, 7)", x.message(0, 7), 0);
        check.due("run(40)", x.run(40), 0);
        check.due("message(1, 6)", x.message(1, 6), 14);
        check.due("value(3)", x.value(3), 0);
    }

    private static void wordOfTheBook() {
        check.part("example 3");
        OpticalTelegraph x = new OpticalTelegraph();
        check.due("type('p')", x.type('p'), 1);
        check.due("type('a')", x.type('a'), 2);
        check.due("type('r')", x.type('r'), 3);
        check.due("type('i')", x.type('i'), 4);
        check.due("type('s')", x.type('s'), 5);
        check.due("addWord(40, 50)", x.addWord(40, 50), 1);
        check.due("addWord(41, 50)", x.addWord(41, 50), -4);
        check.due("signCount()", x.signCount(), 3);
        check.due("send(3, 0, 0)", x.send(3, 0, 0), 0);
        check.due("sign(0, 3, 1)", x.sign(0, 3, 1), 40);
        check.due("reading(0, 3, 0)", x.reading(0, 3, 0), 112);
        check.due("removeWord()", x.removeWord(), 0);
        check.due("reading(0, 3, 0)", x.reading(0, 3, 0), 63);
        check.due("cancel(0)", x.cancel(0), 0);
    }
}

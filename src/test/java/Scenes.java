/** Objects with some calls behind them, at most 200, so that tests may make 300 more of the 512. */
final class Scenes {
    private Scenes() {
    }

    static OpticalTelegraph withText(String text) {
        OpticalTelegraph x = new OpticalTelegraph();
        Check.write(x, text);
        return x;
    }

    /**
     * Five towers at the time 12, in the midst of work: message 0 has arrived, 1 and 2 are under way,
     * 3 is cancelled, and faults, fog and night are still to come. The text is "paris ab".
     */
    static OpticalTelegraph busy() {
        OpticalTelegraph x = new OpticalTelegraph();
        x.reset(5);
        x.setDay(50, 40);
        Check.write(x, "ab");
        x.addWord(30, 95);
        Check.write(x, "paris");
        x.addWord(95, 30);
        x.addFog(2, 20, 24);
        x.addFog(0, 1000, 1010);
        x.addFault(0, 1, 7);
        x.addFault(1, 3, 50);
        x.addFault(3, 6, 99);
        Check.send(x, "c", 0, 1, 2);
        Check.send(x, "ab x", 4, 0, 1);
        Check.send(x, "zz", 1, 3, 0);
        Check.send(x, "q", 2, 4, 0);
        x.cancel(3);
        x.run(12);
        Check.write(x, "paris ab");
        return x;
    }

    /**
     * Eight towers with all the room taken: 12 fogs, 16 faults (for the readings 1 to 16 of link 6),
     * 20 words (a to t, all on page 50, from row 60 on) and 10 messages, all under way.
     */
    static OpticalTelegraph full(String text) {
        OpticalTelegraph x = new OpticalTelegraph();
        x.reset(8);
        for (int i = 0; i < 12; i++) {
            x.addFog(5, 3 * i, 3 * i);
        }
        for (int i = 1; i <= 16; i++) {
            x.addFault(6, i, i);
        }
        for (int i = 0; i < 20; i++) {
            x.clearText();
            x.type((char) ('a' + i));
            x.addWord(50, 60 + i);
        }
        for (int i = 0; i < 10; i++) {
            x.send(i % 3, 7 - i % 4, i % 3);
        }
        x.run(2);
        Check.write(x, text);
        return x;
    }
}

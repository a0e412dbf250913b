/** The boundary cases of the "Description", in its order, from "Line" to "Readings". */
public final class DescriptionEdgesTest {
    private static final Check check = new Check();

    public static void main(String[] args) {
        callsOfAnObject();
        towersOfALine();
        linksOfALine();
        linkJoinsTwoTowers();
        timeIsCounted();
        minuteIsLight();
        fogHasFirstAndLastMinute();
        blindByNightAndFog();
        lettersAreSigns();
        copiesAtFirst();
        underWayUntilWhole();
        precedence();
        canUseALink();
        bothTowersOrNone();
        nextTowerFirst();
        stepsFollow();
        stepsStayInFog();
        stepsStayAtNight();
        stepsStayForAnother();
        readingsAreCounted();
        readingsOfAllMessages();
        lastReadingThatCanBe();
        readingsModulo();
        wrongReadingsMakeUp();
        check.end();
    }

    private static OpticalTelegraph line(int towers) {
        OpticalTelegraph x = new OpticalTelegraph();
        x.reset(towers);
        return x;
    }

    private static void callsOfAnObject() {
        check.part("An object is used for at most 512 calls");
        OpticalTelegraph x = new OpticalTelegraph();
        x.type('a');
        x.send(0, 1, 0);
        x.addFog(0, 0, 100000);
        for (int i = 0; i < 508; i++) {
            check.due("run(300)", x.run(300), 300 * (i + 1) < 100007 ? 1 : 0);
        }
        check.due("message(0, 6)", x.message(0, 6), 100007);
    }

    private static void towersOfALine() {
        check.part("There are n towers, 3 to 8, numbered from 0");
        for (int n = 3; n <= 8; n++) {
            int towers = n;
            int last = n - 1;
            check.range("shown", 0, last, 0, -1, t -> line(towers).shown(t));
            check.range("task", 0, last, -6, -1, t -> line(towers).task(t, 0));
            check.range("copied", 0, last, 2, -1, t -> sentFrom(t, last).copied(0, t));
            check.range("sign", 0, last, 1, -1, t -> sentFrom(t, last).sign(0, t, 0));
            check.range("reading", 0, last, 'a', -1, t -> sentFrom(t, last).reading(0, t, 0));
            check.range("send from", 0, last, 0, -1, t -> withText(towers).send(t, t == 0 ? 1 : 0, 0));
            check.range("send to", 0, last, 0, -1, t -> withText(towers).send(t == 0 ? 1 : 0, t, 0));
        }
    }

    private static OpticalTelegraph withText(int towers) {
        OpticalTelegraph x = line(towers);
        x.type('a');
        return x;
    }

    /** A message that begins at this tower, if there is such a tower, or else at the first one. */
    private static OpticalTelegraph sentFrom(int tower, int last) {
        OpticalTelegraph x = withText(last + 1);
        int from = tower >= 0 && tower <= last ? tower : 0;
        x.send(from, from == 0 ? 1 : 0, 0);
        return x;
    }

    private static void linksOfALine() {
        check.part("link i joins the towers i and i + 1: there are n - 1 links");
        for (int n = 3; n <= 8; n++) {
            int towers = n;
            int last = n - 2;
            check.range("addFog", 0, last, 1, -1, l -> line(towers).addFog(l, 0, 0));
            check.range("addFault", 0, last, 1, -1, l -> line(towers).addFault(l, 1, 1));
            check.range("isBlind", 0, last, 0, -1, l -> line(towers).isBlind(l));
            check.range("linkCount", 0, last, 0, -1, l -> line(towers).linkCount(l, 0));
            OpticalTelegraph x = withText(n);
            x.send(0, n - 1, 0);
            check.range("step", 0, last, 0, -1, l -> x.step(0, l));
        }
    }

    private static void linkJoinsTwoTowers() {
        check.part("link i joins the towers i and i + 1");
        for (int i = 0; i < 7; i++) {
            for (int down = 0; down < 2; down++) {
                OpticalTelegraph x = withText(8);
                x.send(i + down, i + 1 - down, 0);
                x.run(3);
                for (int l = 0; l < 7; l++) {
                    check.due("step(0, " + l + ")", x.step(0, l), l == i ? 0 : -6);
                    check.due("linkCount(" + l + ", 0)", x.linkCount(l, 0), l == i ? 2 : 0);
                }
            }
        }
    }

    private static void timeIsCounted() {
        check.part("the time is the number of minutes that have passed, 0 at first");
        OpticalTelegraph x = new OpticalTelegraph();
        check.due("value(0)", x.value(0), 0);
        x.run(1);
        check.due("value(0)", x.value(0), 1);
        x.run(300);
        check.due("value(0)", x.value(0), 301);
        check.part("Minute t is the one that begins when the time is t");
        x.addFog(0, 302, 302);
        check.due("isBlind(0) at 301", x.isBlind(0), 0);
        x.run(1);
        check.due("isBlind(0) at 302", x.isBlind(0), 1);
        x.run(1);
        check.due("isBlind(0) at 303", x.isBlind(0), 0);
    }

    private static void minuteIsLight() {
        check.part("minute t is light if t modulo the length is less than the light time");
        int[][] days = {{1, 1}, {2, 1}, {2, 2}, {10, 1}, {10, 9}, {10, 10}, {300, 299}, {10000, 1}, {10000, 9999}, {10000, 10000}};
        for (int[] day : days) {
            int length = day[0];
            int light = day[1];
            OpticalTelegraph x = new OpticalTelegraph();
            x.setDay(length, light);
            int night = light < length ? 1 : 0;
            checkBlind(x, 0, 0);
            checkBlind(x, light - 1, 0);
            checkBlind(x, light, night);
            checkBlind(x, length - 1, night);
            checkBlind(x, length, 0);
            checkBlind(x, length + light - 1, 0);
            checkBlind(x, length + light, night);
            checkBlind(x, 2 * length - 1, night);
            checkBlind(x, 2 * length, 0);
            check.due("linkCount(0, 3)", x.linkCount(0, 3), 2 * (length - light));
        }
    }

    /** Goes on to the time, unless it has passed already, and asks all links. */
    private static void checkBlind(OpticalTelegraph x, int time, int due) {
        Check.runTo(x, time);
        if (x.value(0) == time) {
            for (int l = 0; l < 3; l++) {
                check.due("isBlind(" + l + ") at " + time, x.isBlind(l), due);
            }
        }
    }

    private static void fogHasFirstAndLastMinute() {
        check.part("a fog has a link, a first minute and a last minute");
        int[][] fogs = {{0, 0}, {0, 1}, {5, 5}, {5, 9}, {0, 100000}, {99999, 100000}, {100000, 100000}};
        for (int[] fog : fogs) {
            OpticalTelegraph x = new OpticalTelegraph();
            x.addFog(1, fog[0], fog[1]);
            if (fog[0] > 0) {
                Check.runTo(x, fog[0] - 1);
                check.due("isBlind(1) before the fog", x.isBlind(1), 0);
            }
            Check.runTo(x, fog[0]);
            check.due("isBlind(1) in the first minute", x.isBlind(1), 1);
            Check.runTo(x, fog[1]);
            check.due("isBlind(1) in the last minute", x.isBlind(1), 1);
            check.due("isBlind(0)", x.isBlind(0), 0);
            check.due("isBlind(2)", x.isBlind(2), 0);
            x.run(1);
            check.due("isBlind(1) after the fog", x.isBlind(1), 0);
            x.run(1);
            check.due("linkCount(1, 3)", x.linkCount(1, 3), fog[1] - fog[0] + 1);
            check.due("linkCount(0, 3)", x.linkCount(0, 3), 0);
        }
    }

    private static void blindByNightAndFog() {
        check.part("A link is blind in a minute that is not light, and in the minutes of each fog on it");
        OpticalTelegraph x = new OpticalTelegraph();
        x.setDay(10, 5);
        x.addFog(0, 3, 6);
        x.addFog(0, 4, 4);
        x.addFog(0, 9, 10);
        int[] blind = {0, 0, 0, 1, 1, 1, 1, 1, 1, 1, 1, 0, 0};
        int count = 0;
        for (int t = 0; t < blind.length; t++) {
            check.due("linkCount(0, 3) at " + t, x.linkCount(0, 3), count);
            check.due("isBlind(0) at " + t, x.isBlind(0), blind[t]);
            check.due("isBlind(1) at " + t, x.isBlind(1), t >= 5 && t < 10 ? 1 : 0);
            count += blind[t];
            x.run(1);
        }
    }

    private static void lettersAreSigns() {
        check.part("1 to 26 the letters a to z, 27 the end of a spelled word");
        OpticalTelegraph x = new OpticalTelegraph();
        Check.send(x, "abcdefghijklmnopqrstuvwxyz", 0, 1, 0);
        for (int k = 0; k < 27; k++) {
            check.due("sign(0, 0, " + k + ")", x.sign(0, 0, k), k + 1);
        }
        check.due("sign(0, 0, 27)", x.sign(0, 0, 27), -6);
    }

    private static void copiesAtFirst() {
        check.part("the copy of the first tower is the whole message from the beginning, the other copies are empty at first");
        int[][] ways = {{0, 7}, {7, 0}, {0, 1}, {1, 0}, {6, 7}, {7, 6}, {2, 5}, {5, 2}};
        for (int[] way : ways) {
            OpticalTelegraph x = line(8);
            Check.send(x, "abc", way[0], way[1], 0);
            for (int t = 0; t < 8; t++) {
                boolean onWay = t >= Math.min(way[0], way[1]) && t <= Math.max(way[0], way[1]);
                check.due("copied(0, " + t + ")", x.copied(0, t), t == way[0] ? 4 : onWay ? 0 : -6);
            }
        }
    }

    private static void underWayUntilWhole() {
        check.part("A message is under way until the copy of its last tower is whole; then it has arrived");
        for (int letters = 1; letters <= 29; letters += 14) {
            OpticalTelegraph x = new OpticalTelegraph();
            Check.send(x, "z".repeat(letters), 2, 1, 0);
            int minutes = 3 * (letters + 1);
            check.due("run to the last minute", x.run(minutes - 1), 1);
            check.due("copied(0, 1)", x.copied(0, 1), letters);
            check.due("message(0, 4)", x.message(0, 4), 0);
            check.due("message(0, 6)", x.message(0, 6), -6);
            check.part("its arrival time, the time after this minute");
            check.due("run(1)", x.run(1), 0);
            check.due("copied(0, 1)", x.copied(0, 1), letters + 1);
            check.due("message(0, 4)", x.message(0, 4), 1);
            check.due("message(0, 6)", x.message(0, 6), minutes);
            check.due("value(0)", x.value(0), minutes);
        }
    }

    /** The kinds of messages in their order: 2 up, 2 down, 1 up, 1 down, 0 up, 0 down. */
    private static void precedence() {
        check.part("the higher priority precedes; towards higher tower numbers; the lower number");
        for (int first = 0; first < 6; first++) {
            for (int second = 0; second < 6; second++) {
                OpticalTelegraph x = line(3);
                Check.send(x, "a", first % 2 == 0 ? 0 : 2, 1, 2 - first / 2);
                Check.send(x, "a", second % 2 == 0 ? 0 : 2, 1, 2 - second / 2);
                int[] links = {first % 2, second % 2};
                int taken = first <= second ? 0 : 1;
                check.due("task(1, 0) of the kinds " + first + " and " + second, x.task(1, 0), taken);
                check.due("task(1, 1) of the kinds " + first + " and " + second, x.task(1, 1), links[taken]);
                x.run(1);
                check.due("step of the one taken", x.step(taken, links[taken]), 1);
                check.due("step of the other", x.step(1 - taken, links[1 - taken]), 0);
            }
        }
    }

    private static void canUseALink() {
        check.part("can use a link of its way if the copy of the tower before the link has more signs");
        for (int down = 0; down < 2; down++) {
            OpticalTelegraph x = line(3);
            int first = 2 * down;
            int last = 2 - first;
            Check.send(x, "a", first, last, 0);
            check.due("task of the last tower, both copies empty", x.task(last, 0), -6);
            check.due("task of the first tower, 2 signs and none", x.task(first, 0), 0);
            x.run(3);
            check.due("task of the last tower, 1 sign and none", x.task(last, 0), 0);
            check.due("task of the first tower, 2 signs and 1", x.task(first, 0), 0);
            x.run(3);
            check.due("task of the last tower, 1 sign and 1", x.task(last, 0), -6);
            x.run(3);
            check.due("task of the first tower, 2 signs and 2", x.task(first, 0), -6);
            check.due("task of the last tower, 2 signs and 1", x.task(last, 0), 0);
            x.run(3);
            check.due("task of the last tower after the arrival", x.task(last, 0), -6);
            check.due("task of the tower between", x.task(1, 0), -6);
        }
    }

    private static void bothTowersOrNone() {
        check.part("on each link that both its towers have taken for the same message");
        OpticalTelegraph x = new OpticalTelegraph();
        // Tower 1 takes message 1 on link 1: nothing is done on link 0, which is not blind.
        Check.send(x, "a", 0, 1, 0);
        Check.send(x, "b", 1, 2, 1);
        check.due("task(0, 1)", x.task(0, 1), 0);
        check.due("task(1, 1)", x.task(1, 1), 1);
        x.run(6);
        check.due("step(0, 0)", x.step(0, 0), 0);
        check.due("linkCount(0, 0)", x.linkCount(0, 0), 0);
        check.due("message(1, 6)", x.message(1, 6), 6);
        x.run(6);
        check.due("message(0, 6)", x.message(0, 6), 12);
        // The same with the tower before the link: it takes message 1, the tower behind it message 0.
        x.reset(4);
        Check.send(x, "a", 2, 3, 0);
        Check.send(x, "b", 2, 1, 1);
        check.due("task(2, 1)", x.task(2, 1), 1);
        check.due("task(3, 1)", x.task(3, 1), 2);
        x.run(6);
        check.due("step(0, 2)", x.step(0, 2), 0);
        check.due("linkCount(2, 0)", x.linkCount(2, 0), 0);
        check.due("message(1, 6)", x.message(1, 6), 6);
    }

    private static void nextTowerFirst() {
        check.part("if that message can use both links of the tower, it takes the link to the next tower on the way");
        OpticalTelegraph x = new OpticalTelegraph();
        Check.send(x, "ab", 0, 2, 0);
        x.run(3);
        check.due("task(1, 1) upwards", x.task(1, 1), 1);
        x.reset(4);
        Check.send(x, "ab", 3, 1, 0);
        x.run(3);
        check.due("task(2, 1) downwards", x.task(2, 1), 1);
        check.due("task(3, 1) downwards", x.task(3, 1), 2);
        // The fog on the way onward does not bring the tower to the other link.
        x.addFog(1, 3, 5);
        x.run(3);
        check.due("task(2, 1) in the fog", x.task(2, 1), 1);
        check.due("step(0, 2)", x.step(0, 2), 0);
        check.due("copied(0, 2)", x.copied(0, 2), 1);
    }

    private static void stepsFollow() {
        check.part("step 0: step 1 follows; step 1: step 2 follows; step 2: step 0 or step 3 follows; step 3: step 0 follows");
        OpticalTelegraph x = new OpticalTelegraph();
        x.addFault(1, 4, 1);
        Check.send(x, "a", 1, 2, 0);
        int[] steps = {0, 1, 2, 0, 1, 2, 3, 0, 1, 2, 0};
        int[] readings = {0, 0, 1, 2, 2, 3, 4, 4, 4, 5, 6};
        int[] errors = {0, 0, 0, 0, 0, 0, 1, 1, 1, 1, 1};
        int[] passed = {0, 0, 0, 1, 1, 1, 1, 1, 1, 1, 2};
        for (int t = 0; t < steps.length; t++) {
            check.due("step(0, 1) at " + t, x.step(0, 1), steps[t]);
            check.due("linkCount(1, 0) at " + t, x.linkCount(1, 0), readings[t]);
            check.due("linkCount(1, 1) at " + t, x.linkCount(1, 1), errors[t]);
            check.due("message(0, 7) at " + t, x.message(0, 7), errors[t]);
            check.due("linkCount(1, 2) at " + t, x.linkCount(1, 2), passed[t]);
            check.due("copied(0, 2) at " + t, x.copied(0, 2), passed[t]);
            x.run(1);
        }
    }

    /** At the times 0 to 3, the message is at the step of that number, since the first reading is wrong. */
    private static OpticalTelegraph atStep(int step) {
        OpticalTelegraph x = new OpticalTelegraph();
        x.addFault(0, 1, 9);
        Check.send(x, "a", 0, 1, 0);
        Check.runTo(x, step);
        return x;
    }

    /** For some minutes nothing is done on link 0, then its work goes on. */
    private static void checkStay(OpticalTelegraph x, int step, int minutes) {
        int[] readings = {0, 0, 1, 2, 2};
        x.run(minutes);
        check.due("step(0, 0) stays at " + step, x.step(0, 0), step);
        check.due("linkCount(0, 0) at step " + step, x.linkCount(0, 0), readings[step]);
        check.due("shown(0) at step " + step, x.shown(0), 0);
        x.run(1);
        check.due("step(0, 0) goes on from " + step, x.step(0, 0), (step + 1) % 4);
        check.due("linkCount(0, 0) after step " + step, x.linkCount(0, 0), readings[step + 1]);
        check.due("message(0, 7) after step " + step, x.message(0, 7), step < 2 ? 0 : 1);
    }

    private static void stepsStayInFog() {
        check.part("that is not blind in this minute: On other links nothing is done; their steps stay (fog)");
        for (int step = 0; step < 4; step++) {
            OpticalTelegraph x = atStep(step);
            x.addFog(0, step, step);
            checkStay(x, step, 1);
        }
    }

    private static void stepsStayAtNight() {
        check.part("that is not blind in this minute: On other links nothing is done; their steps stay (night)");
        for (int step = 1; step < 4; step++) {
            OpticalTelegraph x = atStep(step);
            x.setDay(step + 1, step);
            checkStay(x, step, 1);
        }
    }

    private static void stepsStayForAnother() {
        check.part("On other links nothing is done; their steps stay (another message)");
        for (int step = 0; step < 4; step++) {
            OpticalTelegraph x = atStep(step);
            Check.send(x, "b", 2, 1, 1);
            checkStay(x, step, 6);
            check.due("message(1, 6)", x.message(1, 6), step + 6);
        }
        check.part("For each message there is a step on each link of its way");
        for (int step = 2; step < 4; step++) {
            OpticalTelegraph x = atStep(step);
            int before = x.linkCount(0, 0);
            Check.send(x, "b", 1, 0, 1);
            check.due("step(1, 0)", x.step(1, 0), 0);
            x.run(6);
            check.due("message(1, 6)", x.message(1, 6), step + 6);
            check.due("linkCount(0, 0)", x.linkCount(0, 0), before + 4);
            check.due("step(0, 0) stays at " + step, x.step(0, 0), step);
            x.run(1);
            check.due("step(0, 0) goes on from " + step, x.step(0, 0), (step + 1) % 4);
        }
    }

    private static void readingsAreCounted() {
        check.part("The readings of a link are counted from 1");
        for (int reading = 1; reading <= 8; reading++) {
            OpticalTelegraph x = new OpticalTelegraph();
            x.addFault(0, reading, 30);
            Check.send(x, "ab", 0, 1, 0);
            x.run(20);
            // Three signs have six readings; a wrong one costs an error and four minutes.
            check.due("message(0, 7), fault in reading " + reading, x.message(0, 7), reading <= 6 ? 1 : 0);
            check.due("message(0, 6), fault in reading " + reading, x.message(0, 6), reading <= 6 ? 13 : 9);
            check.due("linkCount(0, 0)", x.linkCount(0, 0), reading <= 6 ? 8 : 6);
            // Such a fault of another link is another fault.
            check.due("linkCount(1, 0)", x.linkCount(1, 0), 0);
        }
    }

    private static void readingsOfAllMessages() {
        check.part("A fault belongs to a link and a number of a reading");
        OpticalTelegraph x = new OpticalTelegraph();
        x.addFault(1, 5, 1);
        x.addFault(2, 1, 1);
        Check.send(x, "a", 1, 2, 1);
        Check.send(x, "a", 2, 1, 0);
        x.run(8);
        check.due("shown(1), read in the fifth reading", x.shown(1), 2);
        x.run(8);
        check.due("message(0, 7)", x.message(0, 7), 0);
        check.due("message(1, 7)", x.message(1, 7), 1);
        check.due("message(1, 6)", x.message(1, 6), 16);
        check.due("linkCount(1, 0)", x.linkCount(1, 0), 10);
        // A reading that has been does not come again, nor does its fault.
        x.addFault(1, 10, 1);
        Check.send(x, "a", 1, 2, 1);
        x.run(6);
        check.due("message(2, 7)", x.message(2, 7), 0);
        check.due("message(2, 6)", x.message(2, 6), 22);
    }

    private static void lastReadingThatCanBe() {
        check.part("The readings of a link: ten messages of 30 signs have 600 of them");
        for (int reading = 600; reading <= 601; reading++) {
            OpticalTelegraph x = new OpticalTelegraph();
            x.addFault(2, reading, 50);
            Check.write(x, "z".repeat(29));
            for (int m = 0; m < 10; m++) {
                x.send(3, 2, 0);
            }
            Check.runTo(x, 899);
            check.due("value(3)", x.value(3), 1);
            x.run(1);
            check.due("linkCount(2, 0)", x.linkCount(2, 0), 600);
            check.due("message(9, 7)", x.message(9, 7), reading == 600 ? 1 : 0);
            check.due("message(9, 6)", x.message(9, 6), reading == 600 ? -6 : 900);
            x.run(4);
            check.due("message(9, 6)", x.message(9, 6), reading == 600 ? 904 : 900);
        }
    }

    private static void readingsModulo() {
        check.part("what is read is the shown sign plus the offset, modulo 100");
        int[][] letters = {{1, 1, 2}, {1, 97, 98}, {1, 98, 99}, {1, 99, 0}, {26, 1, 27}, {26, 73, 99}, {26, 74, 0}, {26, 75, 1}, {26, 99, 25}};
        for (int[] l : letters) {
            OpticalTelegraph x = new OpticalTelegraph();
            x.addFault(0, 1, l[1]);
            x.type((char) (96 + l[0]));
            x.send(0, 1, 0);
            x.run(2);
            check.due("sign " + l[0] + " read with the offset " + l[1], x.shown(1), l[2]);
        }
        int[][] numbers = {{30, 69, 99}, {30, 70, 0}, {95, 4, 99}, {95, 5, 0}, {95, 6, 1}, {95, 99, 94}};
        for (int[] n : numbers) {
            OpticalTelegraph x = new OpticalTelegraph();
            x.addFault(0, 3, n[1]);
            x.type('a');
            x.addWord(n[0], 60);
            x.send(0, 1, 0);
            x.run(5);
            check.due("sign " + n[0] + " read with the offset " + n[1], x.shown(1), n[2]);
        }
        // A wrong sign on its way: 99 and 0 come out of link 0 and are read again on link 1.
        int[][] wrong = {{98, 0, 99}, {98, 1, 0}, {98, 99, 98}, {99, 0, 0}, {99, 1, 1}, {99, 99, 99}};
        for (int[] w : wrong) {
            OpticalTelegraph x = new OpticalTelegraph();
            x.addFault(0, 1, w[0]);
            x.addFault(0, 2, 100 - w[0]);
            if (w[1] > 0) {
                x.addFault(1, 1, w[1]);
            }
            Check.send(x, "a", 0, 2, 0);
            x.run(5);
            check.due("sign(0, 1, 0)", x.sign(0, 1, 0), (1 + w[0]) % 100);
            check.due("it is read again with the offset " + w[1], x.shown(2), w[2]);
        }
    }

    private static void wrongReadingsMakeUp() {
        check.part("a wrong reading in step 2 leads to an error, unless it makes up for the one before it");
        for (int first = 0; first <= 99; first++) {
            for (int second = 0; second <= 99; second++) {
                if (first + second > 0) {
                    checkTwoFaults(first, second);
                }
            }
        }
    }

    /** Faults of the first two readings; there is none where the offset is 0. */
    private static void checkTwoFaults(int first, int second) {
        OpticalTelegraph x = new OpticalTelegraph();
        String faults = " with the offsets " + first + " and " + second;
        boolean passed = first + second == 100;
        if (first > 0) {
            x.addFault(0, 1, first);
        }
        if (second > 0) {
            x.addFault(0, 2, second);
        }
        Check.send(x, "m", 0, 1, 0);
        x.run(3);
        check.due("copied(0, 1)" + faults, x.copied(0, 1), passed ? 1 : 0);
        check.due("sign(0, 1, 0)" + faults, x.sign(0, 1, 0), passed ? (13 + first) % 100 : -6);
        check.due("step(0, 0)" + faults, x.step(0, 0), passed ? 0 : 3);
        check.due("message(0, 7)" + faults, x.message(0, 7), passed ? 0 : 1);
        check.due("linkCount(0, 2)" + faults, x.linkCount(0, 2), passed ? 1 : 0);
        // An error does no harm: the sign is passed on at the next attempt.
        x.run(10);
        check.due("message(0, 6)" + faults, x.message(0, 6), passed ? 6 : 10);
    }
}

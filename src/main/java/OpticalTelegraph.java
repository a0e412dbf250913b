/** A line of towers that pass on messages sign by sign, as DOC.md describes it. */
public final class OpticalTelegraph {
    public static final int NO_SUCH_PLACE = -1;
    public static final int NO_SUCH_MESSAGE = -2;
    public static final int BAD_VALUE = -3;
    public static final int NOT_POSSIBLE = -4;
    public static final int FULL = -5;
    public static final int NONE = -6;

    private static final int MIN_TOWERS = 3;
    private static final int MAX_TOWERS = 8;
    private static final int FIRST_TOWERS = 4;
    private static final int MAX_LINKS = MAX_TOWERS - 1;
    private static final int MAX_DAY = 10000;
    private static final int FIRST_DAY = 1000;
    private static final int MAX_FOGS = 12;
    private static final int MAX_FOG_MINUTE = 100000;
    private static final int MAX_FAULTS = 16;
    private static final int MAX_FAULT_READING = 10000;
    private static final int MAX_OFFSET = 99;

    private static final int MAX_TEXT = 60;
    private static final int MAX_WORDS = 20;
    private static final int MAX_LETTERS = 10;
    private static final int MIN_BOOK_NUMBER = 30;
    private static final int MAX_BOOK_NUMBER = 95;
    private static final int NO_FAULT = -1;
    private static final int NOT_FOUND = -1;
    private static final int FAULTY_TEXT = -100;

    private static final int REST_SIGN = 0;
    private static final int LAST_LETTER = 26;
    private static final int END_SIGN = 27;
    private static final int BOOK_SIGN = 28;
    private static final int ERROR_SIGN = 99;
    private static final int ALL_SIGNS = 100;

    private static final int MAX_MESSAGES = 10;
    private static final int MAX_SIGNS = 30;
    private static final int MAX_PRIORITY = 2;
    private static final int UNDER_WAY = 0;
    private static final int ARRIVED = 1;
    private static final int CANCELLED = 2;

    private static final int MAX_RUN = 300;
    private static final int FORECAST_MINUTES = 2000;
    private static final int EFFECT_ZERO = 10000;
    private static final int MINUTES_PER_SIGN = 3;

    private final Text text;
    private final CodeBook book;
    private final int[] signs;
    private final Line line;
    // Forecasts are played on a second line, so that they change nothing and need no new objects.
    private final Line trial;

    public OpticalTelegraph() {
        text = new Text();
        book = new CodeBook();
        signs = new int[MAX_SIGNS];
        line = new Line();
        trial = new Line();
    }

    // ---- line

    public int reset(int towers) {
        if (!isWithin(towers, MIN_TOWERS, MAX_TOWERS)) {
            return BAD_VALUE;
        }
        int previous = line.towers;
        line.begin(towers);
        return previous;
    }

    public int setDay(int length, int light) {
        if (!isWithin(length, 1, MAX_DAY) || !isWithin(light, 1, length)) {
            return BAD_VALUE;
        }
        return line.weather.changeDay(length, light) ? 1 : 0;
    }

    public int addFog(int link, int first, int last) {
        if (!line.hasLink(link)) {
            return NO_SUCH_PLACE;
        }
        if (!isWithin(first, 0, MAX_FOG_MINUTE) || !isWithin(last, first, MAX_FOG_MINUTE)) {
            return BAD_VALUE;
        }
        if (line.weather.fogCount >= MAX_FOGS) {
            return FULL;
        }
        line.weather.takeFog(link, first, last);
        return line.weather.fogCount;
    }

    public int addFault(int link, int reading, int offset) {
        if (!line.hasLink(link)) {
            return NO_SUCH_PLACE;
        }
        if (!isWithin(reading, 1, MAX_FAULT_READING) || !isWithin(offset, 1, MAX_OFFSET)) {
            return BAD_VALUE;
        }
        if (line.faults.offsetOf(link, reading) != 0) {
            return NOT_POSSIBLE;
        }
        if (line.faults.count >= MAX_FAULTS) {
            return FULL;
        }
        line.faults.take(link, reading, offset);
        return line.faults.count;
    }

    public int isBlind(int link) {
        if (!line.hasLink(link)) {
            return NO_SUCH_PLACE;
        }
        return line.willBeBlind(link) ? 1 : 0;
    }

    public int linkCount(int link, int what) {
        if (!line.hasLink(link)) {
            return NO_SUCH_PLACE;
        }
        LinkCounts counts = line.counts[link];
        switch (what) {
            case 0:
                return counts.readings;
            case 1:
                return counts.errors;
            case 2:
                return counts.passedOn;
            case 3:
                return counts.blindMinutes;
            default:
                return BAD_VALUE;
        }
    }

    // ---- text and code book

    public int type(char character) {
        if (text.length >= MAX_TEXT) {
            return FULL;
        }
        text.append(character);
        return text.length;
    }

    public int clearText() {
        int previous = text.length;
        text.length = 0;
        return previous;
    }

    public int addWord(int page, int row) {
        if (!isBookNumber(page) || !isBookNumber(row) || !text.isBookWord()) {
            return BAD_VALUE;
        }
        if (book.placeOf(text, 0, text.length) != NOT_FOUND || book.placeAt(page, row) != NOT_FOUND) {
            return NOT_POSSIBLE;
        }
        if (book.count >= MAX_WORDS) {
            return FULL;
        }
        book.take(text, page, row);
        return book.count;
    }

    public int removeWord() {
        int place = book.placeOf(text, 0, text.length);
        if (place == NOT_FOUND) {
            return NONE;
        }
        book.drop(place);
        return book.count;
    }

    public int signCount() {
        int fault = text.faultPlace();
        if (fault != NO_FAULT) {
            return FAULTY_TEXT - fault;
        }
        return book.encode(text, signs);
    }

    // ---- messages

    public int send(int from, int to, int priority) {
        if (!line.hasTower(from) || !line.hasTower(to)) {
            return NO_SUCH_PLACE;
        }
        if (!isPriority(priority) || from == to) {
            return BAD_VALUE;
        }
        int fault = text.faultPlace();
        if (fault != NO_FAULT) {
            return FAULTY_TEXT - fault;
        }
        int count = book.encode(text, signs);
        if (line.messageCount >= MAX_MESSAGES || count > MAX_SIGNS) {
            return FULL;
        }
        line.startMessage(from, to, priority, signs, count);
        return line.messageCount - 1;
    }

    public int cancel(int message) {
        if (!line.hasMessage(message)) {
            return NO_SUCH_MESSAGE;
        }
        Message cancelled = line.messages[message];
        if (!cancelled.isUnderWay()) {
            return NOT_POSSIBLE;
        }
        cancelled.state = CANCELLED;
        line.forgetTasks();
        return cancelled.lengths[cancelled.to];
    }

    public int setPriority(int message, int priority) {
        if (!line.hasMessage(message)) {
            return NO_SUCH_MESSAGE;
        }
        if (!isPriority(priority)) {
            return BAD_VALUE;
        }
        if (!line.messages[message].isUnderWay()) {
            return NOT_POSSIBLE;
        }
        int previous = line.messages[message].priority;
        line.changePriority(message, priority);
        return previous;
    }

    public int message(int message, int what) {
        if (!line.hasMessage(message)) {
            return NO_SUCH_MESSAGE;
        }
        Message asked = line.messages[message];
        switch (what) {
            case 0:
                return asked.from;
            case 1:
                return asked.to;
            case 2:
                return asked.priority;
            case 3:
                return asked.wholeLength;
            case 4:
                return asked.state;
            case 5:
                return asked.sentAt;
            case 6:
                return asked.arrivalOrNone();
            case 7:
                return asked.errors;
            default:
                return BAD_VALUE;
        }
    }

    public int copied(int message, int tower) {
        int error = copyError(message, tower);
        if (error != 0) {
            return error;
        }
        Message asked = line.messages[message];
        return asked.passesTower(tower) ? asked.lengths[tower] : NONE;
    }

    public int sign(int message, int tower, int k) {
        int error = copyError(message, tower);
        if (error != 0) {
            return error;
        }
        if (k < 0) {
            return BAD_VALUE;
        }
        return line.messages[message].signAt(tower, k);
    }

    public int reading(int message, int tower, int i) {
        int error = copyError(message, tower);
        if (error != 0) {
            return error;
        }
        if (i < 0) {
            return BAD_VALUE;
        }
        return book.characterOf(line.messages[message], tower, i);
    }

    public int step(int message, int link) {
        if (!line.hasMessage(message)) {
            return NO_SUCH_MESSAGE;
        }
        if (!line.hasLink(link)) {
            return NO_SUCH_PLACE;
        }
        Message asked = line.messages[message];
        return asked.passesLink(link) ? asked.steps[link] : NONE;
    }

    // ---- time

    public int run(int minutes) {
        if (!isWithin(minutes, 1, MAX_RUN)) {
            return BAD_VALUE;
        }
        for (int i = 0; i < minutes; i++) {
            line.passMinute();
        }
        return line.countUnderWay();
    }

    public int value(int what) {
        switch (what) {
            case 0:
                return line.time;
            case 1:
                return line.towers;
            case 2:
                return line.messageCount;
            case 3:
                return line.countUnderWay();
            case 4:
                return book.count;
            case 5:
                return line.weather.fogCount;
            case 6:
                return line.faults.count;
            default:
                return BAD_VALUE;
        }
    }

    public int shown(int tower) {
        if (!line.hasTower(tower)) {
            return NO_SUCH_PLACE;
        }
        return line.shownSigns[tower];
    }

    public int task(int tower, int what) {
        if (!line.hasTower(tower)) {
            return NO_SUCH_PLACE;
        }
        if (!isWithin(what, 0, 1)) {
            return BAD_VALUE;
        }
        line.chooseTasks();
        return what == 0 ? line.takenMessages[tower] : line.takenLinks[tower];
    }

    // ---- forecasts

    public int forecast(int message) {
        if (!line.hasMessage(message)) {
            return NO_SUCH_MESSAGE;
        }
        trial.copyFrom(line);
        return trial.awaitArrival(message);
    }

    public int effect(int message, int other, int priority) {
        if (!line.hasMessage(message) || !line.hasMessage(other)) {
            return NO_SUCH_MESSAGE;
        }
        if (!isPriority(priority)) {
            return BAD_VALUE;
        }
        if (!line.messages[other].isUnderWay()) {
            return NOT_POSSIBLE;
        }
        trial.copyFrom(line);
        int unchanged = trial.awaitArrival(message);
        trial.copyFrom(line);
        trial.changePriority(other, priority);
        int changed = trial.awaitArrival(message);
        if (unchanged == NONE || changed == NONE) {
            return NONE;
        }
        return changed - unchanged + EFFECT_ZERO;
    }

    public int leastMinutes(int message) {
        if (!line.hasMessage(message)) {
            return NO_SUCH_MESSAGE;
        }
        return line.messages[message].minutesAlone();
    }

    // ---- checks

    private static boolean isWithin(int number, int least, int most) {
        return number >= least && number <= most;
    }

    private static boolean isPriority(int number) {
        return isWithin(number, 0, MAX_PRIORITY);
    }

    private static boolean isBookNumber(int number) {
        return isWithin(number, MIN_BOOK_NUMBER, MAX_BOOK_NUMBER);
    }

    /** The error of a call that asks for a copy, or 0, which is no error's number. */
    private int copyError(int message, int tower) {
        if (!line.hasMessage(message)) {
            return NO_SUCH_MESSAGE;
        }
        return line.hasTower(tower) ? 0 : NO_SUCH_PLACE;
    }

    /** The day and the fogs. */
    private static final class Weather {
        private int dayLength = FIRST_DAY;
        private int lightTime = FIRST_DAY;
        private final int[] fogLinks = new int[MAX_FOGS];
        private final int[] firstMinutes = new int[MAX_FOGS];
        private final int[] lastMinutes = new int[MAX_FOGS];
        private int fogCount;

        boolean changeDay(int length, int light) {
            boolean changed = length != dayLength || light != lightTime;
            dayLength = length;
            lightTime = light;
            return changed;
        }

        void clearFogs() {
            fogCount = 0;
        }

        void takeFog(int link, int first, int last) {
            if (fogCount < MAX_FOGS) {
                fogLinks[fogCount] = link;
                firstMinutes[fogCount] = first;
                lastMinutes[fogCount] = last;
                fogCount++;
            }
        }

        void copyFrom(Weather other) {
            dayLength = other.dayLength;
            lightTime = other.lightTime;
            fogCount = other.fogCount;
            System.arraycopy(other.fogLinks, 0, fogLinks, 0, fogCount);
            System.arraycopy(other.firstMinutes, 0, firstMinutes, 0, fogCount);
            System.arraycopy(other.lastMinutes, 0, lastMinutes, 0, fogCount);
        }

        boolean isDark(int minute) {
            return dayLength > 0 && minute % dayLength >= lightTime;
        }

        /** All links are marked at once: the fogs are gone through once a minute, not once a link. */
        void markBlind(int minute, boolean[] blind) {
            boolean dark = isDark(minute);
            for (int i = 0; i < blind.length; i++) {
                blind[i] = dark;
            }
            for (int i = 0; i < fogCount; i++) {
                if (minute >= firstMinutes[i] && minute <= lastMinutes[i] && fogLinks[i] < blind.length) {
                    blind[fogLinks[i]] = true;
                }
            }
        }
    }

    /** The faults, of past readings too. */
    private static final class Faults {
        private final int[] links = new int[MAX_FAULTS];
        private final int[] readings = new int[MAX_FAULTS];
        private final int[] offsets = new int[MAX_FAULTS];
        private int count;

        void clear() {
            count = 0;
        }

        void take(int link, int reading, int offset) {
            if (count < MAX_FAULTS) {
                links[count] = link;
                readings[count] = reading;
                offsets[count] = offset;
                count++;
            }
        }

        void copyFrom(Faults other) {
            count = other.count;
            System.arraycopy(other.links, 0, links, 0, count);
            System.arraycopy(other.readings, 0, readings, 0, count);
            System.arraycopy(other.offsets, 0, offsets, 0, count);
        }

        /** 0 for a right reading: no fault has this offset. */
        int offsetOf(int link, int reading) {
            for (int i = 0; i < count; i++) {
                if (links[i] == link && readings[i] == reading) {
                    return offsets[i];
                }
            }
            return 0;
        }
    }

    /**
     * The text. Of a character it keeps only what the document ever asks for: the number of a
     * letter, or that it is a blank or another character.
     */
    private static final class Text {
        private static final int BLANK = 0;
        private static final int OTHER = -1;

        private final int[] codes = new int[MAX_TEXT];
        private int length;

        void append(char character) {
            if (length < MAX_TEXT) {
                codes[length] = codeOf(character);
                length++;
            }
        }

        private static int codeOf(char character) {
            if (character >= 'a' && character <= 'z') {
                return character - 'a' + 1;
            }
            return character == ' ' ? BLANK : OTHER;
        }

        boolean isLetter(int place) {
            return codes[place] > BLANK;
        }

        int faultPlace() {
            boolean inWord = false;
            for (int i = 0; i < length; i++) {
                if (!isLetter(i) && (codes[i] == OTHER || !inWord)) {
                    return i;
                }
                inWord = isLetter(i);
            }
            return inWord ? NO_FAULT : length;
        }

        boolean isBookWord() {
            for (int i = 0; i < length; i++) {
                if (!isLetter(i)) {
                    return false;
                }
            }
            return isWithin(length, 1, MAX_LETTERS);
        }

        boolean isWordEnd(int place) {
            return place == length || codes[place] == BLANK;
        }
    }

    private static final class Word {
        private final int[] letters = new int[MAX_LETTERS];
        private int length;
        private int page;
        private int row;

        void become(Text text, int itsPage, int itsRow) {
            length = Math.min(text.length, MAX_LETTERS);
            System.arraycopy(text.codes, 0, letters, 0, length);
            page = itsPage;
            row = itsRow;
        }

        boolean stands(Text text, int first, int end) {
            if (end - first != length) {
                return false;
            }
            for (int i = 0; i < length; i++) {
                if (text.codes[first + i] != letters[i]) {
                    return false;
                }
            }
            return true;
        }
    }

    /** The code book: it turns a text into signs, and signs into a text. */
    private static final class CodeBook {
        private final Word[] words = new Word[MAX_WORDS];
        private int count;

        CodeBook() {
            for (int i = 0; i < MAX_WORDS; i++) {
                words[i] = new Word();
            }
        }

        int placeOf(Text text, int first, int end) {
            for (int i = 0; i < count; i++) {
                if (words[i].stands(text, first, end)) {
                    return i;
                }
            }
            return NOT_FOUND;
        }

        int placeAt(int page, int row) {
            for (int i = 0; i < count; i++) {
                if (words[i].page == page && words[i].row == row) {
                    return i;
                }
            }
            return NOT_FOUND;
        }

        void take(Text text, int page, int row) {
            if (count < MAX_WORDS) {
                words[count].become(text, page, row);
                count++;
            }
        }

        /** The dropped word changes places with the last one: no call can see the order of the words. */
        void drop(int place) {
            if (place >= 0 && place < count) {
                count--;
                Word dropped = words[place];
                words[place] = words[count];
                words[count] = dropped;
            }
        }

        /** Returns the number of all signs, also if there is no room for some of them; the text has no fault. */
        int encode(Text text, int[] signs) {
            int written = 0;
            int first = 0;
            for (int i = 0; i <= text.length; i++) {
                if (text.isWordEnd(i)) {
                    written = encodeWord(text, first, i, signs, written);
                    first = i + 1;
                }
            }
            return written;
        }

        private int encodeWord(Text text, int first, int end, int[] signs, int written) {
            int place = placeOf(text, first, end);
            if (place != NOT_FOUND) {
                put(signs, written, BOOK_SIGN);
                put(signs, written + 1, words[place].page);
                put(signs, written + 2, words[place].row);
                return written + 3;
            }
            int next = written;
            for (int i = first; i < end; i++) {
                put(signs, next, text.codes[i]);
                next++;
            }
            put(signs, next, END_SIGN);
            return next + 1;
        }

        private static void put(int[] signs, int place, int sign) {
            if (place < signs.length) {
                signs[place] = sign;
            }
        }

        /** The character with this index in the reading of a copy, or NONE. */
        int characterOf(Message message, int tower, int index) {
            if (!message.passesTower(tower)) {
                return NONE;
            }
            int left = index;
            int length = message.lengths[tower];
            for (int k = 0; k < length; k++) {
                int sign = message.signAt(tower, k);
                if (sign == BOOK_SIGN && k + 2 < length) {
                    int place = placeAt(message.signAt(tower, k + 1), message.signAt(tower, k + 2));
                    int wordLength = place == NOT_FOUND ? 1 : words[place].length;
                    if (left <= wordLength) {
                        return characterInWord(place, left);
                    }
                    left -= wordLength + 1;
                    k += 2;
                } else if (left == 0) {
                    return characterFor(sign);
                } else {
                    left--;
                }
            }
            return NONE;
        }

        private int characterInWord(int place, int index) {
            if (place == NOT_FOUND) {
                return index == 0 ? '?' : ' ';
            }
            return index < words[place].length ? characterFor(words[place].letters[index]) : ' ';
        }

        private static int characterFor(int sign) {
            if (isWithin(sign, 1, LAST_LETTER)) {
                return 'a' + sign - 1;
            }
            return sign == END_SIGN ? ' ' : '#';
        }
    }

    /** A message with the copies of the towers on its way and its steps on the links there. */
    private static final class Message {
        private int from;
        private int to;
        private boolean goesUp;
        private int lowest;
        private int highest;
        private int priority;
        private int wholeLength;
        private int state;
        private int sentAt;
        private int arrivedAt;
        private int errors;
        // The copy of tower t begins at t * MAX_SIGNS.
        private final int[] copies = new int[MAX_TOWERS * MAX_SIGNS];
        private final int[] lengths = new int[MAX_TOWERS];
        private final int[] steps = new int[MAX_LINKS];
        // What was read in step 1 is kept here, since other work may come in between before step 2.
        private final int[] heard = new int[MAX_LINKS];

        void begin(int first, int last, int itsPriority, int time) {
            from = first;
            to = last;
            goesUp = first < last;
            lowest = Math.min(first, last);
            highest = Math.max(first, last);
            priority = itsPriority;
            state = UNDER_WAY;
            sentAt = time;
            arrivedAt = 0;
            errors = 0;
            for (int i = 0; i < MAX_TOWERS; i++) {
                lengths[i] = 0;
            }
            for (int i = 0; i < MAX_LINKS; i++) {
                steps[i] = 0;
                heard[i] = REST_SIGN;
            }
        }

        void fill(int[] signs, int count) {
            wholeLength = Math.min(count, MAX_SIGNS);
            System.arraycopy(signs, 0, copies, from * MAX_SIGNS, wholeLength);
            lengths[from] = wholeLength;
        }

        void copyFrom(Message other) {
            from = other.from;
            to = other.to;
            goesUp = other.goesUp;
            lowest = other.lowest;
            highest = other.highest;
            priority = other.priority;
            wholeLength = other.wholeLength;
            state = other.state;
            sentAt = other.sentAt;
            arrivedAt = other.arrivedAt;
            errors = other.errors;
            System.arraycopy(other.copies, 0, copies, 0, copies.length);
            System.arraycopy(other.lengths, 0, lengths, 0, lengths.length);
            System.arraycopy(other.steps, 0, steps, 0, steps.length);
            System.arraycopy(other.heard, 0, heard, 0, heard.length);
        }

        boolean isUnderWay() {
            return state == UNDER_WAY;
        }

        boolean passesTower(int tower) {
            return tower >= lowest && tower <= highest;
        }

        boolean passesLink(int link) {
            return link >= lowest && link < highest;
        }

        int towerBefore(int link) {
            return goesUp ? link : link + 1;
        }

        int towerBehind(int link) {
            return goesUp ? link + 1 : link;
        }

        boolean canUse(int link) {
            return isUnderWay() && passesLink(link) && lengths[towerBefore(link)] > lengths[towerBehind(link)];
        }

        /** The link of a tower that this message would have it take, or NONE. */
        int linkFor(int tower) {
            int onward = goesUp ? tower : tower - 1;
            int backward = goesUp ? tower - 1 : tower;
            if (canUse(onward)) {
                return onward;
            }
            return canUse(backward) ? backward : NONE;
        }

        /** Not negative; of two messages with the same rank, the one with the lower number precedes. */
        int rank() {
            return 2 * priority + (goesUp ? 1 : 0);
        }

        /** A sign of a copy, or NONE. */
        int signAt(int tower, int place) {
            if (!passesTower(tower) || place < 0 || place >= lengths[tower]) {
                return NONE;
            }
            return copies[tower * MAX_SIGNS + place];
        }

        /** The sign that is to be passed on over a link of the way. */
        int nextSign(int link) {
            return signAt(towerBefore(link), lengths[towerBehind(link)]);
        }

        void passOn(int link) {
            int behind = towerBehind(link);
            if (lengths[behind] < wholeLength) {
                copies[behind * MAX_SIGNS + lengths[behind]] = heard[link];
                lengths[behind]++;
            }
        }

        boolean isWhole() {
            return lengths[to] >= wholeLength;
        }

        void arrive(int time) {
            state = ARRIVED;
            arrivedAt = time;
        }

        int arrivalOrNone() {
            return state == ARRIVED ? arrivedAt : NONE;
        }

        /**
         * A tower between two links takes the next sign only when it is rid of the one before, so
         * signs follow each other at twice the time of one link.
         */
        int minutesAlone() {
            int links = highest - lowest;
            if (links == 1) {
                return MINUTES_PER_SIGN * wholeLength;
            }
            return MINUTES_PER_SIGN * links + 2 * MINUTES_PER_SIGN * (wholeLength - 1);
        }
    }

    /** What has been counted on a link. */
    private static final class LinkCounts {
        private int readings;
        private int errors;
        private int passedOn;
        private int blindMinutes;

        void clear() {
            readings = 0;
            errors = 0;
            passedOn = 0;
            blindMinutes = 0;
        }

        void copyFrom(LinkCounts other) {
            readings = other.readings;
            errors = other.errors;
            passedOn = other.passedOn;
            blindMinutes = other.blindMinutes;
        }
    }

    /** The towers and links with the messages, the weather and the faults on them. */
    private static final class Line {
        private final Weather weather = new Weather();
        private final Faults faults = new Faults();
        private int towers = FIRST_TOWERS;
        private int time;
        private int messageCount;
        private final Message[] messages = new Message[MAX_MESSAGES];
        private final LinkCounts[] counts = new LinkCounts[MAX_LINKS];
        private final int[] shownSigns = new int[MAX_TOWERS];
        private final boolean[] blind = new boolean[MAX_LINKS];
        private final int[] takenMessages = new int[MAX_TOWERS];
        private final int[] takenLinks = new int[MAX_TOWERS];
        // Most minutes leave the tasks as they were; they are chosen again only after a change.
        private boolean tasksChosen;

        Line() {
            for (int i = 0; i < MAX_MESSAGES; i++) {
                messages[i] = new Message();
            }
            for (int i = 0; i < MAX_LINKS; i++) {
                counts[i] = new LinkCounts();
            }
        }

        void begin(int towerCount) {
            weather.clearFogs();
            faults.clear();
            towers = towerCount;
            time = 0;
            messageCount = 0;
            for (int i = 0; i < MAX_LINKS; i++) {
                counts[i].clear();
            }
            clearShown();
            forgetTasks();
        }

        void copyFrom(Line other) {
            weather.copyFrom(other.weather);
            faults.copyFrom(other.faults);
            towers = other.towers;
            time = other.time;
            messageCount = other.messageCount;
            for (int i = 0; i < messageCount; i++) {
                messages[i].copyFrom(other.messages[i]);
            }
            for (int i = 0; i < MAX_LINKS; i++) {
                counts[i].copyFrom(other.counts[i]);
            }
            System.arraycopy(other.shownSigns, 0, shownSigns, 0, MAX_TOWERS);
            forgetTasks();
        }

        boolean hasTower(int tower) {
            return tower >= 0 && tower < towers;
        }

        boolean hasLink(int link) {
            return link >= 0 && link < towers - 1;
        }

        boolean hasMessage(int number) {
            return number >= 0 && number < messageCount;
        }

        void startMessage(int from, int to, int priority, int[] signs, int count) {
            if (messageCount < MAX_MESSAGES) {
                messages[messageCount].begin(from, to, priority, time);
                messages[messageCount].fill(signs, count);
                messageCount++;
                forgetTasks();
            }
        }

        void changePriority(int number, int priority) {
            messages[number].priority = priority;
            forgetTasks();
        }

        int countUnderWay() {
            int count = 0;
            for (int i = 0; i < messageCount; i++) {
                if (messages[i].isUnderWay()) {
                    count++;
                }
            }
            return count;
        }

        boolean willBeBlind(int link) {
            weather.markBlind(time, blind);
            return blind[link];
        }

        void forgetTasks() {
            tasksChosen = false;
        }

        void chooseTasks() {
            if (tasksChosen) {
                return;
            }
            for (int tower = 0; tower < towers; tower++) {
                takenMessages[tower] = NONE;
                takenLinks[tower] = NONE;
                int takenRank = NONE;
                for (int i = 0; i < messageCount; i++) {
                    int rank = messages[i].rank();
                    int link = rank > takenRank ? messages[i].linkFor(tower) : NONE;
                    if (link != NONE) {
                        takenMessages[tower] = i;
                        takenLinks[tower] = link;
                        takenRank = rank;
                    }
                }
            }
            tasksChosen = true;
        }

        void passMinute() {
            chooseTasks();
            clearShown();
            weather.markBlind(time, blind);
            time++;
            for (int link = 0; link < towers - 1; link++) {
                if (blind[link]) {
                    counts[link].blindMinutes++;
                } else if (isTakenByBoth(link)) {
                    workOn(link, messages[takenMessages[link]]);
                }
            }
        }

        private void clearShown() {
            for (int i = 0; i < MAX_TOWERS; i++) {
                shownSigns[i] = REST_SIGN;
            }
        }

        private boolean isTakenByBoth(int link) {
            return takenLinks[link] == link && takenLinks[link + 1] == link
                && takenMessages[link] == takenMessages[link + 1];
        }

        private void workOn(int link, Message message) {
            int sign = message.nextSign(link);
            int before = message.towerBefore(link);
            switch (message.steps[link]) {
                case 0:
                    shownSigns[before] = sign;
                    message.steps[link] = 1;
                    break;
                case 1:
                    message.heard[link] = readOn(link, sign);
                    shownSigns[before] = sign;
                    shownSigns[message.towerBehind(link)] = message.heard[link];
                    message.steps[link] = 2;
                    break;
                case 2:
                    compare(link, message, sign);
                    break;
                default:
                    shownSigns[before] = ERROR_SIGN;
                    message.steps[link] = 0;
                    break;
            }
        }

        private int readOn(int link, int sign) {
            counts[link].readings++;
            return (sign + faults.offsetOf(link, counts[link].readings)) % ALL_SIGNS;
        }

        private void compare(int link, Message message, int sign) {
            if (readOn(link, message.heard[link]) != sign) {
                counts[link].errors++;
                message.errors++;
                message.steps[link] = 3;
                return;
            }
            message.steps[link] = 0;
            message.passOn(link);
            counts[link].passedOn++;
            if (message.isWhole()) {
                message.arrive(time);
            }
            forgetTasks();
        }

        /** Lets time pass until a message arrives, for as long as a forecast looks ahead. */
        int awaitArrival(int number) {
            Message awaited = messages[number];
            for (int i = 0; i < FORECAST_MINUTES && awaited.isUnderWay(); i++) {
                passMinute();
            }
            return awaited.arrivalOrNone();
        }
    }
}

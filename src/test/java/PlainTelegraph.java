import java.util.ArrayList;
import java.util.List;
import java.util.Map;
import java.util.TreeMap;

/**
 * The document once more, written as literally as can be and without a thought of speed or room:
 * the random runs hold the answers of OpticalTelegraph against it.
 */
final class PlainTelegraph {
    private static final class Sent {
        int number, from, to, priority, state, sentAt, arrival, errors;
        List<Integer> whole = new ArrayList<>();
        Map<Integer, List<Integer>> copies = new TreeMap<>();
        Map<Integer, Integer> steps = new TreeMap<>();
        Map<Integer, Integer> read = new TreeMap<>();

        Sent copy() {
            Sent c = new Sent();
            c.number = number;
            c.from = from;
            c.to = to;
            c.priority = priority;
            c.state = state;
            c.sentAt = sentAt;
            c.arrival = arrival;
            c.errors = errors;
            c.whole = whole;
            for (Map.Entry<Integer, List<Integer>> e : copies.entrySet()) {
                c.copies.put(e.getKey(), new ArrayList<>(e.getValue()));
            }
            c.steps.putAll(steps);
            c.read.putAll(read);
            return c;
        }

        /** The towers in the order in which they are passed. */
        List<Integer> way() {
            List<Integer> way = new ArrayList<>();
            int t = from;
            way.add(t);
            while (t != to) {
                t += to > from ? 1 : -1;
                way.add(t);
            }
            return way;
        }

        int before(int link) {
            return from < to ? link : link + 1;
        }

        int behind(int link) {
            return from < to ? link + 1 : link;
        }

        boolean canUse(int link) {
            return state == 0 && steps.containsKey(link)
                && copies.get(before(link)).size() > copies.get(behind(link)).size();
        }

        boolean precedes(Sent other) {
            if (priority != other.priority) {
                return priority > other.priority;
            }
            boolean up = to > from;
            boolean otherUp = other.to > other.from;
            if (up != otherUp) {
                return up;
            }
            return number < other.number;
        }
    }

    private int n = 4, now, length = 1000, light = 1000;
    private List<int[]> fogs = new ArrayList<>();
    private List<int[]> faults = new ArrayList<>();
    private List<Sent> messages = new ArrayList<>();
    private Map<String, int[]> book = new TreeMap<>();
    private String text = "";
    private int[][] counts = new int[7][4];
    private int[] shows = new int[8];

    private PlainTelegraph copy() {
        PlainTelegraph c = new PlainTelegraph();
        c.n = n;
        c.now = now;
        c.length = length;
        c.light = light;
        c.fogs = fogs;
        c.faults = faults;
        for (Sent m : messages) {
            c.messages.add(m.copy());
        }
        for (int i = 0; i < 7; i++) {
            c.counts[i] = counts[i].clone();
        }
        return c;
    }

    private boolean noTower(int t) {
        return t < 0 || t >= n;
    }

    private boolean noLink(int l) {
        return l < 0 || l > n - 2;
    }

    private boolean noMessage(int m) {
        return m < 0 || m >= messages.size();
    }

    int reset(int towers) {
        if (towers < 3 || towers > 8) {
            return -3;
        }
        int previous = n;
        n = towers;
        now = 0;
        fogs = new ArrayList<>();
        faults = new ArrayList<>();
        messages = new ArrayList<>();
        counts = new int[7][4];
        shows = new int[8];
        return previous;
    }

    int setDay(int newLength, int newLight) {
        if (newLength < 1 || newLength > 10000 || newLight < 1 || newLight > newLength) {
            return -3;
        }
        int answer = newLength == length && newLight == light ? 0 : 1;
        length = newLength;
        light = newLight;
        return answer;
    }

    int addFog(int link, int first, int last) {
        if (noLink(link)) {
            return -1;
        }
        if (first < 0 || first > 100000 || last < first || last > 100000) {
            return -3;
        }
        if (fogs.size() == 12) {
            return -5;
        }
        fogs.add(new int[] {link, first, last});
        return fogs.size();
    }

    int addFault(int link, int reading, int offset) {
        if (noLink(link)) {
            return -1;
        }
        if (reading < 1 || reading > 10000 || offset < 1 || offset > 99) {
            return -3;
        }
        for (int[] f : faults) {
            if (f[0] == link && f[1] == reading) {
                return -4;
            }
        }
        if (faults.size() == 16) {
            return -5;
        }
        faults.add(new int[] {link, reading, offset});
        return faults.size();
    }

    private boolean blindIn(int link, int minute) {
        if (!(minute % length < light)) {
            return true;
        }
        for (int[] f : fogs) {
            if (f[0] == link && f[1] <= minute && minute <= f[2]) {
                return true;
            }
        }
        return false;
    }

    int isBlind(int link) {
        return noLink(link) ? -1 : blindIn(link, now) ? 1 : 0;
    }

    int linkCount(int link, int what) {
        return noLink(link) ? -1 : what < 0 || what > 3 ? -3 : counts[link][what];
    }

    int type(char character) {
        if (text.length() == 60) {
            return -5;
        }
        text += character;
        return text.length();
    }

    int clearText() {
        int answer = text.length();
        text = "";
        return answer;
    }

    int addWord(int page, int row) {
        if (page < 30 || page > 95 || row < 30 || row > 95 || !text.matches("[a-z]{1,10}")) {
            return -3;
        }
        if (book.containsKey(text) || wordAt(page, row) != null) {
            return -4;
        }
        if (book.size() == 20) {
            return -5;
        }
        book.put(text, new int[] {page, row});
        return book.size();
    }

    private String wordAt(int page, int row) {
        for (Map.Entry<String, int[]> e : book.entrySet()) {
            if (e.getValue()[0] == page && e.getValue()[1] == row) {
                return e.getKey();
            }
        }
        return null;
    }

    int removeWord() {
        return book.remove(text) == null ? -6 : book.size();
    }

    /** The longest beginning that could still become a text for a message ends at the fault. */
    private int fault() {
        if (text.matches("[a-z]+( [a-z]+)*")) {
            return -1;
        }
        int good = 0;
        while (good < text.length() && text.substring(0, good + 1).matches("([a-z]+ )*[a-z]*")) {
            good++;
        }
        return good;
    }

    private List<Integer> signs() {
        List<Integer> signs = new ArrayList<>();
        for (String word : text.split(" ")) {
            int[] entry = book.get(word);
            if (entry != null) {
                signs.add(28);
                signs.add(entry[0]);
                signs.add(entry[1]);
            } else {
                for (char c : word.toCharArray()) {
                    signs.add(c - 96);
                }
                signs.add(27);
            }
        }
        return signs;
    }

    int signCount() {
        return fault() >= 0 ? -100 - fault() : signs().size();
    }

    int send(int from, int to, int priority) {
        if (noTower(from) || noTower(to)) {
            return -1;
        }
        if (from == to || priority < 0 || priority > 2) {
            return -3;
        }
        if (fault() >= 0) {
            return -100 - fault();
        }
        if (messages.size() == 10 || signs().size() > 30) {
            return -5;
        }
        Sent m = new Sent();
        m.number = messages.size();
        m.from = from;
        m.to = to;
        m.priority = priority;
        m.sentAt = now;
        m.whole = signs();
        for (int t : m.way()) {
            m.copies.put(t, new ArrayList<>());
        }
        m.copies.get(from).addAll(m.whole);
        for (int l = Math.min(from, to); l < Math.max(from, to); l++) {
            m.steps.put(l, 0);
        }
        messages.add(m);
        return m.number;
    }

    int cancel(int message) {
        if (noMessage(message)) {
            return -2;
        }
        Sent m = messages.get(message);
        if (m.state != 0) {
            return -4;
        }
        m.state = 2;
        return m.copies.get(m.to).size();
    }

    int setPriority(int message, int priority) {
        if (noMessage(message)) {
            return -2;
        }
        if (priority < 0 || priority > 2) {
            return -3;
        }
        Sent m = messages.get(message);
        if (m.state != 0) {
            return -4;
        }
        int previous = m.priority;
        m.priority = priority;
        return previous;
    }

    int message(int message, int what) {
        if (noMessage(message)) {
            return -2;
        }
        if (what < 0 || what > 7) {
            return -3;
        }
        Sent m = messages.get(message);
        return new int[] {m.from, m.to, m.priority, m.whole.size(), m.state, m.sentAt,
            m.state == 1 ? m.arrival : -6, m.errors}[what];
    }

    int copied(int message, int tower) {
        if (noMessage(message)) {
            return -2;
        }
        if (noTower(tower)) {
            return -1;
        }
        List<Integer> copy = messages.get(message).copies.get(tower);
        return copy == null ? -6 : copy.size();
    }

    int sign(int message, int tower, int k) {
        if (noMessage(message)) {
            return -2;
        }
        if (noTower(tower)) {
            return -1;
        }
        if (k < 0) {
            return -3;
        }
        List<Integer> copy = messages.get(message).copies.get(tower);
        return copy == null || k >= copy.size() ? -6 : copy.get(k);
    }

    int reading(int message, int tower, int i) {
        if (noMessage(message)) {
            return -2;
        }
        if (noTower(tower)) {
            return -1;
        }
        if (i < 0) {
            return -3;
        }
        List<Integer> copy = messages.get(message).copies.get(tower);
        if (copy == null) {
            return -6;
        }
        String all = "";
        List<Integer> rest = copy;
        while (!rest.isEmpty()) {
            int sign = rest.get(0);
            int used = 1;
            if (sign >= 1 && sign <= 26) {
                all += (char) (96 + sign);
            } else if (sign == 27) {
                all += " ";
            } else if (sign == 28 && rest.size() >= 3) {
                String word = wordAt(rest.get(1), rest.get(2));
                all += word == null ? "? " : word + " ";
                used = 3;
            } else {
                all += "#";
            }
            rest = rest.subList(used, rest.size());
        }
        return i < all.length() ? all.charAt(i) : -6;
    }

    int step(int message, int link) {
        if (noMessage(message)) {
            return -2;
        }
        if (noLink(link)) {
            return -1;
        }
        return messages.get(message).steps.getOrDefault(link, -6);
    }

    private int underWay() {
        int count = 0;
        for (Sent m : messages) {
            count += m.state == 0 ? 1 : 0;
        }
        return count;
    }

    /** The message and the link that a tower takes, or null. */
    private int[] taken(int tower) {
        Sent first = null;
        for (Sent m : messages) {
            if ((m.canUse(tower - 1) || m.canUse(tower)) && (first == null || m.precedes(first))) {
                first = m;
            }
        }
        if (first == null) {
            return null;
        }
        boolean both = first.canUse(tower - 1) && first.canUse(tower);
        int onward = first.to > first.from ? tower : tower - 1;
        return new int[] {first.number, both ? onward : first.canUse(tower) ? tower : tower - 1};
    }

    private int read(int link, int shown) {
        counts[link][0]++;
        for (int[] f : faults) {
            if (f[0] == link && f[1] == counts[link][0]) {
                return (shown + f[2]) % 100;
            }
        }
        return shown;
    }

    private void minute() {
        int[][] tasks = new int[n][];
        for (int t = 0; t < n; t++) {
            tasks[t] = taken(t);
        }
        shows = new int[8];
        for (int l = 0; l < n - 1; l++) {
            if (blindIn(l, now)) {
                counts[l][3]++;
                continue;
            }
            int[] a = tasks[l];
            int[] b = tasks[l + 1];
            if (a != null && b != null && a[1] == l && b[1] == l && a[0] == b[0]) {
                work(messages.get(a[0]), l);
            }
        }
        now++;
    }

    private void work(Sent m, int l) {
        int before = m.before(l);
        int behind = m.behind(l);
        int sign = m.copies.get(before).get(m.copies.get(behind).size());
        int step = m.steps.get(l);
        if (step == 0) {
            shows[before] = sign;
            m.steps.put(l, 1);
        } else if (step == 1) {
            m.read.put(l, read(l, sign));
            shows[before] = sign;
            shows[behind] = m.read.get(l);
            m.steps.put(l, 2);
        } else if (step == 2) {
            if (read(l, m.read.get(l)) == sign) {
                m.copies.get(behind).add(m.read.get(l));
                counts[l][2]++;
                m.steps.put(l, 0);
                if (behind == m.to && m.copies.get(behind).size() == m.whole.size()) {
                    m.state = 1;
                    m.arrival = now + 1;
                }
            } else {
                counts[l][1]++;
                m.errors++;
                m.steps.put(l, 3);
            }
        } else {
            shows[before] = 99;
            m.steps.put(l, 0);
        }
    }

    int run(int minutes) {
        if (minutes < 1 || minutes > 300) {
            return -3;
        }
        for (int i = 0; i < minutes; i++) {
            minute();
        }
        return underWay();
    }

    int value(int what) {
        if (what < 0 || what > 6) {
            return -3;
        }
        return new int[] {now, n, messages.size(), underWay(), book.size(), fogs.size(), faults.size()}[what];
    }

    int shown(int tower) {
        return noTower(tower) ? -1 : shows[tower];
    }

    int task(int tower, int what) {
        if (noTower(tower)) {
            return -1;
        }
        if (what < 0 || what > 1) {
            return -3;
        }
        int[] task = taken(tower);
        return task == null ? -6 : task[what];
    }

    int forecast(int message) {
        if (noMessage(message)) {
            return -2;
        }
        PlainTelegraph later = copy();
        Sent m = later.messages.get(message);
        for (int i = 0; i < 2000 && m.state == 0; i++) {
            later.minute();
        }
        return m.state == 1 ? m.arrival : -6;
    }

    int effect(int message, int other, int priority) {
        if (noMessage(message) || noMessage(other)) {
            return -2;
        }
        if (priority < 0 || priority > 2) {
            return -3;
        }
        if (messages.get(other).state != 0) {
            return -4;
        }
        PlainTelegraph changed = copy();
        changed.setPriority(other, priority);
        int a = forecast(message);
        int b = changed.forecast(message);
        return a == -6 || b == -6 ? -6 : b - a + 10000;
    }

    int leastMinutes(int message) {
        if (noMessage(message)) {
            return -2;
        }
        Sent m = messages.get(message);
        PlainTelegraph alone = new PlainTelegraph();
        alone.reset(8);
        alone.text = "a";
        alone.send(m.from, m.to, 0);
        Sent only = alone.messages.get(0);
        only.whole = m.whole;
        only.copies.put(m.from, new ArrayList<>(m.whole));
        while (only.state == 0) {
            alone.minute();
        }
        return only.arrival;
    }
}

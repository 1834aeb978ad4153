import java.nio.charset.StandardCharsets;

/** What the tests share: answers are checked against those that are due, and wrong ones are printed. */
final class Check {
    private final String name;
    private int checked = 0;
    private int wrong = 0;

    Check(String name) {
        this.name = name;
    }

    void due(String what, long got, long want) {
        checked++;
        if (got != want) {
            wrong++;
            System.out.println(name + ": " + what + " answered " + got + ", due is " + want);
        }
    }

    void finish() {
        System.out.println(name + ": " + checked + " answers, " + wrong + " wrong");
        if (wrong != 0 || checked == 0) {
            System.exit(1);
        }
    }

    /** Feeds a text, eight bytes a call as far as they go, and answers what the last call did. */
    static int feed(OrchestraYear year, String text) {
        byte[] bytes = text.getBytes(StandardCharsets.ISO_8859_1);
        int answer = 0;
        for (int i = 0; i < bytes.length; i += 8) {
            int n = Math.min(8, bytes.length - i);
            answer = year.feed(n, packed(bytes, i, n));
        }
        return answer;
    }

    static long packed(byte[] bytes, int from, int n) {
        long sum = 0;
        for (int i = 0; i < n; i++) {
            sum |= (bytes[from + i] & 255L) << (8 * i);
        }
        return sum;
    }

    static int text(OrchestraYear year, String text) {
        feed(year, text);
        return year.text();
    }

    /** A new object on which a text is in force from day 0 on. */
    static OrchestraYear under(String text) {
        OrchestraYear year = new OrchestraYear();
        int number = text(year, text);
        if (number != 1 || year.force(1, 0) != 1) {
            throw new IllegalStateException("no text: " + text);
        }
        return year;
    }

    /** A service with one work of such needs. */
    static int serviceFor(OrchestraYear year, int kind, int day, int hour, int length, int needs) {
        int work = year.work(10, 0, needs);
        int service = year.service(kind, day, hour, length);
        if (year.call(service, work) != 1) {
            throw new IllegalStateException("work " + work + " does not come to service " + service);
        }
        return service;
    }
}

import java.lang.reflect.Method;
import java.lang.reflect.Modifier;
import java.nio.charset.StandardCharsets;
import java.util.Arrays;
import java.util.Base64;
import java.util.Comparator;

/** Speaks with an AddressHouse in texts, and counts what is not as it is due. */
final class Talk {
    static final String XML_HEAD = "<?xml version=\"1.0\" encoding=\"utf-8\"?>";
    static final String SPACES = " xmlns:D=\"DAV:\" xmlns:C=\"urn:ietf:params:xml:ns:carddav\"";
    private static int checked = 0;
    private static int wrong = 0;
    private static String running = "";

    final Run house = new Run();

    static void due(String what, Object got, Object want) {
        checked++;
        if (!got.equals(want)) {
            wrong++;
            System.out.println(running + what + "\n  answered " + got + "\n  due is   " + want);
        }
    }

    /** Runs every test of a class: its static methods without parameters and without an answer. */
    static void all(Class<?> tests) throws ReflectiveOperationException {
        Method[] methods = tests.getDeclaredMethods();
        Arrays.sort(methods, Comparator.comparing(Method::getName));
        for (Method method : methods) {
            boolean test = Modifier.isStatic(method.getModifiers()) && method.getParameterCount() == 0
                && method.getReturnType() == void.class;
            if (test) {
                int before = checked;
                running = tests.getName() + "." + method.getName() + ": ";
                method.invoke(null);
                due("tests something", checked > before, true);
            }
        }
        running = "";
        finish();
    }

    static void finish() {
        System.out.println(checked + " checked, " + wrong + " not as due");
        if (wrong != 0) {
            System.exit(1);
        }
    }

    /** A house with the users ann (pw), bob (b:x) and cat (~) and connection 0 open. */
    static Talk begun() {
        Talk talk = new Talk();
        talk.user("ann:pw");
        talk.user("bob:b:x");
        talk.user("cat:~");
        talk.house.open();
        return talk;
    }

    void tape(byte[] bytes) {
        for (int i = 0; i < bytes.length; i += 20) {
            int[] n = new int[5];
            for (int k = 0; k < 20; k++) {
                int b = i + k < bytes.length ? bytes[i + k] & 255 : 0;
                n[k / 4] = n[k / 4] << 8 | b;
            }
            if (!house.feed(n[0], n[1], n[2], n[3], n[4])) {
                throw new RuntimeException("the tape is too long for a test");
            }
        }
        house.end(bytes.length);
    }

    void tape(String text) {
        tape(text.getBytes(StandardCharsets.UTF_8));
    }

    int user(String text) {
        tape(text);
        return house.user();
    }

    String out() {
        byte[] bytes = new byte[house.out()];
        for (int i = 0; i < bytes.length; i++) {
            bytes[i] = (byte) house.outAt(i);
        }
        return new String(bytes, StandardCharsets.UTF_8);
    }

    /** What comes back on connection 0. */
    String come(String text) {
        return come(text.getBytes(StandardCharsets.UTF_8));
    }

    String come(byte[] bytes) {
        int before = house.size();
        tape(bytes);
        boolean alone = house.come(0) == 1 && house.isOpen(0);
        if (alone && onlyLooks(new String(bytes, StandardCharsets.ISO_8859_1))) {
            house.lookedSince(before);
        }
        return out();
    }

    private static boolean onlyLooks(String request) {
        for (String method : new String[] {"OPTIONS ", "GET ", "HEAD ", "PROPFIND ", "REPORT "}) {
            if (request.startsWith(method)) {
                return true;
            }
        }
        return false;
    }

    /** A card turned into a version; NONE when it is none. */
    String turn(int version, byte[] card) {
        int before = house.size();
        tape(card);
        boolean none = house.turn(version) == AddressHouse.NONE;
        house.lookedSince(before);
        return none ? "NONE" : out();
    }

    String turn(int version, String card) {
        return turn(version, card.getBytes(StandardCharsets.UTF_8));
    }

    static String secret(String who) {
        String whole = who.equals("ann") ? "ann:pw" : who.equals("bob") ? "bob:b:x" : "cat:~";
        return Base64.getEncoder().encodeToString(whole.getBytes(StandardCharsets.UTF_8));
    }

    /** A request of a user; headers end with CRLF each. */
    static String request(String who, String line, String headers, String body) {
        String length = body.isEmpty() ? ""
            : "Content-Length: " + body.getBytes(StandardCharsets.UTF_8).length + "\r\n";
        return line + " HTTP/1.1\r\nHost: x.org\r\nAuthorization: Basic " + secret(who) + "\r\n" + headers + length
            + "\r\n" + body;
    }

    String ask(String who, String line, String headers, String body) {
        return come(request(who, line, headers, body));
    }

    String ann(String line) {
        return ask("ann", line, "", "");
    }

    /** The number of the status of a user's request, or 0 without an answer. */
    int status(String who, String line, String headers, String body) {
        return statusOf(ask(who, line, headers, body));
    }

    int status(String line) {
        return status("ann", line, "", "");
    }

    static int statusOf(String answer) {
        return answer.length() < 12 ? 0 : Integer.parseInt(answer.substring(9, 12));
    }

    /** An answer without a body; its headers end with CRLF each. */
    static String bare(String status, String headers) {
        return "HTTP/1.1 " + status + "\r\n" + headers + "Content-Length: 0\r\n\r\n";
    }

    int put(String path, String card) {
        return status("ann", "PUT " + path, "Content-Type: text/vcard\r\n", card);
    }

    static String card4(String lines) {
        return "BEGIN:VCARD\r\nVERSION:4.0\r\n" + lines + "END:VCARD\r\n";
    }

    static String card3(String lines) {
        return "BEGIN:VCARD\r\nVERSION:3.0\r\n" + lines + "END:VCARD\r\n";
    }

    static String plain(String uid, String name) {
        return card4("FN:" + name + "\r\nUID:" + uid + "\r\n");
    }

    static String root(String name, String inner) {
        return "<" + name + SPACES + " xmlns:R=\"urn:x-readers\">" + inner + "</" + name + ">";
    }

    static String bodyOf(String answer) {
        int i = answer.indexOf("\r\n\r\n");
        return i < 0 ? "" : answer.substring(i + 4);
    }

    /** An answer 207 with these responses. */
    static String multi(String responses) {
        return answer("207 Multi-Status", "", XML_HEAD + "<D:multistatus" + SPACES + ">" + responses
            + "</D:multistatus>");
    }

    static String error(String element) {
        return answer("403 Forbidden", "", XML_HEAD + "<D:error" + SPACES + ">" + element + "</D:error>");
    }

    static String answer(String status, String headers, String body) {
        return "HTTP/1.1 " + status + "\r\n" + headers
            + (body.isEmpty() ? "" : "Content-Type: application/xml; charset=utf-8\r\n")
            + "Content-Length: " + body.getBytes(StandardCharsets.UTF_8).length + "\r\n\r\n" + body;
    }

    static String found(String path, String properties) {
        return "<D:response><D:href>" + path + "</D:href>" + propstat("200 OK", properties) + "</D:response>";
    }

    static String propstat(String status, String properties) {
        return "<D:propstat><D:prop>" + properties + "</D:prop><D:status>HTTP/1.1 " + status
            + "</D:status></D:propstat>";
    }

    static String told(String path, String status) {
        return "<D:response><D:href>" + path + "</D:href><D:status>HTTP/1.1 " + status + "</D:status></D:response>";
    }
}

import java.util.Random;

/** No run of calls may make the machine throw: broken requests and cards, with the same seeds each time. */
public final class RobustTest {
    private static final String[] PIECES = {"BEGIN:VCARD\r\nVERSION:4.0\r\n", "FN:A\r\n", "UID:u\r\n", "END:VCARD\r\n", "N:a;b\r\n",
        "TEL;TYPE=a,\"b\":1\r\n", "PHOTO:data:image/png;base64,QUJD\r\n", "BDAY:19700101T10\r\n", "\r\n ", "\r\n", ":", ";", ",", "=", "\"",
        "^", "\\", "VERSION:3.0\r\n", "ADR;LABEL=x:\r\n", "GEO:geo:1,2\r\n", "<", ">", "&", "/", "%", "<?xml ", "?>", "<!--", "-->",
        "<![CDATA[", "]]>", "&#x41;", "xmlns:", "xmlns='DAV:'", "<D:prop>", "</D:prop>", "<C:filter>", "<D:href>", "\t", " "};

    public static void main(String[] args) {
        int rounds = 0;
        for (int seed = 0; seed < 2000; seed++) {
            rounds += session(new Random(seed));
        }
        Talk.due("many rounds", rounds > 10000, true);
        Talk.finish();
    }

    private static int session(Random random) {
        Talk talk = Talk.begun();
        talk.ann("MKCOL /a/ann/b1");
        talk.put("/a/ann/b1/c1", Talk.card4("FN:A\r\nUID:u\r\nTEL;TYPE=x,y:1\r\n"));
        int rounds = 0;
        for (; talk.house.size() < 420; rounds++) {
            if (!talk.house.isOpen(0)) {
                talk.house.open();
            }
            if (random.nextInt(4) == 0) {
                talk.tape(broken(random, Talk.card4("FN:A\r\nUID:u\r\nADR;LABEL=a:b\r\nREV:20000101T101010\r\n")));
                talk.house.turn(random.nextInt(7) - 1);
            } else {
                talk.tape(broken(random, random.nextBoolean() ? report(random) : put(random)));
                talk.house.come(0);
            }
            for (int i = Math.min(3, talk.house.out()); i > 0; i--) {
                talk.house.outAt(random.nextInt(talk.house.out()));
            }
            talk.house.count(random.nextInt());
            talk.house.end(random.nextInt());
            talk.house.isOpen(random.nextInt());
        }
        return rounds;
    }

    private static String report(Random random) {
        String[] inner = {"<C:addressbook-query xmlns:D='DAV:' xmlns:C='urn:ietf:params:xml:ns:carddav'><D:prop><C:address-data version='3.0'>"
            + "<C:prop name='TEL' novalue='yes'/></C:address-data></D:prop><C:filter test='allof'><C:prop-filter name='TEL'><C:param-filter "
            + "name='TYPE'><C:text-match>x</C:text-match></C:param-filter></C:prop-filter></C:filter></C:addressbook-query>",
            "<D:sync-collection xmlns:D='DAV:'><D:sync-token>urn:x-sync:1-1</D:sync-token><D:sync-level>1</D:sync-level><D:limit><D:nresults>"
            + "1</D:nresults></D:limit></D:sync-collection>",
            "<C:addressbook-multiget xmlns:D='DAV:' xmlns:C='urn:ietf:params:xml:ns:carddav'><D:allprop/><D:href>/a/ann/b1/c1</D:href>"
            + "<D:href>http://x/%61</D:href></C:addressbook-multiget>"};
        return Talk.request("ann", "REPORT /a/ann/b1", "Depth: 1\r\n", inner[random.nextInt(inner.length)]);
    }

    private static String put(Random random) {
        String card = "";
        for (int i = random.nextInt(20); i >= 0; i--) {
            card += PIECES[random.nextInt(PIECES.length)];
        }
        return Talk.request("ann", "PUT /a/ann/b1/c" + random.nextInt(3), "Content-Type: text/vcard\r\n",
            random.nextBoolean() ? card : Talk.card4("FN:A\r\nUID:u\r\n" + card));
    }

    private static byte[] broken(Random random, String text) {
        StringBuilder all = new StringBuilder(text);
        for (int i = random.nextInt(4); i > 0; i--) {
            int at = random.nextInt(all.length());
            int how = random.nextInt(3);
            if (how == 0) {
                all.deleteCharAt(at);
            } else if (how == 1) {
                all.insert(at, PIECES[random.nextInt(PIECES.length)]);
            } else {
                all.setCharAt(at, (char) random.nextInt(256));
            }
        }
        byte[] bytes = new byte[all.length()];
        for (int i = 0; i < bytes.length; i++) {
            bytes[i] = (byte) all.charAt(i);
        }
        return bytes;
    }
}

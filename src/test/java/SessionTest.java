/** All promises in one story of two users, in fewer than 512 calls on one object. */
public final class SessionTest {
    private static final String BOOK = "/a/ann/friends/";
    private static final String CARD = BOOK + "smith";
    private static final String SMITH_3 = Talk.card3("FN:Ann Smith\r\nN:Smith;Ann;;;\r\nTEL;TYPE=HOME,PREF:1\r\nGEO:1.5;-2\r\nUID:u1\r\n");
    private static final String SMITH_4 = Talk.card4("FN:Ann Smith\r\nN:Smith;Ann;;;\r\nTEL;TYPE=home;PREF=1:1\r\nGEO:geo:1.5,-2\r\nUID:u1\r\n");
    private static final String JONES = Talk.card4("FN:Jon\u00e9s & Co\r\nUID:u2\r\n");

    public static void main(String[] args) {
        Talk talk = new Talk();
        users(talk);
        cards(talk);
        readers(talk);
        reports(talk);
        ends(talk);
        Talk.due("calls", talk.house.size() < 512, true);
        Talk.finish();
    }

    /** Promises 1 to 5, 7, 8, 12. */
    private static void users(Talk talk) {
        Talk.due("nothing in the house", talk.house.count(0) + talk.house.count(1) + talk.house.count(2), 0);
        Talk.due("ann", talk.user("ann:pw"), 0);
        Talk.due("bob", talk.user("bob:b:x"), 1);
        Talk.due("ann again", talk.user("ann:other"), -1);
        Talk.due("a connection", talk.house.open(), 0);
        Talk.due("another one", talk.house.open(), 1);
        Talk.due("shut", talk.house.shut(1), true);
        Talk.due("it is not open", talk.house.isOpen(1), false);
    }

    /** Promises 6, 9, 10: MKCOL, PUT, GET, HEAD. */
    private static void cards(Talk talk) {
        Talk.due("a BOOK", talk.ann("MKCOL " + BOOK), Talk.bare("201 Created", ""));
        Talk.due("a CARD", talk.ask("ann", "PUT " + CARD, "Content-Type: text/vcard\r\n", SMITH_3), Talk.bare("201 Created", "ETag: \"2\"\r\n"));
        Talk.due("in 4.0", talk.ask("ann", "GET " + CARD, "Accept: text/vcard; version=4.0\r\n", ""), got(SMITH_4));
        Talk.due("as it is", talk.ann("GET " + CARD), got(SMITH_3));
        Talk.due("without its bytes", talk.ann("HEAD " + CARD), got(SMITH_3).replace(SMITH_3, ""));
        Talk.due("not changed", talk.ask("ann", "GET " + CARD, "If-None-Match: \"1\", \"2\"\r\n", ""), "HTTP/1.1 304 Not Modified\r\nETag: \"2\"\r\n\r\n");
        Talk.due("turned by itself", talk.turn(4, SMITH_3), SMITH_4);
    }

    private static String got(String card) {
        return "HTTP/1.1 200 OK\r\nETag: \"2\"\r\nContent-Type: text/vcard; charset=utf-8\r\nContent-Length: " + card.length() + "\r\n\r\n" + card;
    }

    /** Promise 6: PROPPATCH, PROPFIND, and what a reader may do. */
    private static void readers(Talk talk) {
        Talk.due("bob may not read yet", talk.status("bob", "GET " + CARD, "", ""), 403);
        String names = "<D:displayname/><x:readers xmlns:x=\"urn:x-readers\"/>";
        Talk.due("a name and a reader", talk.ask("ann", "PROPPATCH " + BOOK, "", Talk.root("D:propertyupdate", "<D:set><D:prop>"
            + "<D:displayname>Friends</D:displayname><R:readers>bob</R:readers></D:prop></D:set>")), Talk.multi(Talk.found(BOOK, names)));
        Talk.due("bob reads", talk.ask("bob", "GET " + CARD, "", ""), got(SMITH_3));
        Talk.due("bob may not write", talk.status("bob", "DELETE " + CARD, "", ""), 403);
        String asked = Talk.root("D:propfind", "<D:prop><D:displayname/><D:getetag/></D:prop>");
        Talk.due("bob lists", talk.ask("bob", "PROPFIND " + BOOK, "Depth: 1\r\n", asked), Talk.multi("<D:response><D:href>" + BOOK + "</D:href>"
            + Talk.propstat("200 OK", "<D:displayname>Friends</D:displayname>") + Talk.propstat("404 Not Found", "<D:getetag/>") + "</D:response>"
            + "<D:response><D:href>" + CARD + "</D:href>" + Talk.propstat("200 OK", "<D:getetag>\"2\"</D:getetag>")
            + Talk.propstat("404 Not Found", "<D:displayname/>") + "</D:response>"));
    }

    /** Promise 6: REPORT. */
    private static void reports(Talk talk) {
        talk.put(BOOK + "jones", JONES);
        String filter = "<D:prop><C:address-data version='4.0'><C:prop name='FN'/></C:address-data></D:prop><C:filter><C:prop-filter name='FN'>"
            + "<C:text-match>JON\u00c9S</C:text-match></C:prop-filter></C:filter>";
        Talk.due("searched", talk.ask("ann", "REPORT " + BOOK, "Depth: 1\r\n", Talk.root("C:addressbook-query", filter)),
            Talk.multi(Talk.found(BOOK + "jones", "<C:address-data>" + Talk.card4("FN:Jon\u00e9s &amp; Co\r\n") + "</C:address-data>")));
        String hrefs = "<D:prop><D:getetag/></D:prop><D:href>" + BOOK + "jones</D:href><D:href>" + BOOK + "none</D:href>";
        Talk.due("listed", talk.ask("ann", "REPORT " + BOOK, "", Talk.root("C:addressbook-multiget", hrefs)),
            Talk.multi(Talk.found(BOOK + "jones", "<D:getetag>\"3\"</D:getetag>") + Talk.told(BOOK + "none", "404 Not Found")));
        Talk.due("followed", sync(talk, ""), Talk.multi(Talk.told(CARD, "200 OK") + Talk.told(BOOK + "jones", "200 OK")
            + "<D:sync-token>urn:x-sync:1-3</D:sync-token>"));
        Talk.due("deleted", talk.ann("DELETE " + CARD), "HTTP/1.1 204 No Content\r\n\r\n");
        Talk.due("followed from there", sync(talk, "urn:x-sync:1-3"), Talk.multi(Talk.told(CARD, "404 Not Found")
            + "<D:sync-token>urn:x-sync:1-4</D:sync-token>"));
    }

    private static String sync(Talk talk, String token) {
        return talk.ask("ann", "REPORT " + BOOK, "", Talk.root("D:sync-collection", "<D:sync-token>" + token
            + "</D:sync-token><D:sync-level>1</D:sync-level>"));
    }

    /** Promises 6, 7, 12: what is left in the end. */
    private static void ends(Talk talk) {
        Talk.due("the BOOK goes, and the connection", talk.ask("ann", "DELETE " + BOOK, "Connection: close\r\n", ""),
            "HTTP/1.1 204 No Content\r\nConnection: close\r\n\r\n");
        Talk.due("it is shut", talk.house.isOpen(0), false);
        Talk.due("BOOKS", talk.house.count(0), 0);
        Talk.due("CARDS", talk.house.count(1), 0);
        Talk.due("CHANGES", talk.house.count(2), 5);
    }
}

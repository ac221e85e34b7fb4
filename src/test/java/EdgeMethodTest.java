/** The edges of Part III up to PUT and ERROR: a test for each sentence that names one; the remark is the sentence. */
public final class EdgeMethodTest {
    private static final String VCARD = "Content-Type: text/vcard\r\n";
    private static final String CARD = Talk.plain("u1", "A");

    public static void main(String[] args) throws ReflectiveOperationException {
        Talk.all(EdgeMethodTest.class);
    }

    /** A house with the BOOKS b1, b2 of ann's, and a CARD c1 of version 4.0 in b1. */
    private static Talk filled() {
        Talk talk = Talk.begun();
        talk.ann("MKCOL /a/ann/b1");
        talk.ann("MKCOL /a/ann/b2");
        talk.put("/a/ann/b1/c1", CARD);
        return talk;
    }

    /** Part III: "OPTIONS: 200 with 'Allow: ' and 'DAV: 1, 3, access-control, addressbook'." (with a body, too) */
    static void options() {
        Talk.due("OPTIONS", filled().ask("ann", "OPTIONS /a/ann/b1/c2", "", "a body"),
            Talk.bare("200 OK", "Allow: OPTIONS, PUT\r\nDAV: 1, 3, access-control, addressbook\r\n"));
    }

    /** Part III: "MKCOL: 201 (a body of any bytes: 415)". */
    static void mkcolWithABody() {
        Talk talk = Talk.begun();
        for (String body : new String[] {"x", " ", "\r\n", "<D:mkcol xmlns:D='DAV:'/>"}) {
            Talk.due("a body " + body, talk.ask("ann", "MKCOL /a/ann/b1", "", body), Talk.bare("415 Unsupported Media Type", ""));
        }
        Talk.due("none was made", talk.house.count(0), 0);
        Talk.due("none", talk.ask("ann", "MKCOL /a/ann/b1", "Content-Type: x\r\nContent-Length: 0\r\n", ""),
            Talk.bare("201 Created", ""));
        Talk.due("CHUNKS of none", talk.status("ann", "MKCOL /a/ann/b2", "Transfer-Encoding: chunked\r\n", "") + talk.come("0\r\n\r\n"),
            "0" + Talk.bare("201 Created", ""));
    }

    /** Part III: "507, asked behind that, when the house has 6 BOOKS". */
    static void theSeventhBook() {
        Talk talk = Talk.begun();
        String[] users = {"ann", "bob", "cat"};
        for (int i = 0; i < 6; i++) {
            Talk.due("BOOK " + i, talk.status(users[i % 3], "MKCOL /a/" + users[i % 3] + "/b" + i, "", ""), 201);
        }
        Talk.due("the seventh", talk.ann("MKCOL /a/ann/b6"), Talk.bare("507 Insufficient Storage", ""));
        Talk.due("with a body", talk.status("ann", "MKCOL /a/ann/b6", "", "x"), 415);
        Talk.due("CHANGES", talk.house.count(2), 6);
        talk.ask("bob", "DELETE /a/bob/b1", "", "");
        Talk.due("when one is gone", talk.status("MKCOL /a/ann/b6"), 201);
        Talk.due("and again", talk.status("MKCOL /a/ann/b7"), 507);
    }

    /** Part III: "DELETE: 204." (a BOOK with its CARDS, a CARD alone) */
    static void deletes() {
        Talk talk = filled();
        talk.put("/a/ann/b1/c2", Talk.plain("u2", "A"));
        talk.put("/a/ann/b2/c1", Talk.plain("u1", "A"));
        Talk.due("a CARD", talk.ann("DELETE /a/ann/b1/c2"), "HTTP/1.1 204 No Content\r\n\r\n");
        Talk.due("it is gone", talk.status("GET /a/ann/b1/c2"), 404);
        Talk.due("again", talk.status("DELETE /a/ann/b1/c2"), 404);
        Talk.due("a BOOK", talk.ann("DELETE /a/ann/b1/"), "HTTP/1.1 204 No Content\r\n\r\n");
        Talk.due("its CARDS are gone", talk.status("GET /a/ann/b1/c1"), 404);
        Talk.due("those of others are not", talk.status("GET /a/ann/b2/c1"), 200);
        talk.ann("MKCOL /a/ann/b1");
        Talk.due("a BOOK made anew is empty", talk.status("GET /a/ann/b1/c1"), 404);
    }

    /** Part III, SYNC: "A BOOK that is made anew is another one." (nothing that was told of the old one is told of it) */
    static void aBookMadeAnew() {
        Talk talk = filled();
        talk.ask("ann", "PROPPATCH /a/ann/b1", "", Talk.root("D:propertyupdate", "<D:set><D:prop><D:displayname>n</D:displayname>"
            + "<C:addressbook-description>d</C:addressbook-description><R:readers>bob</R:readers></D:prop></D:set>"));
        Talk.due("bob reads", talk.status("bob", "OPTIONS /a/ann/b1", "", ""), 200);
        talk.ann("DELETE /a/ann/b1");
        talk.ann("MKCOL /a/ann/b1");
        Talk.due("no displayname, no description", talk.ask("ann", "PROPFIND /a/ann/b1", "Depth: 0\r\n", Talk.root("D:propfind",
            "<D:prop><D:displayname/><C:addressbook-description/></D:prop>")), Talk.multi("<D:response><D:href>/a/ann/b1/</D:href>"
            + Talk.propstat("404 Not Found", "<D:displayname/><C:addressbook-description/>") + "</D:response>"));
        Talk.due("no readers", talk.status("bob", "OPTIONS /a/ann/b1", "", ""), 403);
    }

    /** Part III: "GET: 200 with 'ETag: ', the card's text as its body, of Content-Type 'text/vcard; charset=utf-8'; HEAD likewise." */
    static void gets() {
        Talk talk = filled();
        String head = "HTTP/1.1 200 OK\r\nETag: \"3\"\r\nContent-Type: text/vcard; charset=utf-8\r\nContent-Length: " + CARD.length()
            + "\r\n\r\n";
        Talk.due("GET", talk.ann("GET /a/ann/b1/c1"), head + CARD);
        Talk.due("HEAD", talk.ann("HEAD /a/ann/b1/c1"), head);
    }

    /** Which version an Accept brings of a CARD of 4.0, or 406. */
    private static void accepts(Talk talk, String accept, String due) {
        for (String method : new String[] {"GET", "HEAD"}) {
            String answer = talk.ask("ann", method + " /a/ann/b1/c1", "Accept: " + accept + "\r\n", "");
            String got = "" + Talk.statusOf(answer);
            if (got.equals("200")) {
                String three = Talk.card3("FN:A\r\nN:A;;;;\r\nUID:u1\r\n");
                got = answer.contains("Content-Length: " + three.length() + "\r\n") ? "3" : "4";
                boolean same = method.equals("HEAD") || Talk.bodyOf(answer).equals(got.equals("3") ? three : CARD);
                Talk.due(method + " with Accept: " + accept + ": the card", same, true);
            }
            Talk.due(method + " with Accept: " + accept, got, due);
        }
    }

    /** Part III, Accept: "items with ',' between, each: a type, then ';' and parameters; S do not count". */
    static void acceptItems() {
        Talk talk = filled();
        accepts(talk, " text / vcard ; version = 3.0 ", "3");
        accepts(talk, "te xt/vc ard", "4");
        accepts(talk, ",text/vcard", "4");
        accepts(talk, "text/vcard,", "4");
        accepts(talk, "text/vcard;;;version=3.0", "3");
        accepts(talk, "text/vcard;", "4");
        accepts(talk, "text/\tvcard", "406");
    }

    // Part III, Accept: "A type is two words with / between; the first item that says: 'text' and 'vcard' (LIKE), 'text' and *, or
    // * and *: the version as it is" (and "other types don't say").
    static void acceptTypes() {
        Talk talk = filled();
        for (String type : new String[] {"text/vcard", "TEXT/VCARD", "Text/*", "text/*", "*/*"}) {
            accepts(talk, type, "4");
            accepts(talk, type + ";q=0.1;x", "4");
        }
        for (String type : new String[] {"*/vcard", "text/html", "text", "text/", "/vcard", "text/vcard/x", "text/vcards", "xtext/vcard", "*",
            "**/*", "text/x-vcard", "text/*x", "xext/vcard"}) {
            accepts(talk, type, "406");
            accepts(talk, type + ",text/vcard;version=3.0", "3");
        }
    }

    /** Part III, Accept: "but with a parameter LIKE 'version=3.0' or 'version=4.0' that one". */
    static void acceptVersions() {
        Talk talk = filled();
        for (String type : new String[] {"text/vcard", "text/*", "*/*"}) {
            accepts(talk, type + ";version=3.0", "3");
            accepts(talk, type + ";VERSION=3.0", "3");
            accepts(talk, type + ";q=1;version=4.0", "4");
            accepts(talk, type + ";version=4.0,*/*;version=3.0", "4");
        }
    }

    /** Part III, Accept: "(one with another 'version=' doesn't say; of several parameters 'version=' the first)". */
    static void acceptOtherVersions() {
        Talk talk = filled();
        for (String version : new String[] {"", "3", "4", "2.1", "3.00", "5.0", "\"3.0\"", "3.0x"}) {
            accepts(talk, "text/vcard;version=" + version, "406");
            accepts(talk, "text/vcard;version=" + version + ";version=3.0", "406");
            accepts(talk, "text/vcard;Version=" + version + ",text/vcard;version=3.0", "3");
        }
        accepts(talk, "text/vcard;version=3.0;version=5.0", "3");
        accepts(talk, "text/vcard;version=4.0;version=3.0", "4");
        accepts(talk, "text/vcard;version", "4");
        accepts(talk, "text/vcard;xversion=5.0", "4");
        accepts(talk, "text/vcard;xersion=5.0", "4");
    }

    /** Part III, Accept: "No such item: 406. Without Accept: as it is." */
    static void acceptNone() {
        Talk talk = filled();
        accepts(talk, "", "406");
        accepts(talk, ",", "406");
        accepts(talk, ";", "406");
        accepts(talk, "text/html,image/*", "406");
        Talk.due("406", talk.ask("ann", "GET /a/ann/b1/c1", "Accept: x/y\r\n", ""), Talk.bare("406 Not Acceptable", ""));
        Talk.due("without", Talk.bodyOf(talk.ann("GET /a/ann/b1/c1")), CARD);
    }

    private static String put(Talk talk, String path, String headers, String body) {
        return talk.ask("ann", "PUT " + path, headers, body);
    }

    /** Part III, PUT: "Content-Type not LIKE 'text/vcard' (what stands from a ; on does not count, nor S at the ends): 415". */
    static void putTypes() {
        Talk talk = filled();
        String refused = Talk.bare("415 Unsupported Media Type", "");
        Talk.due("none", put(talk, "/a/ann/b1/c1", "", CARD), refused);
        for (String type : new String[] {"", ";", "xext/vcard", "text/vcar", "text/vcards", "text/x-vcard", "text/ vcard", "text/vcard, text/vcard",
            "text/*", "text/vcard\t;x", "; text/vcard"}) {
            Talk.due("Content-Type: " + type, put(talk, "/a/ann/b1/c1", "Content-Type: " + type + "\r\n", CARD), refused);
        }
        for (String type : new String[] {"text/vcard", "TEXT/vCARD", "text/vcard;", "text/vcard;version=9", "text/vcard   ; x",
            "  text/vcard  ", "text/vcard;text/html"}) {
            Talk.due("Content-Type: " + type, Talk.statusOf(put(talk, "/a/ann/b1/c1", "Content-Type: " + type + "\r\n", CARD)), 204);
        }
    }

    /** A card of so many bytes. */
    private static String ofLength(int bytes) {
        String before = "FN:A\r\nUID:u1\r\nNOTE:";
        return Talk.card4(before + "x".repeat(bytes - Talk.card4(before + "\r\n").length()) + "\r\n");
    }

    /** Part III, PUT: "a body above 800 bytes: 403 with ERROR max-resource-size". */
    static void putSizes() {
        Talk talk = filled();
        Talk.due("800 bytes", Talk.statusOf(put(talk, "/a/ann/b1/c1", VCARD, ofLength(800))), 204);
        Talk.due("801 bytes", put(talk, "/a/ann/b1/c1", VCARD, ofLength(801)), Talk.error("<C:max-resource-size/>"));
        Talk.due("3000 bytes", put(talk, "/a/ann/b1/c1", VCARD, "x".repeat(3000)), Talk.error("<C:max-resource-size/>"));
        Talk.due("800 bytes that are no CARD", put(talk, "/a/ann/b1/c1", VCARD, "x".repeat(800)), Talk.error("<C:valid-address-data/>"));
    }

    /** Part III, PUT: "a body that is no CARD (Part IV): 403 with ERROR valid-address-data". */
    static void putNoCards() {
        Talk talk = filled();
        for (String body : new String[] {"", "x", Talk.card4(""), CARD + "\r\n", CARD + CARD}) {
            Talk.due("no CARD " + body, put(talk, "/a/ann/b1/c1", VCARD, body), Talk.error("<C:valid-address-data/>"));
        }
        Talk.due("the old one stays", Talk.bodyOf(talk.ann("GET /a/ann/b1/c1")), CARD);
    }

    private static String conflict(String path) {
        return Talk.error("<C:no-uid-conflict><D:href>" + path + "</D:href></C:no-uid-conflict>");
    }

    /** Part III, PUT: "one with the UID of another CARD of the BOOK" and ERROR: "path of the CARD with the UID". */
    static void putTheUidOfAnother() {
        Talk talk = filled();
        talk.put("/a/ann/b1/c2", Talk.plain("u2", "A"));
        Talk.due("a new place", put(talk, "/a/ann/b1/c3", VCARD, Talk.plain("u1", "A")), conflict("/a/ann/b1/c1"));
        Talk.due("the other one's", put(talk, "/a/ann/b1/c3", VCARD, Talk.plain("u2", "A")), conflict("/a/ann/b1/c2"));
        Talk.due("by what it means", put(talk, "/a/ann/b1/c3", VCARD, Talk.plain("\r\n u\r\n\t2", "A")), conflict("/a/ann/b1/c2"));
        talk.put("/a/ann/b2/c5", Talk.plain("a\\,b\\n", "A"));
        Talk.due("by what it means in other signs", put(talk, "/a/ann/b2/c6", VCARD, Talk.plain("a,b\\N", "A")), conflict("/a/ann/b2/c5"));
        Talk.due("not LIKE", talk.put("/a/ann/b1/c3", Talk.plain("U1", "A")), 201);
        Talk.due("another BOOK", talk.put("/a/ann/b2/c1", Talk.plain("u1", "A")), 201);
        talk.ann("DELETE /a/ann/b1/c2");
        Talk.due("a UID that is gone", talk.put("/a/ann/b1/c4", Talk.plain("u2", "A")), 201);
    }

    /** Part III, PUT: "or when there is a CARD with another UID" and ERROR: "(of the place itself, if it has another UID)". */
    static void putAnotherUid() {
        Talk talk = filled();
        talk.put("/a/ann/b1/c2", Talk.plain("u2", "A"));
        Talk.due("a UID of none", put(talk, "/a/ann/b1/c1", VCARD, Talk.plain("u3", "A")), conflict("/a/ann/b1/c1"));
        Talk.due("the UID of another one", put(talk, "/a/ann/b1/c1", VCARD, Talk.plain("u2", "A")), conflict("/a/ann/b1/c1"));
        Talk.due("the same UID", talk.put("/a/ann/b1/c1", Talk.plain("u1", "B")), 204);
        talk.ann("DELETE /a/ann/b1/c1");
        Talk.due("when it is gone", talk.put("/a/ann/b1/c1", Talk.plain("u3", "A")), 201);
    }

    /** Part III, PUT: "a new one when the house has 16 CARDS: 507". */
    static void theSeventeenthCard() {
        Talk talk = filled();
        for (int i = 2; i <= 16; i++) {
            Talk.due("CARD " + i, talk.put("/a/ann/b" + (i % 2 + 1) + "/c" + i, Talk.plain("u" + i, "A")), 201);
        }
        Talk.due("the seventeenth", put(talk, "/a/ann/b2/c17", VCARD, Talk.plain("u17", "A")), Talk.bare("507 Insufficient Storage", ""));
        Talk.due("a conflict is asked first", put(talk, "/a/ann/b1/c17", VCARD, Talk.plain("u1", "A")), conflict("/a/ann/b1/c1"));
        Talk.due("it is not there", talk.status("GET /a/ann/b2/c17"), 404);
        Talk.due("CHANGES", talk.house.count(2), 18);
        Talk.due("one that is there", talk.put("/a/ann/b1/c1", Talk.plain("u1", "B")), 204);
        talk.ann("DELETE /a/ann/b1/c16");
        Talk.due("when one is gone", talk.put("/a/ann/b2/c17", Talk.plain("u17", "A")), 201);
        Talk.due("and again", talk.house.count(1), 16);
        Talk.due("no more", talk.put("/a/ann/b2/c18", Talk.plain("u18", "A")), 507);
    }

    /** Part III, PUT: "otherwise it is kept as it is written by the house: 201 when it is new, else 204, with 'ETag: '". */
    static void putTaken() {
        Talk talk = filled();
        Talk.due("new", put(talk, "/a/ann/b2/c1", VCARD, "begin:vcard\r\nversion:3.0\r\nfn:A,\\N\r\nn:B\r\nuid:u;\r\nend:vcard\r\n"),
            Talk.bare("201 Created", "ETag: \"4\"\r\n"));
        Talk.due("as it is written", Talk.bodyOf(talk.ann("GET /a/ann/b2/c1")), Talk.card3("FN:A\\,\\n\r\nN:B\r\nUID:u\\;\r\n"));
        Talk.due("else", put(talk, "/a/ann/b2/c1", VCARD, Talk.plain("u\\;", "A")), "HTTP/1.1 204 No Content\r\nETag: \"5\"\r\n\r\n");
        Talk.due("the new one", Talk.bodyOf(talk.ann("GET /a/ann/b2/c1")), Talk.plain("u\\;", "A"));
        talk.ask("ann", "GET /a/ann/b2/c1", "Accept: text/vcard;version=3.0\r\n", "");
        talk.put("/a/ann/b2/c1", Talk.plain("u\\;", "B"));
        Talk.due("behind a GET of the other version", Talk.bodyOf(talk.ann("GET /a/ann/b2/c1")), Talk.plain("u\\;", "B"));
    }

    /** Part III, PUT: "kept as it is written by the house" (which may be more than 800 bytes). */
    static void putThatGrows() {
        Talk talk = filled();
        String before = "FN:A\r\nUID:u1\r\nNOTE:";
        int commas = 800 - Talk.card4(before + "\r\n").length();
        Talk.due("800 bytes", talk.put("/a/ann/b1/c1", Talk.card4(before + ",".repeat(commas) + "\r\n")), 204);
        String kept = Talk.bodyOf(talk.ann("GET /a/ann/b1/c1"));
        Talk.due("longer", kept.replace("\r\n ", ""), Talk.card4(before + "\\,".repeat(commas) + "\r\n"));
        Talk.due("its length", talk.ask("ann", "PROPFIND /a/ann/b1/c1", "Depth: 0\r\n", "").contains(
            "<D:getcontentlength>" + kept.length() + "</D:getcontentlength>"), true);
        String carets = Talk.card4("FN:A\r\nUID:u1\r\n" + ("X;A=" + "^".repeat(173) + ":\r\n").repeat(4));
        Talk.due("carets", talk.put("/a/ann/b1/c1", carets), 204);
        Talk.due("doubled", Talk.bodyOf(talk.ann("GET /a/ann/b1/c1")).replace("\r\n ", ""),
            Talk.card4("FN:A\r\nUID:u1\r\n" + ("X;A=" + "^^".repeat(87) + ":\r\n").repeat(4)));
    }

    /** Part III, ERROR: "The element is '<C:' e '/>' (of D: with D)". */
    static void errors() {
        Talk talk = filled();
        Talk.due("of C", put(talk, "/a/ann/b1/c1", VCARD, "x"), "HTTP/1.1 403 Forbidden\r\nContent-Type: application/xml; charset=utf-8\r\n"
            + "Content-Length: 136\r\n\r\n<?xml version=\"1.0\" encoding=\"utf-8\"?><D:error xmlns:D=\"DAV:\" "
            + "xmlns:C=\"urn:ietf:params:xml:ns:carddav\"><C:valid-address-data/></D:error>");
        Talk.due("of D", talk.ann("PROPFIND /"), Talk.error("<D:propfind-finite-depth/>"));
    }
}

/** The edges of Part III's REPORT: a test for each sentence that names one; the remark is the sentence. */
public final class EdgeReportTest {
    private static final String BOOK = "/a/ann/b1/";
    private static final String ETAG = "<D:prop><D:getetag/></D:prop>";
    private static final String WRONG = Talk.bare("400 Bad Request", "");
    private static final String LEVEL = "<D:sync-level>1</D:sync-level>";
    private static final String OVER = Talk.told(BOOK, "507 Insufficient Storage");
    private static final String[] CARDS = {
        Talk.card4("FN:Ann\r\nUID:u1\r\nhome.TEL;TYPE=cell,\"a,B\":1\r\nTEL;PREF=1:22\r\nwork.TEL:333\r\n"),
        Talk.card3("FN:Bob\r\nN:B;x,y\r\nUID:u2\r\nNOTE:a\\nb\\,c\r\n"), Talk.card4("FN:Cat\r\nUID:u3\r\nNOTE:\r\n")};

    public static void main(String[] args) throws ReflectiveOperationException {
        Talk.all(EdgeReportTest.class);
    }

    /** A house with a BOOK b1 of ann's and the CARDS c1, c2, c3 in it. */
    private static Talk filled() {
        Talk talk = Talk.begun();
        talk.ann("MKCOL /a/ann/b1");
        for (int i = 0; i < CARDS.length; i++) {
            talk.put(BOOK + "c" + (i + 1), CARDS[i]);
        }
        return talk;
    }

    private static String report(Talk talk, String headers, String root, String inner) {
        return talk.ask("ann", "REPORT " + BOOK, headers, Talk.root(root, inner));
    }

    private static String multiget(Talk talk, String inner) {
        return report(talk, "", "C:addressbook-multiget", inner);
    }

    private static String query(Talk talk, String inner) {
        return report(talk, "Depth: 1\r\n", "C:addressbook-query", inner);
    }

    private static String sync(Talk talk, String inner) {
        return report(talk, "", "D:sync-collection", inner);
    }

    private static String etag(String name, int change) {
        return Talk.found(BOOK + name, "<D:getetag>\"" + change + "\"</D:getetag>");
    }

    private static String shown(String... names) {
        StringBuilder all = new StringBuilder();
        for (String name : names) {
            all.append(Talk.told(BOOK + name, "200 OK"));
        }
        return all.toString();
    }

    /** Part III, REPORT: "the root says which: C:addressbook-multiget, C:addressbook-query, D:sync-collection; another one: 403 with ERROR supported-report of D." */
    static void roots() {
        Talk talk = filled();
        for (String root : new String[] {"C:addressbook-multigets", "D:addressbook-multiget", "D:addressbook-query", "C:sync-collection",
            "R:addressbook-query", "D:propfind", "D:expand-property", "C:Addressbook-Query"}) {
            Talk.due(root, report(talk, "", root, ""), Talk.error("<D:supported-report/>"));
        }
        Talk.due("of no namespace", talk.ask("ann", "REPORT " + BOOK, "", "<addressbook-query/>"), Talk.error("<D:supported-report/>"));
    }

    /** Part III, REPORT: "(Depth: '0', '1', LIKE 'infinity'; another one: 400; without: 0.)" */
    static void depths() {
        Talk talk = filled();
        String all = Talk.multi(shown("c1", "c2", "c3"));
        String[][] rows = {{"", Talk.multi("")}, {"Depth: 0\r\n", Talk.multi("")}, {"Depth: 1\r\n", all}, {"Depth: infinity\r\n", all},
            {"Depth: INFINITY\r\n", all}, {"Depth:\r\n", WRONG}, {"Depth: 2\r\n", WRONG}, {"Depth: 01\r\n", WRONG}, {"Depth: -1\r\n", WRONG},
            {"Depth: infinit\r\n", WRONG}, {"Depth: xnfinity\r\n", WRONG}, {"Depth: 1,1\r\n", WRONG}};
        for (String[] row : rows) {
            Talk.due("query with " + row[0], report(talk, row[0], "C:addressbook-query", "<C:filter/>"), row[1]);
            Talk.due("multiget with " + row[0], report(talk, row[0], "C:addressbook-multiget", "<D:href>" + BOOK + "c1</D:href>"),
                row[1].equals(WRONG) ? WRONG : Talk.multi(shown("c1")));
            Talk.due("sync with " + row[0], report(talk, row[0], "D:sync-collection", "<D:sync-token/>" + LEVEL),
                row[1].equals(WRONG) ? WRONG : Talk.multi(shown("c1", "c2", "c3") + "<D:sync-token>urn:x-sync:1-4</D:sync-token>"));
        }
    }

    /** Part III, REPORT: "the first of D:prop, D:allprop, D:propname says; without one nothing is asked: RESPONSES have status 200". */
    static void whatIsAsked() {
        Talk talk = filled();
        String href = "<D:href>" + BOOK + "c2</D:href>";
        Talk.due("nothing", multiget(talk, href), Talk.multi(shown("c2")));
        Talk.due("C:prop is another", multiget(talk, href + "<C:prop><D:getetag/></C:prop>"), Talk.multi(shown("c2")));
        Talk.due("D:prop first", multiget(talk, ETAG + href + "<D:allprop/><D:prop><D:owner/></D:prop>"), Talk.multi(etag("c2", 3)));
        String names = "<D:resourcetype/><D:getetag/><D:getcontenttype/><D:getcontentlength/><D:current-user-principal/><D:owner/>"
            + "<D:current-user-privilege-set/>";
        Talk.due("D:propname first", multiget(talk, href + "<D:propname/><D:allprop/>" + ETAG), Talk.multi(Talk.found(BOOK + "c2", names)));
        Talk.due("D:allprop first", multiget(talk, "<D:allprop/>" + ETAG + "<D:propname/>" + href),
            talk.ask("ann", "PROPFIND " + BOOK + "c2", "Depth: 0\r\n", ""));
    }

    private static String properties(int n) {
        StringBuilder all = new StringBuilder();
        for (int i = 0; i < n; i++) {
            all.append("<D:p").append(i).append("/>");
        }
        return all.toString();
    }

    /** Part III, REPORT: "(at most 20 children as there, asked first; what is wrong with this one then, ahead of all other children of the root)". */
    static void twentyChildrenFirst() {
        Talk talk = filled();
        String wrongData = "<C:address-data version='5.0'/>";
        String unsupported = Talk.error("<C:supported-address-data/>");
        for (String root : new String[] {"C:addressbook-multiget", "C:addressbook-query", "D:sync-collection"}) {
            Talk.due("21 children", report(talk, "", root, "<D:prop>" + wrongData + properties(20) + "</D:prop>"), WRONG);
            Talk.due("20 children", report(talk, "", root, "<D:prop>" + wrongData + properties(19) + "</D:prop>"), unsupported);
            Talk.due("ahead of other children", report(talk, "", root, "<D:limit/><C:limit/><D:prop>" + wrongData + "</D:prop>"), unsupported);
            Talk.due("the others then", report(talk, "", root, "<D:limit/><C:limit/>" + ETAG), WRONG);
        }
        Talk.due("20 are told", multiget(talk, "<D:prop>" + properties(20) + "</D:prop><D:href>" + BOOK + "c1</D:href>"), Talk.multi(
            "<D:response><D:href>" + BOOK + "c1</D:href>" + Talk.propstat("404 Not Found", properties(20)) + "</D:response>"));
    }

    /** The address-data of c1 by an element, or the answer without one. */
    private static String data(Talk talk, String element) {
        String answer = multiget(talk, "<D:prop>" + element + "</D:prop><D:href>" + BOOK + "c1</D:href>");
        int from = answer.indexOf("<C:address-data>");
        return from < 0 ? answer : answer.substring(from + 16, answer.indexOf("</C:address-data>"));
    }

    /** Part III, REPORT: "attributes content-type (not LIKE 'text/vcard') or version (not 3.0, 4.0): 403 with ERROR supported-address-data". */
    static void dataAttributes() {
        Talk talk = filled();
        String unsupported = Talk.error("<C:supported-address-data/>");
        for (String attributes : new String[] {"version=''", "version='3'", "version='3.00'", "version=' 3.0'", "version='2.1'", "version='5.0'",
            "content-type=''", "content-type='xext/vcard'", "content-type='text/x-vcard'", "content-type='text/vcard;'", "content-type='text/vcard ' version='3.0'",
            "content-type='text/vcard' version='x'", "content-type='x' version='4.0'"}) {
            Talk.due(attributes, data(talk, "<C:address-data " + attributes + "/>"), unsupported);
        }
        for (String attributes : new String[] {"", "version='4.0'", "content-type='text/vcard'", "content-type='TEXT/vCard' version='4.0'",
            "xml:version='x'", "Version='x'", "C:version='x' C:content-type='x'"}) {
            Talk.due(attributes, data(talk, "<C:address-data " + attributes + "/>"), CARDS[0]);
        }
        Talk.due("only the first C:address-data counts", data(talk, "<C:address-data/><C:address-data version='x'/>"), CARDS[0]);
        Talk.due("D:address-data is another", data(talk, "<D:address-data version='x'/>"), Talk.multi("<D:response><D:href>" + BOOK
            + "c1</D:href>" + Talk.propstat("404 Not Found", "<D:address-data/>") + "</D:response>"));
    }

    /** Part III, REPORT: "the card in that version (without: as it is)". */
    static void dataVersions() {
        Talk talk = filled();
        String three = Talk.card3("FN:Ann\r\nN:Ann;;;;\r\nUID:u1\r\nhome.TEL;TYPE=CELL,\"A,B\":1\r\nTEL;TYPE=PREF:22\r\nwork.TEL:333\r\n");
        Talk.due("as it is", data(talk, "<C:address-data/>"), CARDS[0]);
        Talk.due("its own", data(talk, "<C:address-data version='4.0'/>"), CARDS[0]);
        Talk.due("the other one", data(talk, "<C:address-data version='3.0'/>"), three);
        Talk.due("beside another property", multiget(talk, "<D:prop><C:address-data/><D:current-user-privilege-set/><D:owner/></D:prop><D:href>" + BOOK
            + "c3</D:href>"), Talk.multi(Talk.found(BOOK + "c3", "<C:address-data>" + CARDS[2] + "</C:address-data><D:current-user-privilege-set>"
            + "<D:privilege><D:read/></D:privilege><D:privilege><D:write/></D:privilege></D:current-user-privilege-set>"
            + "<D:owner><D:href>/p/ann/</D:href></D:owner>")));
    }

    private static String picked(Talk talk, String children) {
        return data(talk, "<C:address-data>" + children + "</C:address-data>");
    }

    /** Part III, REPORT: "with only those properties whose NAMES are children C:prop's attribute name (LIKE; with 'group.' ahead only those of that group LIKE; an empty group is none's)". */
    static void dataPicked() {
        Talk talk = filled();
        String tels = "home.TEL;TYPE=cell,\"a,B\":1\r\nTEL;PREF=1:22\r\nwork.TEL:333\r\n";
        Talk.due("LIKE", picked(talk, "<C:prop name='fN'/>"), Talk.card4("FN:Ann\r\n"));
        Talk.due("in the card's order", picked(talk, "<C:prop name='UID'/><C:prop name='FN'/>"), Talk.card4("FN:Ann\r\nUID:u1\r\n"));
        Talk.due("of any group", picked(talk, "<C:prop name='tel'/>"), Talk.card4(tels));
        Talk.due("of that group LIKE", picked(talk, "<C:prop name='HOME.Tel'/>"), Talk.card4("home.TEL;TYPE=cell,\"a,B\":1\r\n"));
        Talk.due("of an empty group", picked(talk, "<C:prop name='.TEL'/>"), Talk.card4(""));
        Talk.due("of another group", picked(talk, "<C:prop name='hom.TEL'/>"), Talk.card4(""));
        Talk.due("no such NAME", picked(talk, "<C:prop name='TE'/><C:prop name='TELL'/><C:prop name=''/><C:prop name='home.'/>"), Talk.card4(""));
        Talk.due("other children pick nothing", picked(talk, "<C:prop name='FN'/><D:prop name='UID'/><C:x name='UID'/><C:x><C:prop name='UID'/></C:x>"),
            Talk.card4("FN:Ann\r\n"));
        Talk.due("of the card as it is turned", data(talk, "<C:address-data version='3.0'><C:prop name='N'/></C:address-data>"),
            Talk.card3("N:Ann;;;;\r\n"));
    }

    /** Part III, REPORT: "if there are any and no child C:allprop". */
    static void dataAll() {
        Talk talk = filled();
        Talk.due("none", picked(talk, ""), CARDS[0]);
        Talk.due("others", picked(talk, "<D:prop name='FN'/><C:x><C:prop name='FN'/></C:x>"), CARDS[0]);
        Talk.due("C:allprop alone", picked(talk, "<C:allprop/>"), CARDS[0]);
        Talk.due("C:allprop behind", picked(talk, "<C:prop name='FN'/><C:allprop/>"), CARDS[0]);
        Talk.due("C:allprop ahead", picked(talk, "<C:allprop/><C:prop name='FN'/>"), CARDS[0]);
        picked(talk, "<C:prop name='FN'/>");
        Talk.due("nothing is picked for a turn behind it", talk.turn(0, CARDS[0]), CARDS[0]);
        Talk.due("D:allprop is another", picked(talk, "<C:prop name='FN'/><D:allprop/>"), Talk.card4("FN:Ann\r\n"));
    }

    /** Part III, REPORT: "BEGIN, VERSION and END in any case". */
    static void dataFrame() {
        Talk talk = filled();
        Talk.due("nothing else", picked(talk, "<C:prop name='X'/>"), Talk.card4(""));
        Talk.due("nor twice", picked(talk, "<C:prop name='BEGIN'/><C:prop name='VERSION'/><C:prop name='END' novalue='yes'/>"), Talk.card4(""));
    }

    /** Part III, REPORT: "without the value where that C:prop (the first that names it) has the attribute novalue LIKE 'yes'". */
    static void dataNovalue() {
        Talk talk = filled();
        Talk.due("yes", picked(talk, "<C:prop name='TEL' novalue='yes'/>"),
            Talk.card4("home.TEL;TYPE=cell,\"a,B\":\r\nTEL;PREF=1:\r\nwork.TEL:\r\n"));
        Talk.due("LIKE", picked(talk, "<C:prop name='FN' novalue='YeS'/>"), Talk.card4("FN:\r\n"));
        for (String other : new String[] {"no", "", "yess", "ye", "xes", " yes", "true"}) {
            Talk.due(other, picked(talk, "<C:prop name='FN' novalue='" + other + "'/>"), Talk.card4("FN:Ann\r\n"));
        }
        Talk.due("the first names it", picked(talk, "<C:prop name='FN'/><C:prop name='FN' novalue='yes'/>"), Talk.card4("FN:Ann\r\n"));
        Talk.due("the first says yes", picked(talk, "<C:prop name='FN' novalue='yes'/><C:prop name='FN'/>"), Talk.card4("FN:\r\n"));
        Talk.due("by group and without", picked(talk, "<C:prop name='work.TEL'/><C:prop name='TEL' novalue='yes'/>"),
            Talk.card4("home.TEL;TYPE=cell,\"a,B\":\r\nTEL;PREF=1:\r\nwork.TEL:333\r\n"));
    }

    /** Part III, MULTIGET: "children D:href (1 to 20; otherwise 400)". */
    static void hrefNumbers() {
        Talk talk = filled();
        String one = "<D:href>" + BOOK + "c1</D:href>";
        Talk.due("none", multiget(talk, ETAG), WRONG);
        Talk.due("none but others", multiget(talk, "<C:href>" + BOOK + "c1</C:href><D:x>" + one + "</D:x>"), WRONG);
        Talk.due("1", multiget(talk, one), Talk.multi(shown("c1")));
        Talk.due("20", multiget(talk, one.repeat(20)), Talk.multi(shown("c1").repeat(20)));
        Talk.due("21", multiget(talk, one.repeat(21)), WRONG);
        Talk.due("21 of nothing", multiget(talk, "<D:href/>".repeat(21)), WRONG);
    }

    private static void leads(Talk talk, String href, boolean there) {
        Talk.due("href " + href, multiget(talk, "<D:href>" + href + "</D:href>"),
            Talk.multi(there ? shown("c1") : Talk.told(href.trim(), "404 Not Found")));
    }

    /** Part III, MULTIGET: "of a CARD in this BOOK (path as a TARGET, but however long". */
    static void hrefPaths() {
        Talk talk = filled();
        talk.ann("MKCOL /a/ann/b2");
        talk.put("/a/ann/b2/c1", Talk.plain("u1", "A"));
        for (String href : new String[] {"/a/ann/b1/c1", "/a/ann/b1/c1?x", "/a/ann/b1/c1?%", "/a/ann/%62%31/c1", "%2Fa%2fann/b1/c1",
            "/a/ann/b1/c1?" + "x".repeat(1000), "%2F%61%2F%61%6E%6E%2F%62%31%2F%63%31?" + "y".repeat(200), " /a/ann/b1/c1 ",
            "\r\n\t/a/ann/b1/c1\r\n"}) {
            leads(talk, href, true);
        }
        for (String href : new String[] {"", "/", "/a/ann/b1/", "/a/ann/b1", "/a/ann/b1/c9", "/a/ann/b2/c1", "/a/ann/b9/c1", "/a/bob/b1/c1",
            "/a/ann/b1/c1/", "/a/ann/b1/c1%", "/a/ann/b1/c%3", "/a/ann/b1/%zz", "/p/ann/", "/a/ann/b1/" + "c".repeat(1000), "c1",
            "/A/ann/b1/c1", "/a/ann/b1/C1", "/a/ann/b1/ c1"}) {
            leads(talk, href, false);
        }
    }

    /** Part III, MULTIGET: "other text before a first /, as far as 'http://' and what is up to the next /, doesn't count)". */
    static void hrefOfHosts() {
        Talk talk = filled();
        for (String href : new String[] {"http://x/a/ann/b1/c1", "http:///a/ann/b1/c1", "http://x.org:80/a/ann/b1/c1",
            "http://" + "x".repeat(500) + "/a/ann/b1/c1", "http://%/a/ann/b1/c1"}) {
            leads(talk, href, true);
        }
        for (String href : new String[] {"x/a/ann/b1/c1", "https://x/a/ann/b1/c1", "http:/a/ann/b1/c1", "http://x", "http://", "//x/a/ann/b1/c1",
            "ttp://x/a/ann/b1/c1", "http://x//a/ann/b1/c1"}) {
            leads(talk, href, false);
        }
    }

    /** Part III, MULTIGET: "for each in order a RESPONSE" and "others: status 404, the href as it was told". */
    static void hrefsInOrder() {
        Talk talk = filled();
        String inner = "";
        String due = "";
        String[] hrefs = {"c2", "c9", "c1", "c2", "c&amp;&lt;&gt;\"'", "c3"};
        for (String name : hrefs) {
            boolean there = "c1 c2 c3".contains(name);
            inner += "<D:href> " + BOOK + name + "</D:href>";
            due += there ? shown(name) : Talk.told(BOOK + name, "404 Not Found");
        }
        Talk.due("hrefs", multiget(talk, inner), Talk.multi(due));
        Talk.due("each ends where it ends", multiget(talk, "<D:href>" + BOOK + "c%</D:href><D:href>31</D:href><D:href>" + BOOK + "c%3</D:href><D:href>1</D:href>"),
            Talk.multi(Talk.told(BOOK + "c%", "404 Not Found") + Talk.told("31", "404 Not Found") + Talk.told(BOOK + "c%3", "404 Not Found")
            + Talk.told("1", "404 Not Found")));
        Talk.due("not by %", multiget(talk, "<D:href>" + BOOK + "%639</D:href>"), Talk.multi(Talk.told(BOOK + "%639", "404 Not Found")));
    }

    /** Part III, QUERY: "a child C:filter (otherwise 400)". */
    static void filterNeeded() {
        Talk talk = filled();
        Talk.due("none", query(talk, ETAG), WRONG);
        Talk.due("D:filter", query(talk, "<D:filter/>"), WRONG);
        Talk.due("deeper", query(talk, "<D:x><C:filter/></D:x>"), WRONG);
        Talk.due("one", query(talk, "<C:filter/>"), Talk.multi(shown("c1", "c2", "c3")));
    }

    private static String limit(String space, String text) {
        return "<" + space + ":limit><" + space + ":nresults>" + text + "</" + space + ":nresults></" + space + ":limit>";
    }

    /** Part III, QUERY: "perhaps a child C:limit with a child C:nresults (a number 1 to 3 digits; something else, or none: 400". */
    static void limitNumbers() {
        Talk talk = filled();
        String all = Talk.multi(shown("c1", "c2", "c3"));
        for (String text : new String[] {"3", "03", "003", "4", "999", " 3 ", "\r\n3\t", "<!-- 1 -->3", "<![CDATA[3]]>", "3<D:x>4</D:x>"}) {
            Talk.due("nresults " + text, query(talk, "<C:filter/>" + limit("C", text)), all);
            Talk.due("nresults of sync " + text, Talk.statusOf(sync(talk, "<D:sync-token/>" + LEVEL + limit("D", text))), 207);
        }
        for (String text : new String[] {"", " ", "1000", "0003", "-1", "+1", "1 1", "1.0", "x", "1x", "/", ":"}) {
            Talk.due("nresults " + text, query(talk, "<C:filter/>" + limit("C", text)), WRONG);
            Talk.due("nresults of sync " + text, sync(talk, "<D:sync-token/>" + LEVEL + limit("D", text)), WRONG);
        }
        Talk.due("no nresults", query(talk, "<C:filter/><C:limit/>"), WRONG);
        Talk.due("D:nresults", query(talk, "<C:filter/><C:limit><D:nresults>1</D:nresults></C:limit>"), WRONG);
        Talk.due("D:limit is another", query(talk, "<C:filter/>" + limit("D", "x")), all);
        Talk.due("no nresults of sync", sync(talk, "<D:sync-token/>" + LEVEL + "<D:limit/>"), WRONG);
        Talk.due("C:limit is another", Talk.statusOf(sync(talk, "<D:sync-token/>" + LEVEL + limit("C", "x"))), 207);
    }

    /** Part III, QUERY: "0: only what is told behind". */
    static void limitOfNone() {
        Talk talk = filled();
        Talk.due("0", query(talk, ETAG + "<C:filter/>" + limit("C", "0")), Talk.multi(OVER));
        Talk.due("000", query(talk, ETAG + "<C:filter/>" + limit("C", "000")), Talk.multi(OVER));
        Talk.due("0 of none", query(talk, "<C:filter>" + prop("X", "") + "</C:filter>" + limit("C", "0")), Talk.multi(""));
    }

    /** Part III, QUERY: "RESPONSES for the CARDS (with Depth 0: none) that fit, by their names". */
    static void queriedByNames() {
        Talk talk = filled();
        for (String name : new String[] {"c10", "C", "c", "1"}) {
            talk.put(BOOK + name, Talk.plain(name, "A"));
        }
        Talk.due("by names", query(talk, "<C:filter/>"), Talk.multi(shown("1", "C", "c", "c1", "c10", "c2", "c3")));
        Talk.due("Depth 0", report(talk, "Depth: 0\r\n", "C:addressbook-query", "<C:filter/>" + limit("C", "0")), Talk.multi(""));
    }

    /** Part III, QUERY: "if there are more than nresults, only so many, then '<D:response><D:href>' path of the BOOK '</D:href><D:status>HTTP/1.1 507 Insufficient Storage</D:status></D:response>'". */
    static void moreThanTheLimit() {
        Talk talk = filled();
        Talk.due("1 of 3", query(talk, "<C:filter/>" + limit("C", "1")), Talk.multi(shown("c1") + OVER));
        Talk.due("2 of 3", query(talk, "<C:filter/>" + limit("C", "2")), Talk.multi(shown("c1", "c2") + OVER));
        Talk.due("3 of 3", query(talk, "<C:filter/>" + limit("C", "3")), Talk.multi(shown("c1", "c2", "c3")));
        Talk.due("1 of those that fit", query(talk, "<C:filter>" + prop("NOTE", "") + "</C:filter>" + limit("C", "1")),
            Talk.multi(shown("c2") + OVER));
        Talk.due("2 of those that fit", query(talk, "<C:filter>" + prop("NOTE", "") + "</C:filter>" + limit("C", "2")),
            Talk.multi(shown("c2", "c3")));
    }

    private static String prop(String name, String inner) {
        return "<C:prop-filter name='" + name + "'>" + inner + "</C:prop-filter>";
    }

    private static String param(String name, String inner) {
        return "<C:param-filter name='" + name + "'>" + inner + "</C:param-filter>";
    }

    private static String match(String attributes, String text) {
        return "<C:text-match " + attributes + ">" + text + "</C:text-match>";
    }

    /** The CARDS that fit a filter (or what is in one), in words, or the answer. */
    private static void fits(Talk talk, String filter, String due) {
        String whole = filter.startsWith("<C:filter") ? filter : "<C:filter>" + filter + "</C:filter>";
        String want = due.equals("400") ? WRONG : due.equals("403") ? Talk.error("<C:supported-collation/>")
            : Talk.multi(due.isEmpty() ? "" : shown(due.split(" ")));
        Talk.due(whole, query(talk, whole), want);
    }

    /** Part III, FILTER: "(all of it is looked at first, in the order of the text, attributes ahead of children and as they are told here)". */
    static void filterLookedAtFirst() {
        Talk talk = filled();
        String collation = match("collation='x'", "");
        String type = match("match-type='x'", "");
        fits(talk, prop("NONE", collation), "403");
        fits(talk, prop("FN", "<C:is-not-defined/>" + collation), "403");
        fits(talk, prop("FN", "") + prop("NONE", type), "400");
        fits(talk, prop("FN", collation + type), "403");
        fits(talk, prop("FN", type + collation), "400");
        fits(talk, prop("FN", match("collation='x' match-type='x'", "")), "403");
        fits(talk, prop("FN", match("match-type='x' collation='x'", "")), "403");
        fits(talk, prop("FN", match("negate-condition='x' collation='x'", "")), "403");
        fits(talk, "<C:filter test='x'>" + prop("FN", collation) + "</C:filter>", "400");
        fits(talk, "<C:prop-filter>" + collation + "</C:prop-filter>", "400");
        fits(talk, prop("FN", param("A", collation) + type), "403");
        fits(talk, prop("FN", param("A", type) + collation), "400");
        fits(talk, prop("FN", "<C:param-filter>" + collation + "</C:param-filter>"), "400");
        fits(talk, prop("FN", collation) + "<C:prop-filter/>", "403");
        fits(talk, "<C:prop-filter/>" + prop("FN", collation), "400");
        Talk empty = Talk.begun();
        empty.ann("MKCOL /a/ann/b1");
        Talk.due("of an empty BOOK", report(empty, "", "C:addressbook-query", "<C:filter test='x'/>"), WRONG);
    }

    /** Part III, FILTER: "attribute test 'anyof' (also without) or 'allof' (something else: 400; so all attributes told here)". */
    static void filterTests() {
        Talk talk = filled();
        String two = prop("TEL", "") + prop("UID", match("match-type='equals'", "u2"));
        fits(talk, "<C:filter>" + two + "</C:filter>", "c1 c2");
        fits(talk, "<C:filter test='anyof'>" + two + "</C:filter>", "c1 c2");
        fits(talk, "<C:filter test='allof'>" + two + "</C:filter>", "");
        fits(talk, "<C:filter C:test='x'>" + two + "</C:filter>", "c1 c2");
        for (String test : new String[] {"", "x", "anyOf", "ALLOF", " allof", "allof ", "any"}) {
            fits(talk, "<C:filter test='" + test + "'>" + two + "</C:filter>", "400");
            fits(talk, "<C:prop-filter name='FN' test='" + test + "'/>", "400");
        }
        for (String attribute : new String[] {"match-type=''", "match-type='Equals'", "match-type='x'", "negate-condition=''",
            "negate-condition='YES'", "negate-condition='true'"}) {
            fits(talk, prop("FN", match(attribute, "x")), "400");
            fits(talk, prop("FN", param("A", match(attribute, "x"))), "400");
        }
    }

    /** Part III, FILTER: "a card fits if one (all) of them fits; without any it fits". */
    static void filterOfNone() {
        Talk talk = filled();
        fits(talk, "", "c1 c2 c3");
        fits(talk, "<C:filter test='allof'/>", "c1 c2 c3");
        fits(talk, "<C:filter test='anyof'><D:prop-filter/><C:x/></C:filter>", "c1 c2 c3");
        fits(talk, "<C:filter test='allof'>" + prop("FN", "") + prop("NOTE", "") + "</C:filter>", "c2 c3");
        fits(talk, "<C:filter test='anyof'>" + prop("X", "") + prop("Y", "") + "</C:filter>", "");
    }

    /** Part III, PROP-FILTER: "attribute name (needed)". */
    static void propFilterName() {
        Talk talk = filled();
        fits(talk, "<C:prop-filter/>", "400");
        fits(talk, "<C:prop-filter C:name='FN'/>", "400");
        fits(talk, "<C:prop-filter Name='FN'/>", "400");
        fits(talk, prop("", ""), "");
    }

    /** Part III, PROP-FILTER: "the properties of the card with that name (LIKE; with 'group.' ahead only those of that group LIKE; an empty group is none's)". */
    static void propFilterNames() {
        Talk talk = filled();
        String[][] rows = {{"fn", "c1 c2 c3"}, {"FN", "c1 c2 c3"}, {"F", ""}, {"FNN", ""}, {"tel", "c1"}, {"HOME.tel", "c1"}, {"work.TEL", "c1"},
            {"hom.TEL", ""}, {"homes.TEL", ""}, {".TEL", ""}, {".FN", ""}, {"home.", ""}, {"home", ""}, {".", ""}, {"home.TEL.", ""},
            {"BEGIN", ""}, {"VERSION", ""}, {"END", ""}};
        for (String[] row : rows) {
            fits(talk, prop(row[0], ""), row[1]);
        }
        fits(talk, prop("home.TEL", match("match-type='equals'", "333")), "");
        fits(talk, prop("work.TEL", match("match-type='equals'", "333")), "c1");
    }

    /** Part III, PROP-FILTER: "child C:is-not-defined: it fits if there are none". */
    static void propNotDefined() {
        Talk talk = filled();
        fits(talk, prop("TEL", "<C:is-not-defined/>"), "c2 c3");
        fits(talk, prop("home.TEL", "<C:is-not-defined/>"), "c2 c3");
        fits(talk, prop("other.TEL", "<C:is-not-defined/>"), "c1 c2 c3");
        fits(talk, prop("FN", "<C:is-not-defined/>"), "");
        fits(talk, prop("NOTE", match("", "zzz") + "<C:is-not-defined/>"), "c1");
        fits(talk, prop("TEL", "<D:is-not-defined/>"), "c1");
    }

    /** Part III, PROP-FILTER: "Otherwise it fits if there is one, and, if it has children C:text-match and C:param-filter, there is one for which one (all) of these fits." */
    static void propTests() {
        Talk talk = filled();
        fits(talk, prop("NOTE", ""), "c2 c3");
        String one = match("match-type='equals'", "22");
        String other = match("match-type='equals'", "1");
        fits(talk, prop("TEL", one + other), "c1");
        fits(talk, "<C:prop-filter name='TEL' test='allof'>" + one + other + "</C:prop-filter>", "");
        fits(talk, "<C:prop-filter name='TEL' test='allof'>" + one + param("PREF", "") + "</C:prop-filter>", "c1");
        fits(talk, "<C:prop-filter name='TEL' test='allof'>" + other + param("PREF", "") + "</C:prop-filter>", "");
        fits(talk, prop("TEL", match("match-type='equals'", "9") + param("PREF", "")), "c1");
        fits(talk, prop("TEL", match("match-type='equals'", "9") + param("X", "")), "");
        fits(talk, prop("NOTE", match("", "")), "c2 c3");
        fits(talk, prop("FN", match("", "zzz") + match("match-type='equals'", "ann")), "c1");
        fits(talk, prop("FN", match("", "zzz")) + "<C:prop-filter name='UID' test='allof'>" + match("", "u1") + "</C:prop-filter>", "c1");
        fits(talk, "<C:filter test='allof'>" + prop("FN", match("", "n") + match("", "b")) + prop("UID", match("", "2") + match("", "3"))
            + "</C:filter>", "c2");
    }

    /** Part III, QUERY: "RESPONSES for the CARDS (with Depth 0: none) that fit" (again and again, each filter alone). */
    static void manyFilters() {
        Talk talk = filled();
        String many = "";
        for (int i = 0; i < 30; i++) {
            many += prop("FN", match("", "none such"));
        }
        for (int round = 0; round < 20; round++) {
            fits(talk, many + prop("FN", match("", "ann")), "c1");
        }
    }

    /** Part III, PARAM-FILTER: "child C:is-not-defined: fits if the property does not have the parameter; otherwise if it has it". */
    static void paramDefined() {
        Talk talk = filled();
        fits(talk, prop("home.TEL", param("TYPE", "")), "c1");
        fits(talk, prop("home.TEL", param("type", "")), "c1");
        fits(talk, prop("home.TEL", param("TYP", "")), "");
        fits(talk, prop("home.TEL", param("PREF", "")), "");
        fits(talk, prop("home.TEL", param("TYPE", "<C:is-not-defined/>")), "");
        fits(talk, prop("home.TEL", param("PREF", "<C:is-not-defined/>")), "c1");
        fits(talk, prop("TEL", param("TYPE", "<C:is-not-defined/>")), "c1");
        fits(talk, prop("X", param("TYPE", "<C:is-not-defined/>")), "");
        fits(talk, prop("home.TEL", param("TYPE", match("", "zzz") + "<C:is-not-defined/>")), "");
        fits(talk, prop("home.TEL", param("PREF", match("", "zzz") + "<C:is-not-defined/>")), "c1");
        fits(talk, prop("home.TEL", param("TYPE", match("", "cell") + "<C:is-not-defined/>")), "");
        fits(talk, prop("home.TEL", param("TYPE", "")), "c1");
        fits(talk, prop("home.TEL", param("PREF", "")), "");
    }

    /** Part III, PARAM-FILTER: "with a child C:text-match (the first one; others are not looked at), one of its values fits". */
    static void paramMatches() {
        Talk talk = filled();
        fits(talk, prop("TEL", param("TYPE", match("match-type='equals'", "CELL"))), "c1");
        fits(talk, prop("TEL", param("TYPE", match("match-type='equals'", "a,b"))), "c1");
        fits(talk, prop("TEL", param("TYPE", match("match-type='equals'", "cell,a"))), "");
        fits(talk, prop("TEL", param("TYPE", match("match-type='equals'", "a"))), "");
        fits(talk, prop("TEL", param("TYPE", match("", "ell") + match("collation='x' match-type='x'", ""))), "c1");
        fits(talk, prop("TEL", param("TYPE", match("", "zzz") + match("", "ell"))), "");
        fits(talk, prop("TEL", param("PREF", match("match-type='equals'", "1"))), "c1");
        fits(talk, prop("TEL", param("TYPE", match("negate-condition='yes' match-type='equals'", "cell"))), "c1");
        fits(talk, prop("TEL", param("PREF", match("negate-condition='yes'", "1"))), "");
    }

    /** Part III, TEXT-MATCH: "collation ('i;octet', 'i;ascii-casemap', 'i;unicode-casemap', also 'default' and without; something else: 403 with ERROR supported-collation)". */
    static void collations() {
        Talk talk = filled();
        talk.put(BOOK + "c1", Talk.plain("u1", "Ann \u00c4"));
        String[][] rows = {{"collation='i;octet'", "ann", ""}, {"collation='i;octet'", "Ann", "c1"}, {"collation='i;octet'", "\u00c4", "c1"},
            {"collation='i;octet'", "\u00e4", ""}, {"collation='i;ascii-casemap'", "aNN", "c1"}, {"collation='i;ascii-casemap'", "\u00e4", ""},
            {"collation='i;unicode-casemap'", "aNN \u00e4", "c1"}, {"collation='default'", "aNN \u00e4", "c1"}, {"", "aNN \u00e4", "c1"}};
        for (String[] row : rows) {
            fits(talk, prop("FN", match(row[0], row[1])), row[2]);
        }
        for (String other : new String[] {"", "i;OCTET", "i;octet ", "octet", "i;ascii-numeric", "Default", "x"}) {
            fits(talk, prop("FN", match("collation='" + other + "'", "Ann")), "403");
        }
    }

    /** Part III, TEXT-MATCH: "match-type 'equals', 'contains' (also without), 'starts-with', 'ends-with'". */
    static void matchTypes() {
        Talk talk = filled();
        String[] types = {"", "match-type='contains'", "match-type='starts-with'", "match-type='ends-with'", "match-type='equals'"};
        String[][] rows = {{"nn", "c1", "c1", "", "c1", ""}, {"an", "c1", "c1", "c1", "", ""}, {"ann", "c1", "c1", "c1", "c1", "c1"},
            {"annn", "", "", "", "", ""}, {"", "c1 c2 c3", "c1 c2 c3", "c1 c2 c3", "c1 c2 c3", ""}, {"n", "c1", "c1", "", "c1", ""},
            {"xann", "", "", "", "", ""}, {" ann", "", "", "", "", ""}};
        for (String[] row : rows) {
            for (int i = 0; i < types.length; i++) {
                fits(talk, prop("FN", match(types[i], row[0])), row[i + 1]);
            }
        }
        fits(talk, prop("NOTE", match("match-type='equals'", "")), "c3");
    }

    /** Part III, TEXT-MATCH: "negate-condition 'yes', 'no' (also without)" and "with 'yes' it fits if it would not". */
    static void negated() {
        Talk talk = filled();
        fits(talk, prop("FN", match("", "a")), "c1 c3");
        fits(talk, prop("FN", match("negate-condition='no'", "a")), "c1 c3");
        fits(talk, prop("FN", match("negate-condition='yes'", "a")), "c2");
        fits(talk, prop("NOTE", match("negate-condition='yes'", "a")), "c3");
        fits(talk, prop("FN", match("negate-condition='yes'", "")), "");
    }

    /** Part III, TEXT-MATCH: "its texts are looked for in the MEANING of a value (Part IV)". */
    static void meanings() {
        Talk talk = filled();
        talk.put(BOOK + "c1", Talk.card4("FN:a\\,b\\;c\\\\d\\ne\r\nUID:u1\r\nNICKNAME:a\\,b,c\r\nORG:x\\;y;z,w\r\nURL:a\\,b\r\nX-Y:\\n\r\n"
            + "N:a\\,b;c\\;d,e\\N;;;\r\nGENDER:M;\\,\r\nTZ:\\N\r\n"));
        String[][] rows = {{"FN", "a,b;c\\d\ne"}, {"NICKNAME", "a,b,c"}, {"ORG", "x;y;z,w"}, {"URL", "a\\,b"}, {"X-Y", "\\n"},
            {"N", "a,b;c;d,e\n;;;"}, {"GENDER", "M;,"}, {"TZ", "\n"}};
        for (String[] row : rows) {
            fits(talk, prop(row[0], match("match-type='equals'", row[1])), "c1");
        }
        fits(talk, prop("FN", match("match-type='equals'", "a,b;<D:x>no</D:x><!-- no -->c&#92;<![CDATA[d]]>&#10;e")), "c1");
    }

    /** Part III, TEXT-MATCH: "U+00C0 .. U+00DE but U+00D7 as the ones 32 above, U+0391 .. U+03A9 likewise, U+0410 .. U+042F likewise, U+0400 .. U+040F as those 80 above". */
    static void unicodeLetters() {
        Talk talk = filled();
        // Each letter, the one it counts as, or 0 when it is only itself.
        int[][] rows = {{0xBF, 0}, {0xC0, 0xE0}, {0xD6, 0xF6}, {0xD7, 0}, {0xD8, 0xF8}, {0xDE, 0xFE}, {0xDF, 0}, {0x390, 0}, {0x391, 0x3B1},
            {0x39F, 0x3BF}, {0x3A0, 0x3C0}, {0x3A9, 0x3C9}, {0x3AA, 0}, {0x3FF, 0}, {0x400, 0x450}, {0x40F, 0x45F}, {0x410, 0x430},
            {0x41F, 0x43F}, {0x420, 0x440}, {0x42F, 0x44F}, {0x430, 0}, {0x100, 0}};
        for (int[] row : rows) {
            String letter = "" + (char) row[0];
            talk.put(BOOK + "c1", Talk.plain("u1", letter));
            fits(talk, prop("FN", match("match-type='equals'", letter)), "c1");
            fits(talk, prop("FN", match("match-type='equals'", "" + (char) (row[0] + 32))), row[1] == row[0] + 32 ? "c1" : "");
            fits(talk, prop("FN", match("match-type='equals'", "" + (char) (row[0] + 80))), row[1] == row[0] + 80 ? "c1" : "");
            fits(talk, prop("FN", match("match-type='equals' collation='i;ascii-casemap'", "" + (char) (row[0] + 32))), "");
        }
        talk.put(BOOK + "c1", Talk.plain("u1", "\u03b1\u0430"));
        fits(talk, prop("FN", match("", "\u03f1")), "");
        fits(talk, prop("FN", match("", "\u0470")), "");
    }

    /** Terms: "Where it says LIKE, letters of texts are compared without their case (A .. Z as a .. z)." (the bytes beside the letters) */
    static void besideLetters() {
        Talk talk = filled();
        talk.put(BOOK + "c1", Talk.plain("u1", "@AZ["));
        fits(talk, prop("FN", match("match-type='equals'", "@az[")), "c1");
        fits(talk, prop("FN", match("match-type='equals'", "`az[")), "");
        fits(talk, prop("FN", match("match-type='equals'", "@az{")), "");
        fits(talk, prop("FN", match("match-type='equals' collation='i;ascii-casemap'", "@Az[")), "c1");
        fits(talk, prop("FN", match("match-type='equals' collation='i;ascii-casemap'", "`Az{")), "");
        talk.put(BOOK + "c1", Talk.card4("FN:A\r\nUID:u1\r\nAZ.AZ-;AZ-=b:c\r\n"));
        fits(talk, prop("az.az-", param("az-", "")), "c1");
        fits(talk, prop("az&#13;", ""), "");
        fits(talk, prop("az-", param("az&#13;", "")), "");
    }

    private static String changes(Talk talk, String token, String more) {
        return sync(talk, "<D:sync-token>" + token + "</D:sync-token>" + LEVEL + ETAG + more);
    }

    private static String told(String responses, String change) {
        return Talk.multi(responses + "<D:sync-token>urn:x-sync:1-" + change + "</D:sync-token>");
    }

    private static String gone(String name) {
        return Talk.told(BOOK + name, "404 Not Found");
    }

    private static final String INVALID = Talk.error("<D:valid-sync-token/>");

    /** Part III, SYNC: "children D:sync-token (its texts: none, or a TOKEN)". */
    static void tokenTexts() {
        Talk talk = filled();
        String all = told(etag("c1", 2) + etag("c2", 3) + etag("c3", 4), "4");
        for (String token : new String[] {"", " ", "\r\n\t", "<!-- x -->", "<D:x>y</D:x>", "<![CDATA[]]>"}) {
            Talk.due("none: " + token, changes(talk, token, ""), all);
        }
        for (String token : new String[] {"urn:x-sync:1-3", " urn:x-sync:1-3\n", "urn:x<!-- -->-sync:<![CDATA[1-3]]>"}) {
            Talk.due("a TOKEN: " + token, changes(talk, token, ""), told(etag("c3", 4), "4"));
        }
    }

    /** Part III, SYNC: "D:sync-level ('1'; otherwise, or without one of them: 400)". */
    static void levels() {
        Talk talk = filled();
        String token = "<D:sync-token/>";
        for (String level : new String[] {"", "0", "2", "infinite", "11", "01", "1 1", "x"}) {
            Talk.due("level " + level, sync(talk, token + "<D:sync-level>" + level + "</D:sync-level>"), WRONG);
        }
        Talk.due("S around it", Talk.statusOf(sync(talk, token + "<D:sync-level>\n1 </D:sync-level>")), 207);
        Talk.due("without a level", sync(talk, token), WRONG);
        Talk.due("without a token", sync(talk, LEVEL), WRONG);
        Talk.due("without both", sync(talk, ETAG), WRONG);
        Talk.due("of C", sync(talk, "<C:sync-token/><C:sync-level>1</C:sync-level>"), WRONG);
    }

    /** Part III, SYNC: "TOKEN: 'urn:x-sync:' the change by which the BOOK was made '-' a change, that one at least, and now's at most (numbers without 0 ahead)". */
    static void tokens() {
        Talk talk = Talk.begun();
        talk.ann("MKCOL /a/ann/b0");
        talk.ann("MKCOL /a/ann/b1");
        talk.put(BOOK + "c1", Talk.plain("u1", "A"));
        for (String token : new String[] {"urn:x-sync:2-1", "urn:x-sync:2-0", "urn:x-sync:2-4", "urn:x-sync:1-3", "urn:x-sync:3-3", "urn:x-sync:02-3",
            "urn:x-sync:2-03", "urn:x-sync:2-3 3", "urn:x-sync:2-", "urn:x-sync:-3", "urn:x-sync:2", "urn:x-sync:", "urn:x-sync", "u", "2-3",
            "URN:x-sync:2-3", "urn:x-sync:2-3-3", "urn:x-sync:2--3", "urn:x-sync:2-+3", "urn:x-sync:2-3x", "xurn:x-sync:2-3",
            "urn:x-sync:2-4294967299", "urn:x-sync:4294967298-3", "urn:x-sync:2-18446744073709551619", "urn:x-sync:2-" + "9".repeat(40)}) {
            Talk.due("token " + token, changes(talk, token, ""), INVALID);
        }
        String now = "<D:sync-token>urn:x-sync:2-3</D:sync-token>";
        Talk.due("the BOOK's own", changes(talk, "urn:x-sync:2-2", ""), Talk.multi(etag("c1", 3) + now));
        Talk.due("now's", changes(talk, "urn:x-sync:2-3", ""), Talk.multi(now));
    }

    /** Part III, SYNC: "of now: the latest change of the house". */
    static void theTokenOfNow() {
        Talk talk = filled();
        talk.ask("bob", "MKCOL /a/bob/b1", "", "");
        Talk.due("a change of another BOOK", changes(talk, "urn:x-sync:1-4", ""), told("", "5"));
        Talk.due("it is a TOKEN", changes(talk, "urn:x-sync:1-5", ""), told("", "5"));
    }

    /** Part III, SYNC: "What is no such TOKEN, or one below the change of a deletion that was forgotten: 403 with ERROR valid-sync-token of D." */
    static void tokensTooOld() {
        Talk talk = Talk.begun();
        talk.ann("MKCOL /a/ann/b1");
        for (int i = 0; i < 20; i++) {
            talk.put(BOOK + "d" + i, Talk.plain("u", "A"));
            talk.ann("DELETE " + BOOK + "d" + i);
        }
        StringBuilder all = new StringBuilder();
        for (int i = 0; i < 20; i++) {
            all.append(gone("d" + i));
        }
        Talk.due("20 are kept in mind", changes(talk, "urn:x-sync:1-1", ""), told(all.toString(), "41"));
        talk.put(BOOK + "d20", Talk.plain("u", "A"));
        talk.ann("DELETE " + BOOK + "d20");
        String rest = all.substring(gone("d0").length()) + gone("d20");
        Talk.due("below the forgotten one, 3", changes(talk, "urn:x-sync:1-2", ""), INVALID);
        Talk.due("the BOOK's own", changes(talk, "urn:x-sync:1-1", ""), INVALID);
        Talk.due("at the forgotten one", changes(talk, "urn:x-sync:1-3", ""), told(rest, "43"));
        Talk.due("without a token", changes(talk, "", ""), told("", "43"));
    }

    /** Part III, SYNC: "for all CARDS of the BOOK that were changed behind that change (without a token: that are there), by their latest change". */
    static void changedCards() {
        Talk talk = filled();
        talk.put(BOOK + "c1", CARDS[0]);
        talk.ann("DELETE " + BOOK + "c2");
        talk.ann("MKCOL /a/ann/b2");
        talk.put("/a/ann/b2/c1", CARDS[0]);
        Talk.due("all", changes(talk, "urn:x-sync:1-1", ""), told(etag("c3", 4) + etag("c1", 5) + gone("c2"), "8"));
        Talk.due("without a token", changes(talk, "", ""), told(etag("c3", 4) + etag("c1", 5), "8"));
        Talk.due("behind 4", changes(talk, "urn:x-sync:1-4", ""), told(etag("c1", 5) + gone("c2"), "8"));
        Talk.due("behind 5", changes(talk, "urn:x-sync:1-5", ""), told(gone("c2"), "8"));
        Talk.due("behind 6", changes(talk, "urn:x-sync:1-6", ""), told("", "8"));
    }

    /** Part III, SYNC: "properties, or, when they were deleted (and are not there), status 404". */
    static void deletedCards() {
        Talk talk = filled();
        talk.ann("DELETE " + BOOK + "c1");
        Talk.due("deleted", changes(talk, "urn:x-sync:1-4", ""), told(gone("c1"), "5"));
        talk.put(BOOK + "c1", CARDS[0]);
        Talk.due("there again", changes(talk, "urn:x-sync:1-4", ""), told(etag("c1", 6), "6"));
        talk.ann("DELETE " + BOOK + "c1");
        Talk.due("deleted again", changes(talk, "urn:x-sync:1-4", ""), told(gone("c1"), "7"));
        talk.put(BOOK + "c9", Talk.plain("u9", "A"));
        talk.ann("DELETE " + BOOK + "c9");
        String longest = "d".repeat(20);
        talk.put(BOOK + longest, Talk.plain("u8", "A"));
        talk.ann("DELETE " + BOOK + longest);
        Talk.due("a name of 20 letters", changes(talk, "urn:x-sync:1-9", ""), told(gone(longest), "11"));
        Talk.due("made and deleted behind the change", changes(talk, "urn:x-sync:1-7", ""), told(gone("c9") + gone(longest), "11"));
    }

    /** Part III, SYNC: "with a limit only so many, and then the 507 as above" and "of now, or, when there were more, of the last one's change". */
    static void limitedChanges() {
        Talk talk = filled();
        talk.ann("DELETE " + BOOK + "c1");
        String token = "urn:x-sync:1-1";
        Talk.due("1 of 3", changes(talk, token, limit("D", "1")), told(etag("c2", 3) + OVER, "3"));
        Talk.due("2 of 3", changes(talk, token, limit("D", "2")), told(etag("c2", 3) + etag("c3", 4) + OVER, "4"));
        Talk.due("3 of 3", changes(talk, token, limit("D", "3")), told(etag("c2", 3) + etag("c3", 4) + gone("c1"), "5"));
        talk.put(BOOK + "c2", CARDS[1]);
        Talk.due("a deleted one last", changes(talk, "urn:x-sync:1-4", limit("D", "1")), told(gone("c1") + OVER, "5"));
        Talk.due("1 of 2 without a token", changes(talk, "", limit("D", "1")), told(etag("c3", 4) + OVER, "4"));
        Talk.due("2 of 2 without a token", changes(talk, "", limit("D", "2")), told(etag("c3", 4) + etag("c2", 6), "6"));
    }

    /** Part III, SYNC: "(of none: the one that was told, or the BOOK's own)". */
    static void limitedToNone() {
        Talk talk = filled();
        Talk.due("the one that was told", changes(talk, "urn:x-sync:1-2", limit("D", "0")), told(OVER, "2"));
        Talk.due("the BOOK's own", changes(talk, "", limit("D", "0")), told(OVER, "1"));
        Talk.due("none of none", changes(talk, "urn:x-sync:1-4", limit("D", "0")), told("", "4"));
    }

    /** The requests by which a CARD comes and goes. */
    private static String comesAndGoes(String name) {
        return Talk.request("ann", "PUT " + BOOK + name, "Content-Type: text/vcard\r\n", Talk.plain("u", "A"))
            + Talk.request("ann", "DELETE " + BOOK + name, "", "");
    }

    /** Part III, SYNC: "(A BOOK keeps in mind the names that were deleted and are not there, each with its latest change". */
    static void oneNameKeptOnce() {
        Talk talk = Talk.begun();
        talk.ann("MKCOL /a/ann/b1");
        talk.come(comesAndGoes("d").repeat(22));
        Talk.due("one name is kept once", changes(talk, "urn:x-sync:1-1", ""), told(gone("d"), "45"));
    }

    /** Part III, SYNC: "the 20 latest ones; others are forgotten". */
    static void keptInMind() {
        Talk talk = Talk.begun();
        talk.ann("MKCOL /a/ann/b1");
        String all = comesAndGoes("d");
        for (int i = 0; i < 19; i++) {
            all += comesAndGoes("e" + i);
        }
        talk.come(all);
        Talk.due("20 names", Talk.statusOf(changes(talk, "urn:x-sync:1-1", "")), 207);
        talk.put(BOOK + "d", Talk.plain("u", "A"));
        talk.put(BOOK + "e19", Talk.plain("v", "A"));
        talk.ann("DELETE " + BOOK + "e19");
        Talk.due("a name that is there again is not kept", Talk.statusOf(changes(talk, "urn:x-sync:1-1", "")), 207);
        talk.ann("DELETE " + BOOK + "d");
        Talk.due("the oldest one, of 5, is forgotten then", changes(talk, "urn:x-sync:1-4", ""), INVALID);
        Talk.due("the 20 latest ones", Talk.statusOf(changes(talk, "urn:x-sync:1-5", "")), 207);
        Talk.due("the latest one is the last", changes(talk, "urn:x-sync:1-43", ""), told(gone("e19") + gone("d"), "45"));
    }

    /** Part III, SYNC: "a TOKEN that is told with a limit may be one too old already". */
    static void aLimitedTokenTooOld() {
        Talk talk = Talk.begun();
        talk.ann("MKCOL /a/ann/b1");
        talk.put(BOOK + "c1", Talk.plain("u1", "A"));
        talk.put(BOOK + "c2", Talk.plain("u2", "A"));
        for (int i = 0; i < 21; i++) {
            talk.put(BOOK + "d" + i, Talk.plain("u", "A"));
            talk.ann("DELETE " + BOOK + "d" + i);
        }
        Talk.due("it is told", changes(talk, "", limit("D", "1")), told(etag("c1", 2) + OVER, "2"));
        Talk.due("and too old", changes(talk, "urn:x-sync:1-2", ""), INVALID);
    }

    /** Part III, SYNC: "A BOOK that is made anew is another one.)" */
    static void aBookMadeAnew() {
        Talk talk = filled();
        talk.ann("DELETE " + BOOK + "c1");
        talk.ann("DELETE " + BOOK);
        talk.ann("MKCOL " + BOOK);
        Talk.due("the old TOKEN", changes(talk, "urn:x-sync:1-4", ""), INVALID);
        Talk.due("nothing is kept in mind", changes(talk, "urn:x-sync:7-7", ""),
            Talk.multi("<D:sync-token>urn:x-sync:7-7</D:sync-token>"));
        Talk.due("nothing is below its own", changes(talk, "urn:x-sync:7-6", ""), INVALID);
    }
}

/** Promise 6, Part V: what is XML. */
public final class XmlTest {
    private static final Talk TALK = Talk.begun();

    public static void main(String[] args) {
        documents();
        contents();
        attributes();
        spaces();
        limits();
        Talk.finish();
    }

    private static int find(String body) {
        return TALK.status("ann", "PROPFIND /", "Depth: 0\r\n", body);
    }

    private static void right(String body) {
        Talk.due("XML: " + body, find(body), 207);
    }

    private static void wrong(String body) {
        Talk.due("no XML: " + body, find(body), 400);
    }

    private static final String OPEN = "<propfind xmlns='DAV:'>";
    private static final String ALL = OPEN + "<allprop/></propfind>";

    private static String inside(String text) {
        return OPEN + "<allprop/>" + text + "</propfind>";
    }

    private static void documents() {
        String[] right = {ALL, " \t\r\n" + ALL + "\n", "<?xml version='1.0'?>" + ALL, "<?xml ?>" + ALL, "<?xml ? >?>\n" + ALL,
            "<!---->" + ALL + "<!-- - -->", "<?xml \u00e9?><!--x-->" + ALL, "<!-- a --->" + ALL};
        String[] wrong = {" ", "x", ALL + "x", "x" + ALL, ALL + ALL, " <?xml ?>" + ALL, "<?xml?>" + ALL, "<?xml\t?>" + ALL,
            "<?xml " + ALL, "<!-- -- -->" + ALL, "<!-->" + ALL, "<!--" + ALL, ALL + "<?x?>", "<!DOCTYPE a>" + ALL, "\ufeff" + ALL,
            ALL + "<![CDATA[]]>", "<![CDATA[ ]]>" + ALL, ALL + "&#32;", ALL.substring(0, ALL.length() - 1), OPEN,
            ALL + "</propfind>", "<!-- a ---->" + ALL, "<!----x-->" + ALL};
        for (String body : right) {
            right(body);
        }
        for (String body : wrong) {
            wrong(body);
        }
    }

    private static void contents() {
        String[] right = {"text", "<![CDATA[]]>", "<![CDATA[]]]>", "<a/>", "<a\n/>", "<a></a\t>", "<_a-b.c1/>", "<!-- <a> & -->", "<![CDATA[ <&]] > ]]>",
            "&lt;&gt;&amp;&quot;&apos;", "&#9;&#10;&#13;&#32;&#0000065;&#x41;&#xD7FF;&#xE000;&#xFFFD;&#x10000;&#x10fffF;",
            "]] >", "]]&gt;", "]]<!-- -->>", "\u007f", "\ud83d\ude00", "\"'=/>", "<a><b></b></a>"};
        String[] wrong = {"<a>", "</a>", "<a></b>", "<a></a b>", "<a></ a>", "< a/>", "<a/ >", "<a", "<1/>", "<-a/>", "<.a/>",
            "<\u00e9/>", "<a:b:c/>", "<a:/>", "<:a/>", "]]>", "<![CDATA[x", "<![cdata[x]]>", "<!-- -- -->", "<!--", "<?x?>",
            "<!ELEMENT a>", "&", "&lt", "&foo;", "&LT;", "&;", "&#;", "&#x;", "&#X41;", "&#0;", "&#8;", "&#11;", "&#31;", "&#xD800;",
            "&#xDFFF;", "&#xFFFE;", "&#xFFFF;", "&#x110000;", "&#00000065;", "&#x00000041;", "&#6a;", "&#xg;", "& lt;", "\u0001",
            "\u001f", "\ufffe", "\uffff", "<a><b></a></b>", "<p:1a xmlns:p='u'/>", "<p: xmlns:p='u'/>", "<a xmlns:='u'/>", "<p:-a xmlns:p='u'/>"};
        for (String text : right) {
            right(inside(text));
        }
        for (String text : wrong) {
            wrong(inside(text));
        }
        byte[] body = inside("??").getBytes();
        int at = new String(body).indexOf('?');
        int[][] bytes = {{0xC3, 0xA9, 207}, {0xC0, 0x80, 400}, {0xC3, 0x28, 400}, {0x80, 0x20, 400}, {0x20, 0xFF, 400}};
        for (int[] row : bytes) {
            body[at] = (byte) row[0];
            body[at + 1] = (byte) row[1];
            byte[] head = Talk.request("ann", "PROPFIND /", "Depth: 0\r\nContent-Length: " + body.length + "\r\n", "").getBytes();
            byte[] all = java.util.Arrays.copyOf(head, head.length + body.length);
            System.arraycopy(body, 0, all, head.length, body.length);
            Talk.due("bytes " + row[0] + " " + row[1], TALK.come(all).substring(9, 12), row[2] + "");
        }
    }

    private static void attributes() {
        String[] right = {"<a b='1'/>", "<a b=\"'\" c='\"'/>", "<a\n\tb\r=\n'&lt;&#10;>'/>", "<a b=''></a>", "<a xml:b='' b=''/>"};
        String[] wrong = {"<a b/>", "<a b=/>", "<a b=1/>", "<a b='1/>", "<a b='<'/>", "<a b='&'/>", "<a b='&x;'/>", "<a b='1'c='2'/>",
            "<a b='1' b='2'/>", "<a b='1' b='1'/>", "<a/b='1'>", "<a ='1'/>", "<a b='1'' />", "<a p:b=''/>", "<a b:='1'/>",
            "<a></a b='1'>"};
        for (String text : right) {
            right(inside(text));
        }
        for (String text : wrong) {
            wrong(inside(text));
        }
    }

    /** How a property is told again. */
    private static String told(String element) {
        String out = TALK.ask("ann", "PROPFIND /", "Depth: 0\r\n", "<D:propfind xmlns:D='DAV:'><D:prop>" + element
            + "</D:prop></D:propfind>");
        int from = out.indexOf("<D:prop>");
        return from < 0 ? out.substring(9, 12) : out.substring(from + 8, out.indexOf("</D:prop>"));
    }

    private static void spaces() {
        String[][] rows = {{"<a/>", "<a/>"}, {"<a xmlns='u'/>", "<x:a xmlns:x=\"u\"/>"},
            {"<p:a xmlns:p=' \t\n&#9;u'/>", "<x:a xmlns:x=\"   \tu\"/>"}, {"<a xmlns='DAV&#x3a;'/>", "<D:a/>"},
            {"<p:a xmlns:p='urn:ietf:params:xml:ns:carddav'/>", "<C:a/>"}, {"<xml:a/>",
            "<x:a xmlns:x=\"http://www.w3.org/XML/1998/namespace\"/>"}, {"<p:a/>", "400"}, {"<xmlns:a/>", "400"},
            {"<p:a xmlns:p=''/>", "400"}, {"<a xmlns:xml='u'/>", "400"}, {"<a xmlns:xmlns='u'/>", "400"},
            {"<a xmlns='u' xmlns='u'/>", "400"}, {"<a xmlns:p='u' xmlns:p='v'/>", "400"}, {"<a xmlns=''/>", "<a/>"},
            {"<a xmlns:p='u' xmlns:q='u' p:b='' q:b=''/>", "400"}, {"<a xmlns:p='u' xmlns:q='v' p:b='' q:b='' b=''/>", "<a/>"},
            {"<p:a xmlns:p='u'/><p:b/>", "400"}, {"<D:a xmlns:D='u'/><D:a/>", "<x:a xmlns:x=\"u\"/><D:a/>"},
            {"<a xmlns='u'/><b xmlns='u'><c/></b><a xmlns='u'/>", "<x:a xmlns:x=\"u\"/><x:b xmlns:x=\"u\"/>"},
            {"<a xmlns='u'/><a xmlns='v'/><b xmlns='v'/><a xmlns='v'/>",
            "<x:a xmlns:x=\"u\"/><x:a xmlns:x=\"v\"/><x:b xmlns:x=\"v\"/>"},
            {"<p:a xmlns:p='DAV:'></p:a>", "<D:a/>"}, {"<p:a xmlns:p='DAV:' xmlns:q='DAV:'></q:a>", "400"},
            {"<a xmlns='\"&amp;&lt;&gt;'/>", "<x:a xmlns:x=\"&quot;&amp;&lt;&gt;\"/>"}, {"<xmlnsa xmlns:xmlnsa='u'/>", "<xmlnsa/>"}};
        for (String[] row : rows) {
            Talk.due(row[0], told(row[0]), row[1]);
        }
        Talk.due("a default that is taken back", find("<propfind xmlns='DAV:'><x xmlns=''/><allprop/></propfind>"), 207);
        Talk.due("a default is not for attributes", told("<a xmlns='u' b='' />"), "<x:a xmlns:x=\"u\"/>");
    }

    private static void limits() {
        right(inside("<a>".repeat(19) + "</a>".repeat(19)));
        wrong(inside("<a>".repeat(20) + "</a>".repeat(20)));
        right(inside("<a>".repeat(18) + "<b/>" + "</a>".repeat(18)));
        wrong(inside("<a>".repeat(19) + "<b/>" + "</a>".repeat(19)));
        right(inside("<a/>".repeat(198)));
        wrong(inside("<a/>".repeat(199)));
        String ten = "";
        for (int i = 0; i < 10; i++) {
            ten += " a" + i + "=''";
        }
        right(inside("<a" + ten + "/>"));
        right(inside("<a" + ten + "\n/>"));
        right(inside("<a" + ten + " ></a>"));
        wrong(inside("<a" + ten + " b=''/>"));
        wrong(inside("<a" + ten + " xmlns='u'/>"));
    }
}

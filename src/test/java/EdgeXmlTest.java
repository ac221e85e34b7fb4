/** The edges of Part V, XML: a test for each sentence that names one; the remark is the sentence. */
public final class EdgeXmlTest {
    private static final String OPEN = "<propfind xmlns='DAV:'>";
    private static final String ALL = OPEN + "<allprop/></propfind>";

    public static void main(String[] args) throws ReflectiveOperationException {
        Talk.all(EdgeXmlTest.class);
    }

    private static byte[] bytes(String text) {
        byte[] all = new byte[text.length()];
        for (int i = 0; i < all.length; i++) {
            all[i] = (byte) text.charAt(i);
        }
        return all;
    }

    /** The status that a body of any bytes (each a character here) gets. */
    private static int status(Talk talk, String body) {
        String head = Talk.request("ann", "PROPFIND /", "Depth: 0\r\nContent-Length: " + body.length() + "\r\n", "");
        return Talk.statusOf(talk.come(bytes(head + body)));
    }

    private static void right(String... bodies) {
        Talk talk = Talk.begun();
        for (String body : bodies) {
            Talk.due("XML " + body, status(talk, body), 207);
        }
    }

    private static void wrong(String... bodies) {
        Talk talk = Talk.begun();
        for (String body : bodies) {
            Talk.due("no XML " + body, status(talk, body), 400);
            Talk.due("XML behind " + body, status(talk, ALL), 207);
        }
    }

    private static String[] inside(String... contents) {
        String[] all = new String[contents.length];
        for (int i = 0; i < all.length; i++) {
            all[i] = OPEN + "<allprop/>" + contents[i] + "</propfind>";
        }
        return all;
    }

    /** How properties are told again, or the status. */
    private static void told(String properties, String due) {
        String answer = Talk.begun().ask("ann", "PROPFIND /", "Depth: 0\r\n",
            "<D:propfind xmlns:D='DAV:'><D:prop>" + properties + "</D:prop></D:propfind>");
        int from = answer.indexOf("<D:prop>");
        Talk.due(properties, from < 0 ? "" + Talk.statusOf(answer) : answer.substring(from + 8, answer.indexOf("</D:prop>")), due);
    }

    /** The displayname that a text in XML makes, written again, or the status. */
    private static void means(String text, String due) {
        Talk talk = Talk.begun();
        talk.ann("MKCOL /a/ann/b1");
        int status = talk.status("ann", "PROPPATCH /a/ann/b1", "", Talk.root("D:propertyupdate",
            "<D:set><D:prop><D:displayname>" + text + "</D:displayname></D:prop></D:set>"));
        String answer = talk.ask("ann", "PROPFIND /a/ann/b1", "Depth: 0\r\n",
            Talk.root("D:propfind", "<D:prop><D:displayname/></D:prop>"));
        int from = answer.indexOf("<D:displayname>");
        String got = status != 207 ? "" + status : from < 0 ? "" : answer.substring(from + 15, answer.indexOf("</D:displayname>"));
        Talk.due("text " + text, got, due);
    }

    /** Part V: "Bytes in UTF-8 as above (also without U+FFFE, FFFF)". */
    static void utf8() {
        right(inside("\u00c2\u0080", "\u00df\u00bf", "\u00e0\u00a0\u0080", "\u00ed\u009f\u00bf", "\u00ee\u0080\u0080", "\u00ef\u00bf\u00bd",
            "\u00f0\u0090\u0080\u0080", "\u00f4\u008f\u00bf\u00bf"));
        wrong(inside("\u0080", "\u00bf", "\u00c0\u0080", "\u00c1\u00bf", "\u00c2", "\u00c2A", "\u00c2\u00c0", "\u00c2\u007f", "\u00e0\u009f\u00bf", "\u00e0\u00a0",
            "\u00ed\u00a0\u0080", "\u00ed\u00bf\u00bf", "\u00ef\u00bf\u00be", "\u00ef\u00bf\u00bf", "\u00f0\u008f\u00bf\u00bf",
            "\u00f0\u0090\u0080", "\u00f4\u0090\u0080\u0080", "\u00f5\u0080\u0080\u0080", "\u00fe", "\u00ff"));
        wrong("<!-- \u00ff -->" + ALL, ALL + "<!--\u00ef\u00bf\u00be-->", "<?xml \u0080?>" + ALL, OPEN + "<allprop a='\u00c0\u0080'/></propfind>",
            OPEN + "<allprop/><![CDATA[\u00ef\u00bf\u00bf]]></propfind>", ALL + "\u00ef\u00bb", "\u00ef\u00bb\u00bf" + ALL);
    }

    /** Part V: "none below 32 but 9, 10, 13". */
    static void lowBytes() {
        for (int b = 0; b < 32; b++) {
            String text = "" + (char) b;
            String[] bodies = {inside(text)[0], "<!--" + text + "-->" + ALL, "<?xml " + text + "?>" + ALL, inside("<![CDATA[" + text + "]]>")[0],
                inside("<a b='" + text + "'/>")[0]};
            if (b == 9 || b == 10 || b == 13) {
                right(bodies);
            } else {
                wrong(bodies);
            }
        }
        right(inside(" ", "\u007f"));
        wrong(inside("\u007f\u0001", "\u007f\u0080"));
    }

    /** Part V: "At the beginning perhaps '<?xml', S, bytes without '?>', '?>'." */
    static void declarations() {
        right(ALL, "<?xml ?>" + ALL, "<?xml version='1.0'?>" + ALL, "<?xml ??>" + ALL, "<?xml ? > <!-- ?>" + ALL, "<?xml <a>?>" + ALL);
        wrong("<?xml?>" + ALL, "<?xml\t?>" + ALL, "<?xml\n?>" + ALL, "<?XML ?>" + ALL, " <?xml ?>" + ALL, "\n<?xml ?>" + ALL, "<?xml " + ALL,
            "<?xml ?" + ALL, "<?xml ?><?xml ?>" + ALL, "<!-- --><?xml ?>" + ALL, ALL + "<?xml ?>", "<?xml-stylesheet ?>" + ALL, "<? xml ?>" + ALL,
            "<?xml ?>");
        wrong(inside("<?xml ?>"));
    }

    /** Part V: "Then BLANKS (9, 10, 13, 32) and comments". */
    static void blanksAround() {
        right(" \t\r\n" + ALL, ALL + " \t\r\n", "<?xml ?> <!-- --> <!-- -->\n" + ALL + "<!-- -->\n<!-- -->");
        wrong("x" + ALL, ALL + "x", ALL + "&#32;", "&#32;" + ALL, ALL + "<![CDATA[ ]]>", "<![CDATA[ ]]>" + ALL, "\u000b" + ALL, "\u00c2\u00a0" + ALL,
            "<!DOCTYPE propfind>" + ALL);
    }

    /** Part V: "comments '<!--' bytes without '--' '-->'". */
    static void comments() {
        right("<!---->" + ALL, "<!-- - -->" + ALL, "<!--> -->" + ALL, "<!--<a>&x;-->" + ALL, "<!-- ]]> -->" + ALL);
        wrong("<!-- -- -->" + ALL, "<!-- ---->" + ALL, "<!--->" + ALL, "<!-- --" + ALL, "<!--" + ALL, "<!-->" + ALL, "<!- -->" + ALL, "<!----->-->" + ALL, "<!-- -- >" + ALL,
            "<!-- --x-->" + ALL, "< !-- -->" + ALL);
        right(inside("<!---->", "a<!-- - -->b"));
        wrong(inside("<!-- -- -->", "<!-- --", "<!--"));
        right(OPEN + "<!-- <allprop> --><allprop/></propfind>");
    }

    /** Part V: "one ELEMENT". */
    static void oneElement() {
        wrong(ALL + ALL, ALL + "<a/>", "<!-- -->", " ", "<?xml ?> ");
        right(ALL);
        Talk talk = Talk.begun();
        talk.ann("MKCOL /a/ann/b1");
        Talk.due("another root alone", talk.status("ann", "REPORT /a/ann/b1", "", "<a/>"), 403);
        Talk.due("two of them", talk.status("ann", "REPORT /a/ann/b1", "", "<a/><b/>"), 400);
    }

    /** Part V: "ELEMENT: '<' name, attributes, BLANKS, '/>' or '>' contents '</' the same name BLANKS '>'." */
    static void elements() {
        right(inside("<a/>", "<a />", "<a\t\r\n/>", "<a></a>", "<a ></a >", "<a></a\t\r\n>", "<a><b/></a>", "<a>x</a>"));
        wrong(inside("< a/>", "<a/ >", "<a", "<a/", "<a>", "<a></ a>", "</a>", "<a></b>", "<a></A>", "<a></aa>", "<aa></a>", "<a></a b>", "<a></a/>",
            "<a><b></a></b>", "<>", "</>", "<a></>", "<a//>", "<a></a", "<a/<"));
        wrong(OPEN + "<allprop/></Propfind>", OPEN + "<allprop/></D:propfind>", "<D:propfind xmlns:D='DAV:' xmlns:E='DAV:'><D:allprop/></E:propfind>",
            OPEN + "<allprop/>", OPEN);
    }

    /** Part V: "Attribute: one or more BLANKS, name, BLANKS '=' BLANKS, '"' or an apostrophe, bytes but that one and '<', it again." */
    static void attributes() {
        right(inside("<a b=''/>", "<a b=\"\"/>", "<a  b='1'/>", "<a\tb='1'\nc='2'/>", "<a b \r\n=\t 'x'/>", "<a b='\"'/>", "<a b=\"'\"/>", "<a b='>'/>",
            "<a b='/>'/>", "<a b='x' ></a>", "<a b=']]>'/>"));
        wrong(inside("<ab='1'/>", "<a b/>", "<a b=/>", "<a b=1/>", "<a b='/>", "<a b='\"/>", "<a b='<'/>", "<a b='1'c='2'/>", "<a ='1'/>", "<a b=='1'/>",
            "<a 'b'='1'/>", "<a b='1/>", "<a b=`1`/>", "<a b+'1'/>", "<a b'1'/>", "<a b '1'/>", "<a b='1' '/>", "<a/b='1'>", "<a></a b='1'>"));
    }

    /** Part V: "Contents: texts, ELEMENTS, comments, '<![CDATA[' bytes without ']]>' ']]>'." */
    static void contents() {
        right(inside("a<b/>c<!-- d --><![CDATA[e]]>f", "<![CDATA[]]>", "<![CDATA[]]]>", "<![CDATA[]]]]>", "<![CDATA[]] >]]>", "<![CDATA[<a>&x;<!--]]>"));
        wrong(inside("<![CDATA[", "<![CDATA[]]", "<![CDATA[]]>]]>", "<![cdata[]]>", "<![CDATA []]>", "<! [CDATA[]]>", "<!ELEMENT a>", "<?a?>", "<!a>"));
        means("a<![CDATA[<&]]]>b", "a&lt;&amp;]b");
        means("<![CDATA[ ]]>x<![CDATA[]]>", " x");
    }

    /** Part V: "Texts (']]>' may not stand in them)". */
    static void cdataEnds() {
        wrong(inside("]]>", "a]]>b", "]]]>"));
        right(inside("]]", "]>", "]] >", "]]&gt;", "]]<!-- -->>", "]<![CDATA[]]]>>", "&#93;]>"));
    }

    /** Part V: "&lt; &gt; &amp; &quot; &apos;" and "any other & is wrong". */
    static void namedReferences() {
        means("&lt;&gt;&amp;&quot;&apos;", "&lt;&gt;&amp;\"'");
        for (String reference : new String[] {"&", "&;", "& ", "&lt", "&lt ;", "& lt;", "&LT;", "&ltt;", "&l;", "&nbsp;", "&amp", "&&amp;", "&lt&gt;"}) {
            means(reference, "400");
            wrong(inside("<a b='" + reference + "'/>"));
        }
        right(inside("<a b='&lt;&gt;&amp;&quot;&apos;'/>"));
        told("<p:a xmlns:p='&lt;&gt;&amp;&quot;&apos;'/>", "<x:a xmlns:x=\"&lt;&gt;&amp;&quot;'\"/>");
    }

    /** Part V: "&# digits ; and &#x hexadecimal digits ; (1 to 7)". */
    static void numberedReferences() {
        means("&#65;&#0000065;&#x41;&#x0000041;&#x4a;&#x4A;", "AAAAJJ");
        for (String reference : new String[] {"&#;", "&#x;", "&#00000065;", "&#x00000041;", "&#6a;", "&#x4g;", "&#X41;", "&# 65;", "&#65", "&#x41", "&#-65;",
            "&#+65;", "&#65 ;", "&#xx41;", "&x41;", "&#/;", "&#:;", "&#x/;", "&#x:;", "&#x@;", "&#x`;"}) {
            means(reference, "400");
            wrong(inside("<a b='" + reference + "'/>"));
        }
    }

    /** Part V: "of a character that may stand mean that". */
    static void charactersReferredTo() {
        means("&#9;&#10;&#13;&#32;&#x7f;", "\t\n\r \u007f");
        means("&#x80;&#x7FF;&#x800;&#xD7FF;&#xE000;&#xFFFD;&#x10000;&#x10FFFF;", "\u0080\u07ff\u0800\ud7ff\ue000\ufffd\ud800\udc00\udbff\udfff");
        for (String number : new String[] {"0", "1", "8", "11", "12", "14", "31", "xD800", "xDFFF", "xFFFE", "xFFFF", "x110000", "1114112", "xFFFFFFF",
            "9999999"}) {
            means("&#" + number + ";", "400");
            wrong(inside("<a b='&#" + number + ";'/>"));
        }
        told("<p:a xmlns:p='&#xe9;&#x20ac;&#x10000;'/>", "<x:a xmlns:x=\"\u00e9\u20ac\ud800\udc00\"/>");
        told("<p:a xmlns:p='\u00e9\u20ac\ud800\udc00'/>", "<x:a xmlns:x=\"\u00e9\u20ac\ud800\udc00\"/>");
    }

    /** Part V: "a BLANK in a value means 32". */
    static void blanksInValues() {
        told("<p:a xmlns:p='\t\n\r u\r\n'/>", "<x:a xmlns:x=\"    u  \"/>");
        told("<p:a xmlns:p='&#9;&#10;&#13;&#32;u'/>", "<x:a xmlns:x=\"\t\n\r u\"/>");
    }

    /** Part V: "Names: a NCNAME (a letter or _ , then letters, digits, . - _), or two with : between." */
    static void names() {
        right(inside("<a/>", "<Z/>", "<_/>", "<a.-_9Z/>", "<p:a xmlns:p='u'/>", "<_:_ xmlns:_='u'/>", "<a p:b='' xmlns:p='u'/>",
            "<" + "n".repeat(500) + "/>"));
        wrong(inside("<1/>", "<-a/>", "<.a/>", "<:a xmlns:a='u'/>", "<a:/>", "<p:/>", "<p:1 xmlns:p='u'/>", "<p:-a xmlns:p='u'/>", "<p::a xmlns:p='u'/>",
            "<p:a:b xmlns:p='u' xmlns:a='u'/>", "<a@/>", "<a[/>", "<a`/>", "<a{/>", "<a$/>", "<\u00c3\u00a4/>", "<a 1b=''/>", "<a -b=''/>", "<a b:=''/>",
            "<a :b=''/>", "<a b\u00c3\u00a4=''/>", "<p: xmlns:p='u'/>",
            "<a p:='' xmlns:p='u'/>"));
    }

    /** Part V: "At most 20 ELEMENTS within one another". */
    static void depth() {
        right(inside("<a>".repeat(19) + "</a>".repeat(19), "<a>".repeat(18) + "<b/>" + "</a>".repeat(18)));
        wrong(inside("<a>".repeat(20) + "</a>".repeat(20), "<a>".repeat(19) + "<b/>" + "</a>".repeat(19)));
        right(inside(("<a>".repeat(19) + "</a>".repeat(19)).repeat(5)));
    }

    /** Part V: "200 in all". */
    static void elementsInAll() {
        right(inside("<a/>".repeat(198), "<a></a>".repeat(198), "<a><b/></a>".repeat(99)));
        wrong(inside("<a/>".repeat(199), "<a></a>".repeat(199), "<a><b/></a>".repeat(99) + "<c/>"));
    }

    /** Part V: "10 attributes each". */
    static void attributesEach() {
        String ten = "";
        for (int i = 0; i < 10; i++) {
            ten += " a" + i + "=''";
        }
        right(inside("<a" + ten + "/>", "<a" + ten + " ></a>", ("<a" + ten + "/>").repeat(10)));
        wrong(inside("<a" + ten + " b=''/>", "<a" + ten + " xmlns='u'/>", "<a xmlns:p='u'" + ten + "/>"));
        String spaces = "";
        for (int i = 0; i < 9; i++) {
            spaces += " xmlns:p" + i + "='u" + i + "'";
        }
        right(inside("<a" + spaces + " xmlns='u'/>", "<a" + spaces + " p8:b=''/>"));
        wrong(inside("<a" + spaces + " p8:b='' c=''/>"));
    }

    /** Part V: "At most 20 ELEMENTS within one another, 200 in all, 10 attributes each." (again and again, each body alone) */
    static void manyBodies() {
        String body = "";
        for (int i = 0; i < 30; i++) {
            body += "<a" + i + " xmlns='u" + i + "' xmlns:p='v" + i + "' b='' c='' d='' p:e=''/>";
        }
        Talk talk = Talk.begun();
        for (int round = 0; round < 40; round++) {
            String asked = "";
            String due = "";
            for (int i = 0; i < 20; i++) {
                String space = "u".repeat(round + 1) + i;
                asked += "<a xmlns='" + space + "'/>";
                due += "<x:a xmlns:x=\"" + space + "\"/>";
            }
            Talk.due("body " + round, status(talk, inside(body)[0]), 207);
            Talk.due("namespaces of body " + round, talk.ask("ann", "PROPFIND /", "Depth: 0\r\n", Talk.root("D:propfind", "<D:prop>" + asked
                + "</D:prop>")), Talk.multi("<D:response><D:href>/</D:href>" + Talk.propstat("404 Not Found", due) + "</D:response>"));
        }
    }

    /** Part V, NAMESPACES: "xmlns and xmlns:p say them for the ELEMENT and what is in it". */
    static void whereSpacesHold() {
        told("<p:a xmlns:p='u'><p:b/></p:a>", "<x:a xmlns:x=\"u\"/>");
        told("<p:a xmlns:p='u'/><p:b/>", "400");
        told("<p:a xmlns:p='u'></p:a><p:b/>", "400");
        told("<a xmlns='u'/><b/>", "<x:a xmlns:x=\"u\"/><b/>");
        told("<a xmlns='u'/><a xmlns='v'/><b xmlns='v'/><a xmlns='v'/><b xmlns='u'/>",
            "<x:a xmlns:x=\"u\"/><x:a xmlns:x=\"v\"/><x:b xmlns:x=\"v\"/><x:b xmlns:x=\"u\"/>");
        told("<a p:b='' xmlns:p='u'/>", "<a/>");
        told("<D:a xmlns:D='u'><D:b xmlns:D='v'/></D:a><D:a/>", "<x:a xmlns:x=\"u\"/><D:a/>");
        right("<propfind xmlns='DAV:'><p:allprop xmlns:p='DAV:'/></propfind>", "<p:propfind xmlns:p='DAV:'><allprop xmlns='DAV:'/></p:propfind>");
        wrong("<propfind xmlns='DAV:'><allprop xmlns='u'/></propfind>");
        right("<p:propfind xmlns:p='DAV:' xmlns:q='u'><q:x xmlns:p='v'><p:allprop/></q:x><p:allprop/></p:propfind>");
    }

    /** Part V, NAMESPACES: "(xmlns:p not empty; xmlns empty: none". */
    static void emptySpaces() {
        told("<p:a xmlns:p=''/>", "400");
        told("<a xmlns:p=\"\"/>", "400");
        told("<a xmlns=''/>", "<a/>");
        told("<a xmlns='u'><b xmlns=''/></a>", "<x:a xmlns:x=\"u\"/>");
        wrong("<propfind xmlns='DAV:'><allprop xmlns=''/></propfind>");
        told("<p:a xmlns:p=' '/>", "<x:a xmlns:x=\" \"/>");
    }

    /** Part V, NAMESPACES: "p is not xml, nor xmlns)". */
    static void reservedPrefixes() {
        told("<a xmlns:xml='u'/>", "400");
        told("<a xmlns:xml='http://www.w3.org/XML/1998/namespace'/>", "400");
        told("<a xmlns:xmlns='u'/>", "400");
        told("<a xmlns:xmlns='http://www.w3.org/2000/xmlns/'/>", "400");
        told("<Xml:a xmlns:Xml='u'/>", "<x:a xmlns:x=\"u\"/>");
        told("<xmlnss:a xmlns:xmlnss='u'/>", "<x:a xmlns:x=\"u\"/>");
    }

    /** Part V, NAMESPACES: "xml is 'http://www.w3.org/XML/1998/namespace'". */
    static void thePrefixXml() {
        told("<xml:a/>", "<x:a xmlns:x=\"http://www.w3.org/XML/1998/namespace\"/>");
        told("<xml:a/><p:a xmlns:p='http://www.w3.org/XML/1998/namespace'/>", "<x:a xmlns:x=\"http://www.w3.org/XML/1998/namespace\"/>");
        told("<a xml:lang='de'/>", "<a/>");
        told("<a xml:b='' p:b='' xmlns:p='http://www.w3.org/XML/1998/namespace'/>", "400");
    }

    /** Part V, NAMESPACES: "A prefix that is not said, two attributes of one name (or of one namespace and local name): wrong." */
    static void prefixesAndAttributesTwice() {
        told("<p:a/>", "400");
        told("<a p:b=''/>", "400");
        Talk talk = Talk.begun();
        talk.ann("MKCOL /a/ann/b1");
        Talk.due("a body that is none", talk.status("ann", "REPORT /a/ann/b1", "", "<a xmlns:p='u'>"), 400);
        // In this one, p stands where it stood when it was said in the one before.
        Talk.due("a prefix that only that one said", talk.status("ann", "REPORT /a/ann/b1", "", "<b>xxxxxxp<p:c/></b>"), 400);
        told("<xmlns:a/>", "400");
        told("<a b='' b=''/>", "400");
        told("<a b='1' c='' b='2'/>", "400");
        told("<a xmlns='u' xmlns='u'/>", "400");
        told("<a xmlns:p='u' xmlns:p='u'/>", "400");
        told("<a xmlns:p='u' p:b='' p:b=''/>", "400");
        told("<a xmlns:p='u' xmlns:q='u' p:b='' q:b=''/>", "400");
        told("<a p:b='' q:b='' xmlns:p='u' xmlns:q='u'/>", "400");
        told("<a xmlns:p='u' xmlns:q='v' p:b='' q:b='' b=''/>", "<a/>");
        told("<a b='' B=''/>", "<a/>");
        told("<a xmlns:b='u' b='' xmlns:c='v' c=''/>", "<a/>");
        told("<a xml:p='' xmlns:p='u' p:p='' p=''/>", "<a/>");
    }

    /** Part V, NAMESPACES: "Attributes without a prefix are of no namespace." */
    static void attributesWithoutPrefix() {
        told("<p:a xmlns='u' xmlns:p='u' b='' p:b=''/>", "<x:a xmlns:x=\"u\"/>");
        Talk talk = Talk.begun();
        talk.ann("MKCOL /a/ann/b1");
        String carddav = "urn:ietf:params:xml:ns:carddav";
        Talk.due("of no namespace", talk.status("ann", "REPORT /a/ann/b1", "", "<addressbook-query xmlns='" + carddav
            + "'><filter test='x'/></addressbook-query>"), 400);
        Talk.due("of another one", talk.status("ann", "REPORT /a/ann/b1", "", "<addressbook-query xmlns='" + carddav + "' xmlns:p='" + carddav
            + "'><filter p:test='x'/></addressbook-query>"), 207);
    }

    /** Part V: "THE TEXTS of an ELEMENT: those in it itself (with CDATA), not those of ELEMENTS in it". */
    static void textsOfElements() {
        means("a<D:x>b<D:y>c</D:y></D:x>d<![CDATA[e]]><D:x/>f<!-- g -->h", "adefh");
        means("<D:x>b</D:x>", "");
    }

    /** Part V: "without BLANKS at both ends for D:href, D:sync-token, D:sync-level, D:nresults, C:nresults". */
    static void textsWithoutBlanks() {
        means(" \t\r\na \t\r\n", " \t\r\na \t\r\n");
        Talk talk = Talk.begun();
        talk.ann("MKCOL /a/ann/b1");
        talk.put("/a/ann/b1/c1", Talk.plain("u", "A"));
        String blanks = " \t\r\n";
        String sync = "<D:sync-token>%urn:x-sync:1-1%</D:sync-token><D:sync-level>%1%</D:sync-level><D:limit><D:nresults>%1%</D:nresults></D:limit>";
        String query = "<C:filter/><C:limit><C:nresults>%1%</C:nresults></C:limit>";
        String get = "<D:href>%/a/ann/b1/c1%</D:href><D:href>%x%</D:href>";
        for (String[] row : new String[][] {{"D:sync-collection", sync}, {"C:addressbook-query", query}, {"C:addressbook-multiget", get}}) {
            String plain = talk.ask("ann", "REPORT /a/ann/b1", "Depth: 1\r\n", Talk.root(row[0], row[1].replace("%", "")));
            Talk.due(row[0], talk.ask("ann", "REPORT /a/ann/b1", "Depth: 1\r\n", Talk.root(row[0], row[1].replace("%", blanks))), plain);
            Talk.due(row[0] + " goes", Talk.statusOf(plain), 207);
            Talk.due(row[0] + " by reference", talk.ask("ann", "REPORT /a/ann/b1", "Depth: 1\r\n",
                Talk.root(row[0], row[1].replace("%", "&#32;&#9;&#10;&#13;"))), plain);
        }
        Talk.due("a text-match keeps them", talk.ask("ann", "REPORT /a/ann/b1", "Depth: 1\r\n", Talk.root("C:addressbook-query",
            "<C:filter><C:prop-filter name='FN'><C:text-match> A</C:text-match></C:prop-filter></C:filter>")), Talk.multi(""));
    }

    /** Part V: "What is wrong is no XML, whatever it is." (behind what would have been answered, too) */
    static void wrongAtTheEnd() {
        Talk talk = Talk.begun();
        talk.ann("MKCOL /a/ann/b1");
        String[] wrong = {"<p:a/>", "<a b='' b=''/>", "&x;", "]]>", "<a>", "<1/>", "<a xmlns:xml='u'/>", "\u0001"};
        for (String text : wrong) {
            wrong(inside(text));
            Talk.due("ahead of another root " + text, talk.status("ann", "REPORT /a/ann/b1", "", "<a>" + text + "</a>"), 400);
            Talk.due("nothing is set " + text, talk.status("ann", "PROPPATCH /a/ann/b1", "", "<propertyupdate xmlns='DAV:'><set><prop><displayname>n"
                + "</displayname></prop></set>" + text + "</propertyupdate>"), 400);
        }
        Talk.due("no displayname", talk.ask("ann", "PROPFIND /a/ann/b1", "Depth: 0\r\n", "").contains("displayname"), false);
    }

    /** Part V: "Other children, attributes and texts than told do not count." */
    static void othersDoNotCount() {
        Talk talk = Talk.begun();
        String plain = talk.ask("ann", "PROPFIND /", "Depth: 0\r\n", Talk.root("D:propfind", "<D:prop><D:owner/></D:prop>"));
        for (String body : new String[] {"text<D:prop><D:owner/></D:prop>text", "<D:x/><D:prop>text<D:owner a='b'>text<D:y/></D:owner></D:prop><C:prop/>",
            "<D:prop xml:lang='de' a=''><D:owner xmlns:q='u' q:r=''/><!-- <D:x/> --></D:prop>"}) {
            Talk.due(body, talk.ask("ann", "PROPFIND /", "Depth: 0\r\n", Talk.root("D:propfind", body)), plain);
        }
    }

    /** Part I: "one above 3000: 413" (a body of 3000 bytes is read whole). */
    static void theLongestBody() {
        String most = OPEN + "<allprop/>" + "x".repeat(3000 - ALL.length()) + "</propfind>";
        Talk.due("3000 bytes", most.length(), 3000);
        right(most);
        right(inside("<a a='' b='' c='' d='' e='' f='' g='' h='' i='' j=''/>".repeat(54)));
        right(inside("<a b='" + "x".repeat(2900) + "'/>", "<![CDATA[" + "x".repeat(2900) + "]]>", "<" + "y".repeat(2900) + "/>"));
    }
}

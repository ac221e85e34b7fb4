/** Promise 11: what is a CARD, how it is written and how it is turned (Part IV). */
public final class TurnTest {
    private static final Talk TALK = new Talk();

    public static void main(String[] args) {
        versions();
        frames();
        bytes();
        lines();
        parameters();
        numbers();
        values();
        dates();
        written();
        cut();
        up();
        down();
        Talk.finish();
    }

    private static void versions() {
        String card = Talk.plain("u", "A");
        for (int version : new int[] {-1, 1, 2, 5, Integer.MIN_VALUE, Integer.MAX_VALUE}) {
            Talk.due("version " + version, TALK.turn(version, card), "NONE");
            Talk.due("then the OUT is empty", TALK.house.out(), 0);
            Talk.due("and the tape, too", TALK.house.end(1), false);
        }
        Talk.due("as it is", TALK.turn(0, card), card);
        Talk.due("in its own version", TALK.turn(4, card), card);
        Talk.due("the tape is empty then", TALK.turn(0, ""), "NONE");
        Talk.due("and so is the OUT", TALK.house.out(), 0);
    }

    /** What becomes of lines beside FN and UID in 4.0, or FN, N and UID in 3.0, in a version. */
    private static void turns(int from, int to, String line, String due) {
        String before = from == 4 ? "FN:A\r\nUID:u\r\n" : "FN:A\r\nN:B\r\nUID:u\r\n";
        String after = to == 3 && from == 4 ? "FN:A\r\nN:A;;;;\r\nUID:u\r\n" : before;
        String card = before + (line.isEmpty() ? "" : line + "\r\n");
        String turned = after + (due.isEmpty() ? "" : due + "\r\n");
        String got = TALK.turn(to, from == 4 ? Talk.card4(card) : Talk.card3(card));
        String want = due.equals("NONE") ? due : to == 4 ? Talk.card4(turned) : Talk.card3(turned);
        Talk.due(from + " to " + to + ": " + line, got, want);
    }

    private static void same(int version, String line) {
        turns(version, version, line, line);
    }

    private static void none(int version, String line) {
        turns(version, version, line, "NONE");
    }

    private static void frames() {
        String inner = "FN:A\r\nUID:u\r\n";
        String[] none = {"", "\r\n", "BEGIN:VCARD\r\nEND:VCARD\r\n", Talk.card4(""), Talk.card4(inner).trim(),
            Talk.card4(inner) + "\r\n", " " + Talk.card4(inner), Talk.card4(inner).replace("4.0", "2.1"),
            Talk.card4(inner).replace("BEGIN:", "BEGIN;A=b:"), "VERSION:4.0\r\nBEGIN:VCARD\r\n" + inner + "END:VCARD\r\n",
            "BEGIN:VCARD\r\n" + inner + "VERSION:4.0\r\nEND:VCARD\r\n", Talk.card4(inner) + Talk.card4(inner),
            Talk.card4(inner + "BEGIN:VCARD\r\n"), Talk.card4(inner + "end:x\r\n"), Talk.card4(inner + "g.version:4.0\r\n"),
            Talk.card4(inner).replace("\r\n", "\n"), Talk.card4(inner + "\r\n"), Talk.card4(inner).replace(":VCARD", ": VCARD")};
        for (String card : none) {
            Talk.due("no CARD: " + card, TALK.turn(0, card), "NONE");
        }
        Talk.due("LIKE", TALK.turn(0, "begin:vCard\r\nVersion:4.0\r\nfn:A\r\nUid:u\r\nEnd:vcarD\r\n"), Talk.card4(inner));
        Talk.due("folded", TALK.turn(0, "BEGIN:VC\r\n ARD\r\nVERSION\r\n\t:4.0\r\nFN:\r\n A\r\nUID:u\r\n \r\nEND:VCARD\r\n"),
            Talk.card4(inner));
        Talk.due("once through", TALK.turn(0, Talk.card4("FN:A\r\r\n \nUID:u\r\n")), Talk.card4(inner));
        Talk.due("an empty line by that", TALK.turn(0, Talk.card4("FN:A\r\n\r\n \r\nUID:u\r\n")), "NONE");
        Talk.due("40 properties", TALK.turn(0, Talk.card4(inner + "X:\r\n".repeat(38))), Talk.card4(inner + "X:\r\n".repeat(38)));
        Talk.due("41 properties", TALK.turn(0, Talk.card4(inner + "X:\r\n".repeat(39))), "NONE");
    }

    private static byte[] with(int... bytes) {
        byte[] card = Talk.card4("FN:?\r\nUID:u\r\n").getBytes();
        int at = new String(card).indexOf('?');
        byte[] all = new byte[card.length - 1 + bytes.length];
        System.arraycopy(card, 0, all, 0, at);
        for (int i = 0; i < bytes.length; i++) {
            all[at + i] = (byte) bytes[i];
        }
        System.arraycopy(card, at + 1, all, at + bytes.length, card.length - at - 1);
        return all;
    }

    private static void bytes() {
        int[][] right = {{9}, {32}, {126}, {0xC2, 0x80}, {0xDF, 0xBF}, {0xE0, 0xA0, 0x80}, {0xED, 0x9F, 0xBF},
            {0xEE, 0x80, 0x80}, {0xEF, 0xBF, 0xBF}, {0xF0, 0x90, 0x80, 0x80}, {0xF4, 0x8F, 0xBF, 0xBF},
            {0xC3, 13, 10, 32, 0xA9}};
        int[][] wrong = {{0}, {8}, {11}, {12}, {14}, {31}, {127}, {13}, {10}, {10, 13}, {0x80}, {0xC0, 0x80}, {0xC1, 0xBF},
            {0xC2}, {0xC2, 0x41}, {0xE0, 0x9F, 0xBF}, {0xED, 0xA0, 0x80}, {0xED, 0xBF, 0xBF}, {0xF0, 0x8F, 0xBF, 0xBF},
            {0xF4, 0x90, 0x80, 0x80}, {0xF5, 0x80, 0x80, 0x80}, {0xFF}, {0xE2, 0x82}};
        for (int[] bytes : right) {
            Talk.due("a CARD with " + java.util.Arrays.toString(bytes), TALK.turn(0, with(bytes)).equals("NONE"), false);
        }
        for (int[] bytes : wrong) {
            Talk.due("no CARD with " + java.util.Arrays.toString(bytes), TALK.turn(0, with(bytes)), "NONE");
        }
    }

    private static void lines() {
        turns(4, 4, "aB-1.x-y:z", "aB-1.X-Y:z");
        same(4, "X" + "y".repeat(0) + ":");
        same(4, "N".repeat(30) + ":");
        same(4, "g".repeat(30) + ".X:");
        for (String line : new String[] {"X", "X;", "X;:", "X;A:b", "X;A=b", ":x", ".X:y", "g.:y", "g.h.X:y", "X_Y:z", "X :y",
            "N".repeat(31) + ":", "g".repeat(31) + ".X:", "X;" + "p".repeat(31) + "=:", "X;=b:c", "X;A_=b:c", "\u00e9:x"}) {
            none(4, line);
        }
    }

    private static void parameters() {
        turns(4, 4, "X;ab=c:d", "X;AB=c:d");
        same(4, "X;A=:");
        same(4, "X;A=,,:");
        same(4, "X;A=1,2,3,4,5,6,7,8:");
        none(4, "X;A=1,2,3,4,5,6,7,8,9:");
        same(4, "X;A=;B=;C=;D=;E=;F=;G=;H=:");
        none(4, "X;A=;B=;C=;D=;E=;F=;G=;H=;I=:");
        none(4, "X;A=1;a=2:");
        turns(4, 4, "X;A=\"b\",c:\"", "X;A=b,c:\"");
        same(4, "X;A=\"b;c\",\":\",\",\":");
        turns(4, 4, "X;A=\"^n^^^'^x^\",^:", "X;A=^n^^^'^^x^^,^^:");
        same(4, "X;A=\"^n,\":");
        none(4, "X;A=\"b\"c:");
        none(4, "X;A=b\"c\":");
        none(4, "X;A=\"b:");
        none(4, "X;A=a\tb:");
        none(4, "X;A=\"a\tb\":");
        same(4, "X;A=\u00e9 \\=:x\ty");
    }

    /** How often properties stand. */
    private static void numbers() {
        String[] three = {"FN:B", "N:C", "UID:v", "BDAY:20000101\r\nBDAY:20000101", "MAILER:a\r\nMAILER:a", "TZ:a\r\nTZ:b",
            "SORT-STRING:a\r\nSORT-STRING:b", "CLASS:a\r\nCLASS:b", "PRODID:a\r\nPRODID:b", "GEO:1;2\r\nGEO:1;2",
            "REV:20000101\r\nREV:20000101"};
        for (String line : three) {
            none(3, line);
        }
        String[] four = {"UID:v", "N:\r\nN:", "BDAY:2000\r\nBDAY:2000", "ANNIVERSARY:2000\r\nANNIVERSARY:2000",
            "GENDER:\r\nGENDER:", "KIND:\r\nKIND:", "PRODID:\r\nPRODID:",
            "REV:20000101T000000\r\nREV:20000101T000000"};
        for (String line : four) {
            none(4, line);
        }
        same(3, "KIND:\\q\r\nKIND:\r\nLANG:_\r\nIMPP:\r\nNICKNAME:\r\nNICKNAME:\r\nTEL:\r\nTEL:\r\nLABEL:\r\nLABEL:");
        same(4, "FN:B\r\nTZ:\r\nTZ:\r\nGEO:geo:1,2\r\nGEO:geo:1,2\r\nMAILER:\\q\r\nMAILER:\r\nCLASS:\r\nCLASS:\r\nSORT-STRING:"
            + "\r\nSORT-STRING:\r\nLABEL:\\q\r\nLABEL:\r\nTEL:\r\nTEL:");
        for (String card : new String[] {Talk.card3("FN:A\r\nUID:u\r\n"), Talk.card3("N:A\r\nUID:u\r\n"),
            Talk.card3("FN:A\r\nN:A\r\n"), Talk.card4("FN:A\r\n"), Talk.card4("UID:u\r\n"), Talk.card4("FN:A\r\nUID:\r\n")}) {
            Talk.due("one is missing: " + card, TALK.turn(0, card), "NONE");
        }
    }

    private static void values() {
        same(4, "NOTE:a\\\\\\,\\;\\n");
        turns(4, 4, "NOTE:a,b;c\\N", "NOTE:a\\,b\\;c\\n");
        none(4, "NOTE:\\x");
        none(4, "NOTE:a\\");
        turns(4, 4, "NICKNAME:a,b\\,c;d\\N", "NICKNAME:a,b\\,c\\;d\\n");
        none(4, "CATEGORIES:\\q");
        same(4, "ADR:a,b;\\;;\\,;;;;x");
        none(4, "ADR:;;;;;;;");
        same(4, "N:;;;;");
        none(4, "N:;;;;;");
        same(4, "GENDER:M;x");
        none(4, "GENDER:M;x;y");
        none(3, "ORG:;;;;;;;");
        same(4, "URL:!~;,\\");
        none(4, "URL:");
        none(4, "URL:a b");
        none(4, "URL:\u00e9");
        turns(4, 4, "URL;VALUE=Text:a b,", "URL;VALUE=Text:a b\\,");
        none(4, "URL;VALUE=text,text:a b");
        none(4, "URL;VALUE=text:\\q");
        same(4, "X-Y:\\q,;\u00e9\t");
        same(4, "LANG:" + "a1-".repeat(6) + "ab");
        none(4, "LANG:" + "a".repeat(21));
        none(4, "LANG:");
        none(4, "LANG:a_b");
        same(4, "LANG;VALUE=text:a_b");
        for (String point : new String[] {"1;2", "+1.5;-123.123456", "0;-0.0"}) {
            same(3, "GEO:" + point);
            same(4, "GEO:geo:" + point.replace(';', ','));
        }
        for (String point : new String[] {"", "1", "1;", ";2", "1234;1", "1.;1", ".5;1", "1.1234567;1", "1;2;3", "1 ;2", "a;b"}) {
            none(3, "GEO:" + point);
            none(4, "GEO:geo:" + point.replace(';', ','));
        }
        none(3, "GEO:1,2");
        none(4, "GEO:1,2");
        none(4, "GEO:GEO:1,2");
        turns(3, 3, "GEO;VALUE=text:1,2", "GEO;VALUE=text:1\\,2");
        for (String data : new String[] {"QUJD", "QQ==", "QUI=", "+/+/", "QUJDQUJD"}) {
            same(3, "PHOTO;ENCODING=B:" + data);
        }
        for (String data : new String[] {"", "Q", "QU", "QUJ", "QR==", "QUJ=", "Q===", "====", "QQ==QUJD", "QU-_", "QUJ D"}) {
            none(3, "KEY;ENCODING=b:" + data);
        }
        none(3, "PHOTO;ENCODING=base64:QUJD");
        none(3, "PHOTO;ENCODING=b,b:QUJD");
        none(3, "PHOTO;ENCODING=b;VALUE=text:a b");
        same(3, "LOGO;VALUE=text:a b");
        same(3, "SOUND:http://x");
        same(4, "PHOTO;ENCODING=x:http://x");
    }

    private static void dates() {
        for (String date : new String[] {"2000-02-29", "20000229", "1999-12-31", "1970-01-01T10:10:10", "19700101T101010Z",
            "1970-01-01T101010-05:00", "19700101T23:59:59+0100", "0000-02-29", "00000101"}) {
            same(3, "BDAY:" + date);
            same(3, "REV:" + date);
        }
        for (String date : new String[] {"", "1900-02-29", "1999-02-29", "2000-13-01", "2000-00-01", "2000-01-00", "2000-04-31",
            "2000-1-1", "2000-0101", "200001-01", "2000", "2000-01", "--0101", "T101010", "20000101T", "20000101T10",
            "20000101T1010", "20000101T240000", "20000101T106000", "20000101T101060", "20000101T10:1010", "20000101T1010:10",
            "20000101T101010z", "20000101T101010+01", "20000101T101010+24:00", "20000101T101010+0160", "20000101t101010",
            "20000101 ", "2000-01-01T10:10:10Zx", "x000-01-01", "2000-x1-01", "2000-01-x1",
            "x0000101", "2000x101", "20000x01", "200001x1"}) {
            none(3, "BDAY:" + date);
            none(3, "REV:" + date);
        }
        for (String date : new String[] {"20000229", "2000-02", "2000", "--0229", "--12", "---31", "T10", "T1010", "T101010",
            "T10Z", "T1010-05", "T101010+0530", "20000101T10", "--0101T1010Z", "2000-01T10", "---01T10", "T235959Z", "T2359", "T00", "T23-23", "T00+0000", "T23-2359"}) {
            same(4, "BDAY:" + date);
            same(4, "ANNIVERSARY:" + date);
        }
        for (String date : new String[] {"", "2000-02-29", "19990229", "200002", "2000-13", "--0230", "--13", "---32", "---00",
            "--00", "-01", "T", "T24", "T1060", "T101", "T10:10", "T10+24", "T10+0160", "T10+1", "T10ZZ", "20000101T", "t10",
            "2000T", "20000229 ", "--010", "--01010", "---1", "---011", "T10101010", "T101010101", "2000-0", "20000"}) {
            none(4, "BDAY:" + date);
        }
        for (String stamp : new String[] {"20000101T101010", "20000101T101010Z", "20000101T101010-05", "20000101T101010+0530"}) {
            same(4, "REV:" + stamp);
        }
        for (String stamp : new String[] {"20000101", "20000101T1010", "T101010", "--0101T101010", "20000101T101010+1",
            "20000230T101010", "20000101T101010+05300"}) {
            none(4, "REV:" + stamp);
        }
        int[] days = {31, 29, 31, 30, 31, 30, 31, 31, 30, 31, 30, 31};
        for (int month = 1; month <= 12; month++) {
            String head = month < 10 ? "0" + month : "" + month;
            same(3, "BDAY:2000-" + head + "-" + days[month - 1]);
            none(3, "BDAY:2000-" + head + "-" + (days[month - 1] + 1));
            same(4, "BDAY:--" + head + days[month - 1]);
            none(4, "BDAY:--" + head + (days[month - 1] + 1));
        }
        for (String year : new String[] {"2004", "1996", "2400", "0400"}) {
            same(4, "BDAY:" + year + "0229");
        }
        for (String year : new String[] {"2005", "2010", "2100", "0100", "2015", "2006"}) {
            none(4, "BDAY:" + year + "0229");
            same(4, "BDAY:" + year + "0228");
        }
        same(4, "BDAY;VALUE=text:about 1900");
        same(4, "REV;VALUE=TEXT:now");
    }

    private static void written() {
        Talk.due("all of it", TALK.turn(0, "begin:vcard\r\nversion:3.0\r\nitem1.fn;Charset=\"u\":A\\N\r\nn:B;\r\nuid:\\;\r\nend:vcard\r\n"),
            Talk.card3("item1.FN;CHARSET=u:A\\n\r\nN:B;\r\nUID:\\;\r\n"));
        byte[] longest = new byte[6000];
        java.util.Arrays.fill(longest, (byte) ',');
        byte[] head = "BEGIN:VCARD\r\nVERSION:4.0\r\nUID:u\r\nFN:".getBytes();
        byte[] tail = "\r\nEND:VCARD\r\n".getBytes();
        System.arraycopy(head, 0, longest, 0, head.length);
        System.arraycopy(tail, 0, longest, 6000 - tail.length, tail.length);
        int commas = 6000 - head.length - tail.length;
        Talk.due("a whole tape", TALK.turn(3, longest).replace("\r\n ", ""), Talk.card3("UID:u\r\nFN:" + "\\,".repeat(commas)
            + "\r\nN:" + "\\,".repeat(commas) + ";;;;\r\n"));
    }

    private static void cut() {
        same(4, "NOTE:" + "x".repeat(70));
        turns(4, 4, "NOTE:" + "x".repeat(71), "NOTE:" + "x".repeat(70) + "\r\n x");
        turns(4, 4, "NOTE:" + "x".repeat(145), "NOTE:" + "x".repeat(70) + "\r\n " + "x".repeat(74) + "\r\n x");
        turns(4, 4, "NOTE:" + "x".repeat(69) + "\u00e9y", "NOTE:" + "x".repeat(69) + "\r\n \u00e9y");
        turns(4, 4, "NOTE:" + "x".repeat(70) + "\ud83d\ude00".repeat(19),
            "NOTE:" + "x".repeat(70) + "\r\n " + "\ud83d\ude00".repeat(18) + "\r\n \ud83d\ude00");
        turns(4, 4, "NOTE:" + "x".repeat(70) + "\u20ac".repeat(25),
            "NOTE:" + "x".repeat(70) + "\r\n " + "\u20ac".repeat(24) + "\r\n \u20ac");
        turns(4, 4, "NOTE:" + "x".repeat(70) + "\u00e9".repeat(38),
            "NOTE:" + "x".repeat(70) + "\r\n " + "\u00e9".repeat(37) + "\r\n \u00e9");
        same(4, "NOTE:" + "x".repeat(66) + "\ud83d\ude00");
        turns(4, 4, "NOTE:" + "x".repeat(67) + "\ud83d\ude00", "NOTE:" + "x".repeat(67) + "\r\n \ud83d\ude00");
        same(4, "NOTE:" + "x".repeat(67) + "\u0915");
        turns(4, 4, "NOTE:" + "x".repeat(68) + "\u0915", "NOTE:" + "x".repeat(68) + "\r\n \u0915");
        turns(4, 4, "NOTE:" + "x".repeat(69) + ",y", "NOTE:" + "x".repeat(69) + "\\\r\n ,y");
        turns(4, 4, "NOTE:" + "x".repeat(70) + "  y", "NOTE:" + "x".repeat(70) + "\r\n   y");
    }

    private static void up() {
        turns(3, 4, "TEL;CHARSET=x;Type=HOME,Pref,W;X=Y:1", "TEL;TYPE=home,w;X=Y;PREF=1:1");
        turns(3, 4, "TEL;TYPE=AZaz@[`{:1", "TEL;TYPE=azaz@[`{:1");
        turns(3, 4, "TEL;TYPE=pref:1", "TEL;PREF=1:1");
        turns(3, 4, "TEL;PREF=7;TYPE=PREF:1", "TEL;PREF=7:1");
        turns(3, 4, "TEL;TYPE=:1", "TEL;TYPE=:1");
        turns(3, 4, "X-Q;TYPE=\"A,B\",^n:z", "X-Q;TYPE=\"a,b\",^n:z");
        turns(3, 4, "PHOTO;ENCODING=b:QUJD", "PHOTO:data:application/octet-stream;base64,QUJD");
        turns(3, 4, "LOGO;X=1;TYPE=PNG,pref;VALUE=binary;ENCODING=B:QUJD", "LOGO;X=1:data:image/png;base64,QUJD");
        turns(3, 4, "PHOTO;TYPE=PREF;PREF=3;ENCODING=b:QUJD", "PHOTO;PREF=3:data:image/pref;base64,QUJD");
        turns(3, 4, "SOUND;TYPE=WAV;ENCODING=b:QUJD", "SOUND:data:audio/wav;base64,QUJD");
        turns(3, 4, "KEY;TYPE=X509;ENCODING=b:QUJD", "KEY:data:application/x509;base64,QUJD");
        turns(3, 4, "PHOTO;VALUE=URL;TYPE=GIF,PREF:http://x", "PHOTO;TYPE=gif;PREF=1:http://x");
        turns(3, 4, "URL;VALUE=uri:http://x", "URL:http://x");
        turns(3, 4, "URL;VALUE=uri,url:http://x", "URL;VALUE=uri,url:http://x");
        turns(3, 4, "URL;VALUE=text:a b", "URL;VALUE=text:a b");
        turns(3, 4, "X-URL;VALUE=uri:http://x", "X-URL;VALUE=uri:http://x");
        turns(3, 4, "BDAY:1970-01-02", "BDAY:19700102");
        turns(3, 4, "BDAY:1970-01-02T10:11:12-05:00", "BDAY:19700102T101112-0500");
        turns(3, 4, "BDAY;VALUE=text:1-2:3", "BDAY;VALUE=text:1-2:3");
        turns(3, 4, "REV:19700102", "REV:19700102T000000Z");
        turns(3, 4, "REV:1970-01-02T10:11:12+05:00", "REV:19700102T101112+0500");
        turns(3, 4, "REV;VALUE=text:x", "REV;VALUE=text:x");
        turns(3, 4, "GEO:1;-2", "GEO:geo:1,-2");
        turns(3, 4, "GEO;VALUE=text:1\\;-2", "GEO;VALUE=text:1\\;-2");
        turns(3, 4, "g.LABEL;TYPE=HOME,pref:Road 1\\nT\\,own \"x\"^", "g.ADR;TYPE=home;PREF=1;LABEL=\"Road 1^nT,own ^'x^'^^\":;;;;;;");
        turns(3, 4, "LABEL;LABEL=l;A=b:x", "ADR;LABEL=l;A=b:;;;;;;");
        turns(3, 4, "MAILER:a,b\r\nCLASS;X=y:c;d", "X-MAILER:a\\,b\r\nX-CLASS;X=y:c\\;d");
        turns(3, 4, "ANNIVERSARY:1-2\r\nKIND:x,y", "ANNIVERSARY:1-2\r\nKIND:x,y");
        Talk.due("SORT-STRING", TALK.turn(4, Talk.card3("g.SORT-STRING:z\\;\r\nFN:A\r\nN;X=y:B\r\nUID:u\r\n")),
            Talk.card4("FN:A\r\nN;X=y;SORT-AS=\"z;\":B\r\nUID:u\r\n"));
        Talk.due("SORT-STRING with SORT-AS", TALK.turn(4, Talk.card3("FN:A\r\nN;SORT-AS=q:B\r\nUID:u\r\nSORT-STRING:z\r\n")),
            Talk.card4("FN:A\r\nN;SORT-AS=q:B\r\nUID:u\r\n"));
    }

    private static void down() {
        turns(4, 3, "TEL;PREF=1;TYPE=home,\"a,b\";CHARSET=x:1", "TEL;TYPE=HOME,\"A,B\",PREF;CHARSET=x:1");
        turns(4, 3, "TEL;TYPE=AZaz@[`{:1", "TEL;TYPE=AZAZ@[`{:1");
        turns(4, 3, "KEY;TYPE=a:http://x", "KEY;TYPE=A;VALUE=uri:http://x");
        turns(4, 3, "SOURCE;VALUE=x;ENCODING=b:http://x", "X-SOURCE;VALUE=x;ENCODING=b:http://x");
        turns(4, 3, "TEL;PREF=;X=y:1", "TEL;X=y;TYPE=PREF:1");
        turns(4, 3, "TEL;TYPE=pref;PREF=1:1", "TEL;TYPE=PREF,PREF:1");
        turns(4, 3, "g.FN;TYPE=x:B,C\r\nFN;PREF=1:D", "g.X-FN;TYPE=X:B\\,C\r\nX-FN;TYPE=PREF:D");
        turns(4, 3, "TZ:a\r\nTZ:b,c", "TZ:a\r\nX-TZ:b\\,c");
        turns(4, 3, "GEO:geo:1,2\r\nGEO:geo:3,4", "GEO:1;2\r\nX-GEO:geo:3,4");
        turns(4, 3, "GEO;VALUE=text:x\r\nGEO:geo:3,4", "GEO;VALUE=text:x\r\nX-GEO:geo:3,4");
        turns(4, 3, "KIND:a,b\r\nANNIVERSARY:2000\r\nGENDER:M;x\r\nLANG:en\r\nIMPP:a:b\r\nMEMBER:m\r\nRELATED;TYPE=x:r\r\nSOURCE:s",
            "X-KIND:a\\,b\r\nX-ANNIVERSARY:2000\r\nX-GENDER:M;x\r\nX-LANG:en\r\nX-IMPP:a:b\r\nX-MEMBER:m\r\nX-RELATED;TYPE=X:r\r\n"
            + "X-SOURCE:s");
        turns(4, 3, "BDAY:19700102", "BDAY:1970-01-02");
        turns(4, 3, "BDAY:19700102T101112", "BDAY:1970-01-02T10:11:12");
        turns(4, 3, "BDAY:19700102T101112Z", "BDAY:1970-01-02T10:11:12Z");
        turns(4, 3, "BDAY:19700102T101112-0530", "BDAY:1970-01-02T10:11:12-05:30");
        for (String date : new String[] {"1970-01", "1970", "--0102", "--01", "---02", "T101112", "T101112Z", "T1011-0530",
            "19700102T10", "19700102T1011", "19700102T1011Z", "19700102T101112-05", "19700102T10+0530"}) {
            turns(4, 3, "BDAY;X=y:" + date, "X-BDAY;X=y:" + date);
        }
        turns(4, 3, "BDAY;VALUE=text:x", "BDAY;VALUE=text:x");
        turns(4, 3, "REV:20000101T101010Z", "REV:2000-01-01T10:10:10Z");
        turns(4, 3, "REV:20000101T101010+01", "X-REV:20000101T101010+01");
        turns(4, 3, "PHOTO;TYPE=x;PREF=1;VALUE=uri;A=b;ENCODING=q:data:image/x-y/svg+xml;base64,QUJD",
            "PHOTO;A=b;ENCODING=b;TYPE=SVG+XML:QUJD");
        turns(4, 3, "KEY:data:pgp;base64,QQ==", "KEY;ENCODING=b;TYPE=PGP:QQ==");
        turns(4, 3, "LOGO;PREF=1;VALUE=x;ENCODING=b;A=b:http://x", "LOGO;A=b;TYPE=PREF;VALUE=uri:http://x");
        for (String uri : new String[] {"data:;base64,QUJD", "data:image/png;base64,QU", "data:image/png,QUJD",
            "DATA:image/png;base64,QUJD", "data:image/p_g;base64,QUJD", "data:image/png;x=y;base64,QUJD"}) {
            turns(4, 3, "SOUND;TYPE=a:" + uri, "SOUND;TYPE=A;VALUE=uri:" + uri);
        }
        turns(4, 3, "URL:data:image/png;base64,QUJD\r\nX-P:data:image/png;base64,QUJD\r\nSOURCE:data:a;base64,QUJD",
            "URL:data:image/png;base64,QUJD\r\nX-P:data:image/png;base64,QUJD\r\nX-SOURCE:data:a;base64,QUJD");
        turns(4, 3, "PHOTO:data:/;base64,", "PHOTO;ENCODING=b;TYPE=:");
        turns(4, 3, "PHOTO;VALUE=text;ENCODING=q:x y", "PHOTO;VALUE=text;ENCODING=q:x y");
        turns(4, 3, "URL;VALUE=uri:http://x", "URL;VALUE=uri:http://x");
        turns(4, 3, "g.ADR;LABEL=\"a,b;^n\",c;TYPE=home;PREF=1:;;x", "g.ADR;TYPE=HOME,PREF:;;x\r\ng.LABEL;TYPE=HOME,PREF:a\\,b\\;\\n");
        turns(4, 3, "ADR;LABEL=:x", "ADR:x\r\nLABEL:");
        turns(4, 3, "TEL;LABEL=a;SORT-AS=b:x", "TEL;LABEL=a;SORT-AS=b:x");
        turns(4, 3, "MAILER:a,\\q", "MAILER:a,\\q");
        Talk.due("N with SORT-AS", TALK.turn(3, Talk.card4("g.N;SORT-AS=\"z,\\\",y;X=y:B;C\r\nFN:A\r\nUID:u\r\n")),
            Talk.card3("g.N;X=y:B;C\r\nSORT-STRING:z\\,\\\\\r\nFN:A\r\nUID:u\r\n"));
        Talk.due("no N", TALK.turn(3, Talk.card4("UID:u\r\ng.FN;PREF=2:A,\\nB\r\nFN:C\r\n")),
            Talk.card3("UID:u\r\ng.FN;TYPE=PREF:A\\,\\nB\r\nN:A\\,\\nB;;;;\r\nX-FN:C\r\n"));
    }
}

/** The edges of Part IV, what a CARD is and what its VALUES are: a test for each sentence that names one; the remark is the sentence. */
public final class EdgeCardTest {
    private static final Talk TALK = new Talk();
    private static final String INNER_3 = "FN:A\r\nN:B\r\nUID:u\r\n";
    private static final String INNER_4 = "FN:A\r\nUID:u\r\n";

    public static void main(String[] args) throws ReflectiveOperationException {
        Talk.all(EdgeCardTest.class);
    }

    /** A card whose characters are its bytes. */
    private static byte[] bytes(String card) {
        byte[] all = new byte[card.length()];
        for (int i = 0; i < all.length; i++) {
            all[i] = (byte) card.charAt(i);
        }
        return all;
    }

    private static void isCard(String card, boolean due) {
        Talk.due("a CARD: " + card, !TALK.turn(0, bytes(card)).equals("NONE"), due);
    }

    private static String with(int version, String lines) {
        return version == 3 ? Talk.card3(INNER_3 + lines + "\r\n") : Talk.card4(INNER_4 + lines + "\r\n");
    }

    /** With these lines (each its own card) beside what is needed it is a CARD of this version. */
    private static void right(int version, String... lines) {
        for (String line : lines) {
            isCard(with(version, line), true);
        }
    }

    private static void wrong(int version, String... lines) {
        for (String line : lines) {
            isCard(with(version, line), false);
        }
    }

    /** How a line is written again in its own version. */
    private static void written(int version, String line, String due) {
        Talk.due("written " + line, TALK.turn(0, with(version, line)), with(version, due));
    }

    /** Part IV: "A CARD is bytes in UTF-8 (the shortest forms, no U+D800 .. DFFF, at most U+10FFFF)". */
    static void utf8() {
        right(4, "NOTE:\u00c2\u0080", "NOTE:\u00df\u00bf", "NOTE:\u00e0\u00a0\u0080", "NOTE:\u00ed\u009f\u00bf", "NOTE:\u00ee\u0080\u0080",
            "NOTE:\u00ef\u00bf\u00be\u00ef\u00bf\u00bf", "NOTE:\u00f0\u0090\u0080\u0080", "NOTE:\u00f4\u008f\u00bf\u00bf",
            "X;A=\u00c3\u00a4:\u00c3\u00a4");
        wrong(4, "NOTE:\u0080", "NOTE:\u00bf", "NOTE:\u00c0\u0080", "NOTE:\u00c1\u00bf", "NOTE:\u00c2", "NOTE:\u00c2A", "NOTE:\u00c2\u007f", "NOTE:\u00c2\u00c2\u0080",
            "NOTE:\u00e0\u009f\u00bf", "NOTE:\u00e0\u00a0", "NOTE:\u00ed\u00a0\u0080", "NOTE:\u00ed\u00bf\u00bf", "NOTE:\u00f0\u008f\u00bf\u00bf",
            "NOTE:\u00f0\u0090\u0080", "NOTE:\u00f4\u0090\u0080\u0080", "NOTE:\u00f5\u0080\u0080\u0080", "NOTE:\u00ff", "X;A=\u0080:", "X-Y:\u00e9");
    }

    /** Part IV: "none of 0 .. 8, 11, 12, 14 .. 31, 127". */
    static void lowBytes() {
        for (int b = 0; b < 256; b++) {
            boolean may = b == 9 || b >= 32 && b < 127;
            if (b != 10 && b != 13 && b < 128) {
                isCard(with(4, "X-Y:a" + (char) b), may);
                isCard(with(4, "NOTE:a" + (char) b + "b"), may && b != 92);
            }
        }
    }

    /** Part IV: "13 and 10 only as CRLF, which ends each LINE". */
    static void lineEnds() {
        wrong(4, "NOTE:a\rb", "NOTE:a\nb", "NOTE:a\n\rb", "NOTE:a\r", "NOTE:a\n", "NOTE:a\r\r\n", "NOTE:a\n b", "NOTE:a\r b");
        isCard(with(4, "NOTE:a").replace("\r\n", "\n"), false);
        isCard(with(4, "NOTE:a").replace("\r\n", "\r"), false);
        String card = with(4, "NOTE:a");
        isCard(card, true);
        isCard(card.substring(0, card.length() - 1), false);
        isCard(card.substring(0, card.length() - 2), false);
        isCard(card + "\r\n", false);
        isCard(card + " ", false);
        isCard("\r\n" + card, false);
    }

    /** Part IV: "a CRLF with S or 9 behind it falls away with that byte". */
    static void folds() {
        written(4, "NOTE:a\r\n b\r\n\tc\r\n  d\r\n \te", "NOTE:abc d\te");
        written(4, "NO\r\n TE\r\n :\r\n a", "NOTE:a");
        written(4, "X\r\n ;A\r\n =\r\n \"b\r\n ,\"\r\n :c", "X;A=\"b,\":c");
        written(4, "NOTE:\\\r\n n", "NOTE:\\n");
        Talk.due("in a character", TALK.turn(0, bytes(with(4, "NOTE:\u00c3\r\n \u00a4"))), with(4, "NOTE:\u00e4"));
        Talk.due("ahead of all", TALK.turn(0, "\r\n " + with(4, "NOTE:a")), with(4, "NOTE:a"));
        Talk.due("behind all", TALK.turn(0, with(4, "NOTE:a") + "\r\n "), with(4, "NOTE:a"));
        isCard(with(4, "NOTE:a").replace("END:VCARD\r\n", "END:VCARD\r\n "), false);
    }

    /** Part IV: "(once through, before all else; a line may be empty by that and then is no LINE as said)". */
    static void foldsOnceThrough() {
        wrong(4, "NOTE:a\r\n\r\n ", "NOTE:a\r\n\r\n \r\n ", "NOTE:a\r\n\r\n\t");
        Talk.due("CRLF that comes to be", TALK.turn(0, with(4, "NOTE:a\r\r\n \nX:b")), with(4, "NOTE:a\r\nX:b"));
        wrong(4, "NOTE:a\r\r\n \n b");
        wrong(4, "NOTE:a\r\r\n  \n");
    }

    /** Part IV, LINE: "perhaps GROUP '.', NAME" and "GROUP, NAME and a parameter's name: 1 to 30 letters, digits, -". */
    static void namesOfLines() {
        right(4, "X:", "9:", "-:", "N".repeat(30) + ":", "g.X:", "g".repeat(30) + ".X:", "-9Z." + "N".repeat(30) + ":", "X;" + "p".repeat(30) + "=:",
            "X;-=:", "X;9=:");
        wrong(4, ":", ".X:", "g.:", "g..X:", "g.h.X:", "N".repeat(31) + ":", "g".repeat(31) + ".X:", "X_Y:", "X Y:", "X :", "g_.X:", "\u00c3\u00a4:",
            "X@:", "X[:", "X`:", "X{:", "X/:", "X;" + "p".repeat(31) + "=:", "X;=:", "X;p_=:", "X;p =:", "X; p=:");
    }

    /** Part IV, LINE: "any number of parameters, ':', VALUE" and "A parameter: ';' name '=' values". */
    static void partsOfLines() {
        right(4, "X:", "X;A=b:", "X;A=b;C=d:", "X::", "X:;A=b");
        wrong(4, "X", "X;", "X;A", "X;A=", "X;A=b", "X;A:", "X;:", "X;A;B=c:", "X;;A=b:", "X;A=b;:", "X=b:");
    }

    /** Part IV, LINE: "values with ',' between, 1 to 8". */
    static void valuesOfParameters() {
        right(4, "X;A=:", "X;A=,:", "X;A=1,2,3,4,5,6,7,8:", "X;A=,,,,,,,:", "X;A=\"\",\"\",\"\",\"\",\"\",\"\",\"\",\"\":");
        wrong(4, "X;A=1,2,3,4,5,6,7,8,9:", "X;A=,,,,,,,,:");
    }

    /** Part IV, LINE: "values with ',' between, 1 to 8" (again and again, each card alone). */
    static void manyCards() {
        String line = "X;A=1,2,3,4,5,6,7,8;B=1,2,3,4,5,6,7,8;C=1,2,3,4,5,6,7,8;D=1,2,3,4,5,6,7,8;E=1,2,3,4,5,6,7,8;F=1,2,3,4,5,6,7,8:";
        String card = Talk.card4(INNER_4 + (line + "\r\n").repeat(38));
        for (int round = 0; round < 4; round++) {
            Talk.due("card " + round, TALK.turn(0, card).replace("\r\n ", ""), card);
        }
    }

    /** Part IV, LINE: "each '"' bytes but '"' and 9 '"', or bytes but '"' ';' ':' ',' and 9, none also". */
    static void bytesOfParameters() {
        right(4, "X;A=\"\":", "X;A=\";:,\":", "X;A=a b\\=.^:", "X;A=!~:", "X;A=\" \":");
        wrong(4, "X;A=\":", "X;A=\"a:", "X;A=a\":", "X;A=a\"b\":", "X;A=\"a\"b:", "X;A=\"\"\":", "X;A=\t:", "X;A=a\tb:", "X;A=\"\t\":", "X;A=\"a\" :");
        written(4, "X;A=\"a\":b", "X;A=a:b");
    }

    /** Part IV, LINE: "^n ^^ ^' in it mean 10, ^, " (any other ^ itself)". */
    static void caretsOfParameters() {
        written(4, "X;A=^n^^^':", "X;A=^n^^^':");
        written(4, "X;A=^:", "X;A=^^:");
        written(4, "X;A=^N^x^:", "X;A=^^N^^x^^:");
        written(4, "X;A=^^n^^^n:", "X;A=^^n^^^n:");
        written(4, "X;A=\"^,^;\":", "X;A=\"^^,^^;\":");
        written(4, "X;A=\"^'\",^n:", "X;A=^',^n:");
    }

    /** Part IV, LINE: "At most 8 parameters, none named twice (LIKE)." */
    static void numbersOfParameters() {
        right(4, "X;A=;B=;C=;D=;E=;F=;G=;H=:");
        wrong(4, "X;A=;B=;C=;D=;E=;F=;G=;H=;I=:", "X;A=1;A=1:", "X;A=1;B=2;a=3:", "X;TYPE=a;type=b:");
        right(4, "X;A=1;AA=1:", "X;A=1:\r\nX;A=1:");
    }

    /** Part IV, LINE: "The first LINE is LIKE 'BEGIN:VCARD', the second 'VERSION:3.0' or 'VERSION:4.0' (LIKE), the last LIKE 'END:VCARD'". */
    static void frames() {
        Talk.due("LIKE", TALK.turn(0, "begin:vcard\r\nvErSiOn:4.0\r\n" + INNER_4 + "End:Vcard\r\n"), Talk.card4(INNER_4));
        Talk.due("LIKE in 3.0", TALK.turn(0, "Begin:VCARD\r\nversion:3.0\r\n" + INNER_3 + "end:VCARD\r\n"), Talk.card3(INNER_3));
        String[] wrong = {"", "\r\n", "BEGIN:VCARD\r\n", "BEGIN:VCARD\r\nVERSION:4.0\r\n", INNER_4, "VERSION:4.0\r\n" + INNER_4 + "END:VCARD\r\n",
            "BEGIN:VCARD\r\n" + INNER_4 + "END:VCARD\r\n", "BEGIN:VCARD\r\nVERSION:4.0\r\n" + INNER_4,
            "BEGIN:VCARD\r\n" + INNER_4 + "VERSION:4.0\r\nEND:VCARD\r\n", "BEGIN:VCARD\r\nVERSION:4.0\r\nEND:VCARD\r\n" + INNER_4};
        for (String card : wrong) {
            isCard(card, false);
        }
        String card = Talk.card4(INNER_4);
        for (String[] row : new String[][] {{"BEGIN:VCARD", "BEGIN:VCARDS"}, {"BEGIN:VCARD", "BEGIN: VCARD"}, {"BEGIN:VCARD", "g.BEGIN:VCARD"},
            {"BEGIN:VCARD", "BEGIN;A=b:VCARD"}, {"4.0", "4"}, {"4.0", "2.1"}, {"4.0", "4.00"}, {"4.0", " 4.0"}, {"VERSION:", "VERSION;A=b:"},
            {"END:VCARD", "END:VCAR"}, {"END:VCARD", "END:VCARD "}, {"END:VCARD", "g.END:VCARD"}, {"END:VCARD", "BEGIN:VCARD"}}) {
            isCard(card.replace(row[0], row[1]), false);
        }
        isCard(card + card, false);
    }

    /** Part IV, LINE: "BEGIN, END, VERSION (LIKE) are no other's names". */
    static void framesInside() {
        wrong(4, "BEGIN:VCARD", "begin:x", "END:VCARD", "End:x", "VERSION:4.0", "version:x", "g.BEGIN:x", "g.end:x", "VERSION;A=b:4.0");
        wrong(3, "BEGIN:VCARD", "END:x", "VERSION:3.0");
        right(4, "BEGINS:x", "X-END:x", "VERSION1:x", "BEGIN.X:y");
    }

    /** Part IV, LINE: "Between them 1 to 40 properties." */
    static void numbersOfProperties() {
        isCard(Talk.card4(""), false);
        isCard(Talk.card4(INNER_4 + "X:\r\n".repeat(38)), true);
        isCard(Talk.card4(INNER_4 + "X:\r\n".repeat(39)), false);
        isCard(Talk.card3(INNER_3 + "X:\r\n".repeat(37)), true);
        isCard(Talk.card3(INNER_3 + "X:\r\n".repeat(38)), false);
    }

    /** Part IV, LINE: "NAMES and names of parameters are those letters in capitals." */
    static void capitals() {
        written(4, "aZ.x-y;pAr=vAl:tExt", "aZ.X-Y;PAR=vAl:tExt");
        Talk.due("FN and UID, too", TALK.turn(0, Talk.card4("fn:A\r\nuId:u\r\n")), Talk.card4(INNER_4));
    }

    /** Part IV, VALUES: "TEXT: \\ \, \; mean the second byte, \n \N 10, no other \ may be; , and ; may stand." */
    static void texts() {
        written(4, "NOTE:\\\\\\,\\;\\n\\N,;", "NOTE:\\\\\\,\\;\\n\\n\\,\\;");
        right(4, "NOTE:", "NOTE:\"", "NOTE:\t", "NOTE::");
        wrong(4, "NOTE:\\", "NOTE:a\\", "NOTE:\\\\\\", "NOTE:\\a", "NOTE:\\:", "NOTE:\\\"", "NOTE:\\ ", "NOTE:\\t");
        for (String name : "TEL EMAIL TZ TITLE ROLE NOTE KIND PRODID FN".split(" ")) {
            wrong(4, name + ":\\q");
        }
        for (String name : "MAILER TZ SORT-STRING CLASS PRODID LABEL TEL EMAIL TITLE ROLE NOTE".split(" ")) {
            written(3, name + ":a,b", name + ":a\\,b");
            wrong(3, name + ":\\q");
        }
    }

    /** Part IV, VALUES: "LIST: TEXTS with , between (not \, )." */
    static void lists() {
        for (int version = 3; version <= 4; version++) {
            for (String name : new String[] {"NICKNAME", "CATEGORIES"}) {
                written(version, name + ":a,b\\,c;d\\;e\\N,", name + ":a,b\\,c\\;d\\;e\\n,");
                right(version, name + ":", name + ":,,,,,,,,,,,,");
                wrong(version, name + ":\\q", name + ":a,\\");
            }
        }
    }

    /** Part IV, VALUES: "PARTS n: at most n LISTS with ; between." */
    static void parts() {
        for (int version = 3; version <= 4; version++) {
            for (String name : new String[] {"ADR", "ORG"}) {
                right(version, name + ":", name + ":;;;;;;", name + ":a,b;\\;;c\\,d;;;;\\;");
                wrong(version, name + ":;;;;;;;", name + ":\\q");
            }
        }
        isCard(Talk.card4(INNER_4 + "N:;;;;\r\n"), true);
        isCard(Talk.card4(INNER_4 + "N:;;;;;\r\n"), false);
        isCard(Talk.card3("FN:A\r\nUID:u\r\nN:;;;;\r\n"), true);
        isCard(Talk.card3("FN:A\r\nUID:u\r\nN:;;;;;\r\n"), false);
        right(4, "GENDER:", "GENDER:M;a,b", "GENDER:\\;;");
        wrong(4, "GENDER:;;");
        written(4, "GENDER:\\N;a\\,b,c", "GENDER:\\n;a\\,b,c");
        Talk.due("N", TALK.turn(0, Talk.card4(INNER_4 + "N:a\\N,b\\,;c\\;\r\n")), Talk.card4(INNER_4 + "N:a\\n,b\\,;c\\;\r\n"));
        written(4, "ADR:a;;\\;", "ADR:a;;\\;");
    }

    /** Part IV, VALUES: "URI: one or more bytes 33 .. 126." */
    static void uris() {
        for (String name : "URL PHOTO LOGO SOUND KEY IMPP MEMBER RELATED SOURCE".split(" ")) {
            right(4, name + ":x", name + ":!~", name + ":a\\,;:");
            wrong(4, name + ":", name + ":a b", name + ":\ta", name + ":\u00c3\u00a4");
        }
        for (String name : "URL PHOTO LOGO SOUND KEY".split(" ")) {
            right(3, name + ":x", name + ":!~");
            wrong(3, name + ":", name + ":a b", name + ":\u00c3\u00a4");
        }
    }

    /** Part IV, VALUES: "RAW: anything." and "All other NAMES: RAW, any number." */
    static void raws() {
        right(4, "X:", "X:\\q,;\t\u00c3\u00a4\\", "X:a\r\nX:a\r\nX:a", "MAILER:\\q\r\nMAILER:", "LABEL:\\q", "SORT-STRING:\\q\r\nSORT-STRING:", "CLASS:\\\r\nCLASS:",
            "FNN:\\");
        for (String name : "ANNIVERSARY GENDER KIND LANG IMPP MEMBER RELATED SOURCE".split(" ")) {
            right(3, name + ":", name + ":\\q;;;;;;;;\r\n" + name + ":\\");
        }
        written(4, "X:a,b;c\\N", "X:a,b;c\\N");
    }

    /** Part IV, VALUES: "With a parameter VALUE that is LIKE 'text': TEXT where DATE, STAMP, LANGUAGE, GEO or URI stand here." */
    static void valueText() {
        for (String name : "BDAY ANNIVERSARY REV LANG GEO URL PHOTO IMPP".split(" ")) {
            written(4, name + ";VALUE=TexT:a b,", name + ";VALUE=TexT:a b\\,");
            right(4, name + ";VALUE=text:", name + ";VALUE=\"text\":");
            wrong(4, name + ";VALUE=text:\\q", name + ";VALUE=texts:a b", name + ";VALUE=text,text:a b", name + ";VALUE=:a b", name + ";X=text:a b");
        }
        for (String name : "BDAY REV GEO URL PHOTO".split(" ")) {
            written(3, name + ";VALUE=text:a b,", name + ";VALUE=text:a b\\,");
            wrong(3, name + ";VALUE=text:\\q");
        }
        written(4, "NICKNAME;VALUE=text:a,b", "NICKNAME;VALUE=text:a,b");
        written(4, "X;VALUE=text:a,\\q", "X;VALUE=text:a,\\q");
        wrong(3, "PHOTO;ENCODING=b;VALUE=text:a b");
    }

    private static void dates(int version, String names, String[] right, String[] wrong) {
        for (String name : names.split(" ")) {
            for (String date : right) {
                right(version, name + ":" + date);
            }
            for (String date : wrong) {
                wrong(version, name + ":" + date);
            }
        }
    }

    /** Part IV, DATE: "in 3.0 D3 or D3 'T' T3" with "D3: YYYY-MM-DD or YYYYMMDD" and STAMP: "in 3.0 as DATE". */
    static void dates3() {
        dates(3, "BDAY REV", new String[] {"2000-01-02", "20000102", "0000-01-01", "9999-12-31", "20000102T000000", "2000-01-02T00:00:00",
            "2000-01-02T000000", "20000102T00:00:00"}, new String[] {"", "2000", "2000-01", "200001", "2000-0102", "200001-02", "2000-1-2", "20000102T",
            "2000-01-02 00:00:00", "2000-01-02t00:00:00", "T000000", "--0102", "---02", "20000102Z", "x", "2000010", "200001022", "+2000-01-02",
            "2000-01-02-", "x0000102", "200x0102", "200/0102", "200:0102", "x000-01-02", "2000x102", "20000x02", "2000-x1-02", "2000-0x-02",
            "2000-01x02", "2000-01/02", "2000-01-x2", "2000-01-0x", "200001x2", "2000010x", "2000-01-0/", "2000-01-0:"});
    }

    /** Part IV, DATE: "T3: hh:mm:ss or hhmmss, then perhaps Z or a sign + - and hh:mm or hhmm". */
    static void times3() {
        dates(3, "BDAY REV", new String[] {"20000102T235959", "20000102T23:59:59", "20000102T000000Z", "20000102T00:00:00+00:00", "20000102T000000-2359",
            "20000102T00:00:00-2359", "20000102T000000+23:59"}, new String[] {"20000102T24:00:00", "20000102T00:60:00", "20000102T00:00:60",
            "20000102T240000", "20000102T006000", "20000102T000060", "20000102T00:0000", "20000102T0000:00", "20000102T00", "20000102T0000",
            "20000102T00:00", "20000102T000000z", "20000102T000000ZZ", "20000102T000000+", "20000102T000000+00", "20000102T000000+2400",
            "20000102T000000+0060", "20000102T000000+24:00", "20000102T000000+00:60", "20000102T000000+000", "20000102T000000+00:0",
            "20000102T000000+00000", "20000102T000000Z+0000", "20000102T000000 ", "20000102T000000*0000",
            "20000102T00000:", "20000102T00000/", "20000102T0:0000", "20000102T000:00", "20000102T00:00x00", "20000102T00:00-00",
            "20000102T0000x0", "20000102Tx00000", "20000102T000000+0:00", "20000102T000000+000:", "20000102T000000+x000"});
    }

    /** Part IV, DATE: "in 4.0 D4, D4 'T' T4 or 'T' T4" with "D4: YYYYMMDD, YYYY-MM, YYYY, --MMDD, --MM, ---DD". */
    static void dates4() {
        dates(4, "BDAY ANNIVERSARY", new String[] {"20000102", "2000-01", "2000", "--0102", "--01", "---02", "20000102T00", "2000-01T00", "2000T00",
            "--0102T00", "--01T00", "---02T00", "T00"}, new String[] {"", "2000-01-02", "200001", "2000-1", "2000-0102", "-0102", "--", "---", "--1", "--010",
            "--01-02", "---1", "---012", "----01", "20000102T", "T", "200", "20000", "2000010", "200001022", "2000-", "2000-01-", "20000102t00", "--T00", "x",
            "-2000", "x000", "200x", "20x0", "200/", "200:", "x0000102", "20x00102", "20000x02", "2000010x", "2000x102", "2000-1x", "2000-x1", "2x00-01",
            "--x1", "--0x", "--01x2", "--010x", "---x1", "---0x", "---0:", "--0:", "2000-0:"});
    }

    /** Part IV, DATE: "T4: hh, hhmm or hhmmss, then perhaps Z or a sign and hh or hhmm". */
    static void times4() {
        String[] right = {"00", "23", "0000", "2359", "000000", "235959", "00Z", "0000Z", "000000Z", "00+00", "00-2359", "0000+23", "0000-0000", "000000+00",
            "000000-2359"};
        String[] wrong = {"", "0", "24", "000", "0060", "2400", "00000", "000060", "006000", "240000", "0000000", "00:00", "00z", "00ZZ", "00+", "00+0", "00+24",
            "00+000", "00+0060", "00+00000", "00+00:00", "Z", "+00", "00 ", "00+00Z", "00000000",
            "0:", "0/", "x0", "0x", "000:", "00000:", "00+0:", "00+000:", "00x000", "0000x0"};
        for (int i = 0; i < right.length; i++) {
            right[i] = "20000102T" + right[i];
            right(4, "BDAY:" + right[i].substring(8));
        }
        for (int i = 0; i < wrong.length; i++) {
            wrong[i] = "20000102T" + wrong[i];
            wrong(4, "BDAY:" + wrong[i].substring(8));
        }
        dates(4, "BDAY ANNIVERSARY", right, wrong);
    }

    /** Part IV, DATE: "(YYYY four digits, MM 01 .. 12, DD 01 .. as many as the month has". */
    static void days() {
        int[] most = {31, 29, 31, 30, 31, 30, 31, 31, 30, 31, 30, 31};
        for (int month = 1; month <= 12; month++) {
            String mm = (month < 10 ? "0" : "") + month;
            for (int day = 0; day <= 32; day++) {
                String dd = (day < 10 ? "0" : "") + day;
                boolean is = day >= 1 && day <= most[month - 1];
                isCard(with(4, "BDAY:2000" + mm + dd), is);
                isCard(with(3, "BDAY:2000-" + mm + "-" + dd), is);
                isCard(with(4, "BDAY:--" + mm + dd), is);
            }
        }
        right(4, "BDAY:2000-01", "BDAY:2000-12", "BDAY:--01", "BDAY:--12", "BDAY:0000", "BDAY:9999");
        wrong(4, "BDAY:2000-00", "BDAY:2000-13", "BDAY:--00", "BDAY:--13", "BDAY:20000001", "BDAY:20001301", "BDAY:--0001", "BDAY:--1301", "BDAY:2000-99");
        wrong(3, "BDAY:2000-00-01", "BDAY:2000-13-01", "BDAY:20001301", "BDAY:20000001");
    }

    /** Part IV, DATE: "of February 29 also when the year is not there, else by Gregory's rule, 31 when the month is not there". */
    static void leapDays() {
        for (String year : new String[] {"2000", "2004", "1600", "0000", "0004", "2400", "1996"}) {
            right(4, "BDAY:" + year + "0229");
            right(3, "BDAY:" + year + "-02-29", "REV:" + year + "0229");
            wrong(4, "BDAY:" + year + "0230");
        }
        for (String year : new String[] {"1900", "2100", "1999", "2001", "2002", "0001", "0100", "9999"}) {
            right(4, "BDAY:" + year + "0228");
            wrong(4, "BDAY:" + year + "0229");
            wrong(3, "BDAY:" + year + "-02-29", "REV:" + year + "0229");
        }
        right(4, "BDAY:--0229", "BDAY:---31", "BDAY:---01");
        wrong(4, "BDAY:--0230", "BDAY:---32", "BDAY:---00");
    }

    /** Part IV, DATE: "hh 00 .. 23, mm, ss 00 .. 59.)" */
    static void hours() {
        for (int n = 0; n <= 99; n++) {
            String two = (n < 10 ? "0" : "") + n;
            isCard(with(3, "BDAY:20000102T" + two + "0000"), n <= 23);
            isCard(with(4, "BDAY:T" + two), n <= 23);
            isCard(with(4, "BDAY:T00+" + two), n <= 23);
            isCard(with(3, "REV:20000102T00:" + two + ":00"), n <= 59);
            isCard(with(3, "REV:20000102T00:00:" + two), n <= 59);
            isCard(with(3, "REV:20000102T00:00:00-00:" + two), n <= 59);
            isCard(with(4, "REV:20000102T00" + two + "00"), n <= 59);
            isCard(with(4, "REV:20000102T0000" + two), n <= 59);
            isCard(with(4, "REV:20000102T000000-00" + two), n <= 59);
        }
    }

    /** Part IV, STAMP: "in 4.0 YYYYMMDD 'T' hhmmss, then perhaps Z or a sign and hh or hhmm". */
    static void stamps4() {
        dates(4, "REV", new String[] {"20000102T000000", "20000229T235959Z", "20000102T000000+00", "20000102T000000-2359"}, new String[] {"", "20000102",
            "20000102T", "20000102T00", "20000102T0000", "20000102T0000Z", "2000-01-02T00:00:00", "2000T000000", "--0102T000000", "T000000", "20010229T000000",
            "20000102T240000", "20000102T006000", "20000102T000060", "20000102T000000z", "20000102T000000+", "20000102T000000+0", "20000102T000000+000",
            "20000102T000000+2400", "20000102T000000+00:00", "20000102T0000000", "20000102T000000Z "});
    }

    /** Part IV, FLOAT: "perhaps + or -, 1 to 3 digits, perhaps . and 1 to 6 digits". */
    static void floats() {
        String[] right = {"0", "999", "+1", "-1", "1.0", "1.123456", "-180.000000", "000"};
        String[] wrong = {"", "1234", "+", "-", "+-1", ".5", "1.", "1.1234567", "1..1", "1.1.1", "1e1", " 1", "1 ", "a", "--1"};
        for (String number : right) {
            right(3, "GEO:" + number + ";1", "GEO:1;" + number);
            right(4, "GEO:geo:" + number + ",1", "GEO:geo:1," + number);
        }
        for (String number : wrong) {
            wrong(3, "GEO:" + number + ";1", "GEO:1;" + number);
            wrong(4, "GEO:geo:" + number + ",1", "GEO:geo:1," + number);
        }
    }

    /** Part IV, GEO: "in 3.0 FLOAT ';' FLOAT, in 4.0 'geo:' FLOAT ',' FLOAT". */
    static void points() {
        right(3, "GEO:1;2");
        wrong(3, "GEO:1,2", "GEO:geo:1,2", "GEO:1", "GEO:1;2;3", "GEO:1\\;2", "GEO:1; 2", "GEO:");
        right(4, "GEO:geo:1,2");
        wrong(4, "GEO:1,2", "GEO:1;2", "GEO:geo:1;2", "GEO:geo:1", "GEO:geo:1,2,3", "GEO:geo:1\\,2", "GEO:GEO:1,2", "GEO:geo:1,2;u=3", "GEO:", "GEO:geo:");
    }

    /** Part IV, LANGUAGE: "1 to 20 letters, digits, -". */
    static void languages() {
        right(4, "LANG:a", "LANG:-", "LANG:9", "LANG:" + "a".repeat(20), "LANG:de-CH-1996");
        wrong(4, "LANG:", "LANG:" + "a".repeat(21), "LANG:a_b", "LANG:a b", "LANG:a.b", "LANG:\u00c3\u00a4", "LANG:a,b");
    }

    /** Part IV, BINARY: "base64 as above, not empty" and "BINARY with a parameter ENCODING of one value LIKE 'b', URI without ENCODING". */
    static void binaries() {
        for (String name : "PHOTO LOGO SOUND KEY".split(" ")) {
            for (String data : new String[] {"AAAA", "AA==", "AAA=", "+/+/", "az09AZ+/", "AAAAAA=="}) {
                right(3, name + ";ENCODING=b:" + data, name + ";ENCODING=B:" + data, name + ";ENCODING=\"b\":" + data);
            }
            for (String data : new String[] {"", "A", "AA", "AAA", "AB==", "AP==", "AAB=", "AAD=", "A===", "====", "=", "AA=A", "AAAA=", "AAAA====", "AA==AAAA",
                "AA-_", "AA A", "AAAA ", "http://x"}) {
                wrong(3, name + ";ENCODING=b:" + data);
            }
            wrong(3, name + ";ENCODING=:AAAA", name + ";ENCODING=base64:AAAA", name + ";ENCODING=b,b:AAAA", name + ";ENCODING=b,:AAAA", name + ";ENCODING=8bit:x");
            right(3, name + ":A", name + ";TYPE=b:A");
            right(4, name + ";ENCODING=b:A", name + ";ENCODING=x:A");
            wrong(4, name + ";ENCODING=b:");
        }
        right(3, "URL;ENCODING=b:x", "NOTE;ENCODING=b:x");
    }

    /** Part IV: "3.0, exactly one: FN TEXT, N PARTS 5, UID TEXT (not empty)." */
    static void exactlyOne3() {
        isCard(Talk.card3("FN:A\r\nN:B\r\nUID:u\r\n"), true);
        isCard(Talk.card3("FN:\r\nN:\r\nUID:u\r\n"), true);
        isCard(Talk.card3("UID:u\r\nN:B\r\nFN:A\r\n"), true);
        isCard(Talk.card3("g.FN:A\r\ng.N:B\r\ng.UID:u\r\n"), true);
        isCard(Talk.card3("N:B\r\nUID:u\r\n"), false);
        isCard(Talk.card3("FN:A\r\nUID:u\r\n"), false);
        isCard(Talk.card3("FN:A\r\nN:B\r\n"), false);
        isCard(Talk.card3("FN:A\r\nN:B\r\nUID:\r\n"), false);
        wrong(3, "FN:A", "N:B", "UID:u", "UID:v", "g.FN:A");
    }

    private static void atMostOne(int version, String... lines) {
        for (String line : lines) {
            right(version, line);
            wrong(version, line + "\r\n" + line, line + "\r\nX:\r\ng." + line);
        }
    }

    private static void anyNumber(int version, String... lines) {
        for (String line : lines) {
            right(version, line, line + "\r\n" + line, line + "\r\n" + line + "\r\n" + line);
        }
    }

    /** Part IV: "At most one: BDAY DATE, MAILER TZ SORT-STRING CLASS PRODID TEXT, GEO GEO, REV STAMP." */
    static void atMostOne3() {
        atMostOne(3, "BDAY:20000101", "MAILER:", "TZ:", "SORT-STRING:", "CLASS:", "PRODID:", "GEO:1;2", "REV:20000101");
    }

    /** Part IV: "Any number: NICKNAME CATEGORIES LIST, ADR ORG PARTS 7, LABEL TEL EMAIL TITLE ROLE NOTE TEXT, URL URI, PHOTO LOGO SOUND KEY". */
    static void anyNumber3() {
        anyNumber(3, "NICKNAME:", "CATEGORIES:", "ADR:", "ORG:", "LABEL:", "TEL:", "EMAIL:", "TITLE:", "ROLE:", "NOTE:", "URL:x", "PHOTO:x", "LOGO:x", "SOUND:x",
            "KEY:x");
    }

    /** Part IV: "4.0, exactly one: UID TEXT (not empty). One or more: FN TEXT." */
    static void exactlyOne4() {
        isCard(Talk.card4("FN:\r\nUID:u\r\n"), true);
        isCard(Talk.card4("FN:A\r\n"), false);
        isCard(Talk.card4("FN:A\r\nUID:\r\n"), false);
        isCard(Talk.card4("UID:u\r\n"), false);
        isCard(Talk.card4("UID:u\r\nN:A\r\n"), false);
        wrong(4, "UID:u", "g.UID:v");
        anyNumber(4, "FN:", "g.FN:B");
    }

    /** Part IV: "At most one: N PARTS 5, BDAY ANNIVERSARY DATE, GENDER PARTS 2, KIND PRODID TEXT, REV STAMP." */
    static void atMostOne4() {
        atMostOne(4, "N:", "BDAY:2000", "ANNIVERSARY:2000", "GENDER:", "KIND:", "PRODID:", "REV:20000101T000000");
    }

    /** Part IV: "Any number: NICKNAME CATEGORIES LIST, ADR ORG PARTS 7, TEL EMAIL TZ TITLE ROLE NOTE TEXT, GEO GEO, LANG LANGUAGE, URL PHOTO LOGO SOUND KEY IMPP MEMBER RELATED SOURCE URI." */
    static void anyNumber4() {
        anyNumber(4, "NICKNAME:", "CATEGORIES:", "ADR:", "ORG:", "TEL:", "EMAIL:", "TZ:", "TITLE:", "ROLE:", "NOTE:", "GEO:geo:1,2", "LANG:a", "URL:x", "PHOTO:x",
            "LOGO:x", "SOUND:x", "KEY:x", "IMPP:x", "MEMBER:x", "RELATED:x", "SOURCE:x");
    }
}

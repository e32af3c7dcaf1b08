/** Section 4: the setup text, its grammar, ranges, error codes and offsets. */
final class SetupSection extends Sentences {
    private static final String TEN = tenKites();
    private static final String[] QUOTED = {"kite", "sharp", "tough", "out", "wind", "slack", "rise", "climb", "sink", "reach", "pick"};
    private static final String[] SETTINGS = {"slack", "rise", "climb", "sink", "reach", "pick"};
    private static final int[] FIRST = {5, 2, 3, 4, 3, 10}, LOW = {0, 0, 0, 1, 0, 0}, HIGH = {99, 9, 9, 20, 50, 50};

    private SetupSection() {
    }

    static void hold() {
        place("Section 4");
        says("The input buffer holds at most 700 bytes.", SetupSection::fullBuffer);
        grammar();
        says("\"kite\" tells a kite and the place of its flyer, sharpness (1 if it is not told), toughness (20) and the length out (10);", SetupSection::kiteNumbers);
        says("it is down, at the place of its flyer, with the reel 0.", () -> {
            is("not told", numbers(field("kite a 7 9;"), 0), "1 7 9 0 7 9 10 0 1 20 0 0 -1 -1");
            is("told", numbers(field("kite a 7 9 sharp 2 tough 3 out 400;"), 0), "1 7 9 0 7 9 400 0 2 3 0 0 -1 -1");
        });
        winds();
        settings();
        names();
        tokens();
        offsets();
        codes();
    }

    private static void texts(String[][] rows) {
        for (String[] row : rows) is("<" + row[0] + ">", parsed(row[0]), row[1]);
    }

    private static String blanks(int many) {
        return " ".repeat(many);
    }

    private static void fullBuffer() {
        String kite = "kite a 1 1;";
        is("700 bytes", parsed(kite + blanks(689)), "1 kites");
        is("the last of 700 bytes", parsed(kite + blanks(688) + "!"), "error 1 699");
        is("a statement up to the last byte", parsed(blanks(689) + kite), "1 kites");
        is("more required behind 700 bytes", parsed(kite + blanks(682) + "slack 1"), "error 1 700");
        is("a word of 700 letters", parsed("z".repeat(700)), "error 1 0");
        is("a number of 695 digits", parsed("sink " + "9".repeat(695)), "error 1 5");
        is("350 faulty statements", parsed(";".repeat(700)), "error 1 0");
        KiteQuarrel q = new KiteQuarrel();
        Checks.feed(q, blanks(681));
        is("20 more than 681", all(q.feed(0, 0, 0, 0, 0), Checks.bufferLength(q)), "-1 681");
    }

    private static void grammar() {
        says("braces mean any number of times,", () -> texts(new String[][] {{"", "0 kites"}, {"slack 1;", "0 kites"}, {"slack 1;rise 1;climb 1;sink 1;reach 1;pick 1;", "0 kites"}, {TEN, "10 kites"}}));
        says("brackets mean that it can be left out,", () -> texts(new String[][] {{"kite a 1 1;", "1 kites"}, {"kite a 1 1 sharp 1;", "1 kites"}, {"kite a 1 1 tough 1;", "1 kites"},
            {"kite a 1 1 out 1;", "1 kites"}, {"kite a 1 1 sharp 1 tough 1;", "1 kites"}, {"kite a 1 1 sharp 1 out 1;", "1 kites"}, {"kite a 1 1 tough 1 out 1;", "1 kites"},
            {"kite a 1 1 sharp 1 tough 1 out 1;", "1 kites"}, {"kite a 1 1 sharp;", "error 1 16"}, {"kite a 1 1 tough;", "error 1 16"}, {"kite a 1 1 out;", "error 1 14"}}));
        says("N is a number, S a number with or without a minus sign (a token of its own) ahead:", () -> {
            texts(new String[][] {{"wind 0 1 1;", "0 kites"}, {"wind 0 -1 -1;", "0 kites"}, {"wind 0 - 1 -\n1;", "0 kites"}, {"wind 0-1-1;", "0 kites"}, {"wind 0 -0 - 0;", "0 kites"},
                {"wind 0 --1 1;", "error 1 8"}, {"wind 0 1 - - 1;", "error 1 11"}, {"wind -0 1 1;", "error 1 5"}, {"wind 0 -;", "error 1 8"}, {"wind 0 -x 1;", "error 1 8"},
                {"kite a -1 1;", "error 1 7"}, {"kite a 1 -1;", "error 1 9"}, {"kite a 1 1 sharp -1;", "error 1 17"}, {"kite a 1 1 tough -1;", "error 1 17"}, {"kite a 1 1 out -1;", "error 1 15"},
                {"slack -1;", "error 1 6"}, {"wind 0 1- 1;", "0 kites"}, {"wind 0 1 1-;", "error 1 10"}});
            is("the sign", wind(field("wind 0 -2 - 3;"), 0), "0 -2 -3 3");
            is("one sign alone", wind(field("wind 0 2 -3;"), 0), "0 2 -3 3");
            is("the other one alone", wind(field("wind 0 -2 3;"), 0), "0 -2 3 3");
        });
        says("text = { statement \";\" }", () -> texts(new String[][] {{"slack 1", "error 1 7"}, {"slack 1;;", "error 1 8"}, {";", "error 1 0"}, {"slack 1 1;", "error 1 8"},
            {"kite a 1 1 kite b 1 1;", "error 1 11"}, {"wind 0 1 1 wind 1 1 1;", "error 1 11"}, {"kite a 1 1;;", "error 1 11"}, {"kite a 1 1; ", "1 kites"}}));
        says("statement = \"kite\" name N N [ \"sharp\" N ] [ \"tough\" N ] [ \"out\" N ] | \"wind\" N S S | \"slack\" N | \"rise\" N | \"climb\" N | \"sink\" N | \"reach\" N | \"pick\" N", () -> {
            texts(new String[][] {{"kite a 1 1 tough 1 sharp 1;", "error 1 19"}, {"kite a 1 1 out 1 sharp 1;", "error 1 17"}, {"kite a 1 1 out 1 tough 1;", "error 1 17"},
                {"kite a 1 1 sharp 1 sharp 1;", "error 1 19"}, {"kite a 1 1 tough 1 tough 1;", "error 1 19"}, {"kite a 1 1 out 1 out 1;", "error 1 17"}, {"kite a 1 1 1;", "error 1 11"},
                {"kite a 1;", "error 1 8"}, {"kite a;", "error 1 6"}, {"kite;", "error 1 4"}, {"kite 1 1;", "error 1 5"}, {"wind;", "error 1 4"}, {"wind 0;", "error 1 6"}, {"wind 0 1;", "error 1 8"},
                {"wind 0 1 1 1;", "error 1 11"}, {"sharp 1;", "error 1 0"}, {"tough 1;", "error 1 0"}, {"out 1;", "error 1 0"}, {"a 1 1;", "error 1 0"}, {"1;", "error 1 0"}, {"-1;", "error 1 0"},
                {"kites a 1 1;", "error 1 0"}, {"kit a 1 1;", "error 1 0"}, {"xite a 1 1;", "error 1 0"}, {"kitx a 1 1;", "error 1 0"}, {"xind 0 1 1;", "error 1 0"}, {"winx 0 1 1;", "error 1 0"},
                {"kite a 1 1 xharp 1;", "error 1 11"}, {"kite a 1 1 xough 1;", "error 1 11"}, {"kite a 1 1 xut 1;", "error 1 11"}, {"winds 0 1 1;", "error 1 0"}, {"kite a 1 1 sharps 1;", "error 1 11"}, {"kite a 1 1 ou 1;", "error 1 11"}});
            for (String setting : SETTINGS) {
                texts(new String[][] {{setting + " 1;", "0 kites"}, {setting + ";", "error 1 " + setting.length()}, {setting + "1;", "0 kites"}, {setting + "s 1;", "error 1 0"},
                    {"x" + setting.substring(1) + " 1;", "error 1 0"}, {setting.substring(0, setting.length() - 1) + "x 1;", "error 1 0"}, {setting.substring(1) + " 1;", "error 1 0"}, {setting.substring(0, 3) + " 1;", "error 1 0"}});
            }
        });
    }

    private static void kiteNumbers() {
        is("x and y", numbers(field("kite a 3 4 sharp 5 tough 6 out 7;"), 0), "1 3 4 0 3 4 7 0 5 6 0 0 -1 -1");
        is("sharpness not told", numbers(field("kite a 3 4 tough 6 out 7;"), 0), "1 3 4 0 3 4 7 0 1 6 0 0 -1 -1");
        is("toughness not told", numbers(field("kite a 3 4 sharp 5 out 7;"), 0), "1 3 4 0 3 4 7 0 5 20 0 0 -1 -1");
        is("length out not told", numbers(field("kite a 3 4 sharp 5 tough 6;"), 0), "1 3 4 0 3 4 10 0 5 6 0 0 -1 -1");
        KiteQuarrel q = field("kite a 3 4 sharp 5 tough 6 out 7;kite b 8 9;");
        is("not told behind one that told", numbers(q, 1), "1 8 9 0 8 9 10 0 1 20 0 0 -1 -1");
        Checks.parse(q, "kite c 1 2;");
        is("not told where one had told", numbers(q, 0), "1 1 2 0 1 2 10 0 1 20 0 0 -1 -1");
        texts(new String[][] {{"kite a 199 0;", "1 kites"}, {"kite a 0 199;", "1 kites"}, {"kite a 200 0;", "error 2 7"}, {"kite a 0 200;", "error 2 9"}, {"kite a 9999 0;", "error 2 7"},
            {"kite a 1 1 sharp 0 tough 1 out 1;", "1 kites"}, {"kite a 1 1 sharp 9 tough 99 out 400;", "1 kites"}, {"kite a 1 1 sharp 10 tough 1;", "error 2 17"},
            {"kite a 1 1 sharp 1 tough 0;", "error 2 25"}, {"kite a 1 1 sharp 1 tough 100;", "error 2 25"}, {"kite a 1 1 sharp 1 tough 1 out 0;", "error 2 31"},
            {"kite a 1 1 sharp 1 tough 1 out 401;", "error 2 31"}, {"kite a 1 1 out 9999;", "error 2 15"}});
    }

    private static void winds() {
        says("\"wind\" tells the lowest height of a wind and its speeds;", () -> is("in this order", wind(field("wind 0 1 2;wind 5 6 7;"), 1), "5 6 7 7"));
        says("the first wind has the lowest height 0, each further one a greater one than the one before, up to 300.", () -> texts(new String[][] {{"wind 0 1 1;", "0 kites"},
            {"wind 1 1 1;", "error 2 5"}, {"wind 300 1 1;", "error 2 5"}, {"wind 301 1 1;", "error 2 5"}, {"wind 0 1 1;wind 0 1 1;", "error 2 16"}, {"wind 0 1 1;wind 1 1 1;", "0 kites"},
            {"wind 0 1 1;wind 300 1 1;", "0 kites"}, {"wind 0 1 1;wind 301 1 1;", "error 2 16"}, {"wind 0 1 1;wind 9 1 1;wind 9 1 1;", "error 2 27"},
            {"wind 0 1 1;wind 9 1 1;wind 8 1 1;", "error 2 27"}, {"wind 0 1 1;wind 9 1 1;wind 10 1 1;", "0 kites"}, {"wind 0 1 1;wind 300 1 1;wind 300 1 1;", "error 2 29"},
            {"wind 0 1 1;wind 300 1 1;wind 301 1 1;", "error 2 29"}, {"wind 0 1 1;wind 298 1 1;wind 299 1 1;wind 300 1 1;", "0 kites"},
            {"wind 0 1 1;wind 2 1 1;wind 4 1 1;wind 4 1 1;", "error 2 38"}, {"wind 0 1 1;wind 2 1 1;wind 4 1 1;wind 3 1 1;", "error 2 38"}, {"wind 00 1 1;", "0 kites"}}));
        says("Without a \"wind\" there is one, from 0 on, with the speeds 3 and 0.", () -> {
            KiteQuarrel q = field("slack 1;kite a 1 1;");
            is("the wind", q.count(1) + ": " + wind(q, 0), "1: 0 3 0 3");
            Checks.parse(q, "wind 0 -1 -1;wind 5 -2 -2;");
            Checks.parse(q, "");
            is("behind a text with winds", q.count(1) + ": " + wind(q, 0), "1: 0 3 0 3");
        });
    }

    private static void settings() {
        says("SLACK is 0 to 99 (5 without the statement), RISE 0 to 9 (2), CLIMB 0 to 9 (3), SINK 1 to 20 (4), REACH 0 to 50 (3), PICK 0 to 50 (10).", () -> {
            is("without a statement", settings(field("kite a 1 1;")), "5 2 3 4 3 10");
            for (int i = 0; i < 6; i++) {
                String word = SETTINGS[i];
                for (int value : new int[] {LOW[i], FIRST[i] + 1, HIGH[i]}) {
                    int[] want = FIRST.clone();
                    want[i] = value;
                    is(word + " " + value, settings(field(word + " " + value + ";")), all(want[0], want[1], want[2], want[3], want[4], want[5]));
                }
                is(word + " above", parsed(word + " " + (HIGH[i] + 1) + ";"), "error 2 " + (word.length() + 1));
                if (LOW[i] > 0) is(word + " below", parsed(word + " " + (LOW[i] - 1) + ";"), "error 2 " + (word.length() + 1));
                KiteQuarrel q = field(word + " " + HIGH[i] + ";");
                Checks.parse(q, "");
                is(word + " behind a text with it", settings(q), "5 2 3 4 3 10");
            }
            is("all at once", settings(field("pick 50;reach 49;sink 19;climb 8;rise 7;slack 98;")), "98 7 8 19 49 50");
        });
    }

    private static void names() {
        says("A name is a word of 1 to 6 letters that is not quoted in the grammar;", () -> {
            texts(new String[][] {{"kite a 1 1;", "1 kites"}, {"kite abcdef 1 1;", "1 kites"}, {"kite abcdefg 1 1;", "error 1 5"}, {"kite zzzzzz 1 1;", "1 kites"}, {"kite 1 1 1;", "error 1 5"},
                {"kite - 1 1;", "error 1 5"}, {"kite ; 1 1;", "error 1 5"}, {"kite A 1 1;", "error 1 5"}});
            for (String quoted : QUOTED) {
                texts(new String[][] {{"kite " + quoted + " 1 1;", "error 1 5"}, {"kite " + quoted.substring(1) + " 1 1;", "1 kites"},
                    {"kite x" + quoted.substring(1) + " 1 1;", "1 kites"}, {"kite " + quoted.substring(0, quoted.length() - 1) + "x 1 1;", "1 kites"},
                    {"kite " + quoted.substring(0, quoted.length() - 1) + " 1 1;", "1 kites"}, {"kite " + quoted + "s 1 1;", "1 kites"}, {"kite x" + quoted + " 1 1;", "1 kites"}});
            }
            // words that the text of section 4 holds outside of quotes
            texts(new String[][] {{"kite name 1 1;kite text 1 1;kite n 1 1;kite s 1 1;", "4 kites"}});
        });
        says("kites have different names.", () -> texts(new String[][] {{"kite a 1 1;kite a 2 2;", "error 3 16"}, {"kite a 1 1;kite b 1 1;kite a 1 1;", "error 3 27"}, {"kite a 1 1;kite aa 1 1;", "2 kites"},
            {"kite aa 1 1;kite a 1 1;", "2 kites"}, {"kite abcdef 1 1;kite abcdeg 1 1;", "2 kites"}, {"kite bbcdef 1 1;kite abcdef 1 1;", "2 kites"}, {"kite abcdef 1 1;kite abcdef 1 1;", "error 3 21"},
            {TEN.substring(0, TEN.length() - 15) + "kite a 1 1;", "error 3 140"}}));
    }

    private static void tokens() {
        says("A word is a maximal run of the letters a to z,", () -> texts(new String[][] {{"kite a1 1;", "1 kites"}, {"kitea 1 1;", "error 1 0"}, {"kite az 1 1;", "1 kites"}, {"kite `a 1 1;", "error 1 5"},
            {"kite a` 1 1;", "error 1 6"}, {"kite {a 1 1;", "error 1 5"}, {"kite a{ 1 1;", "error 1 6"}, {"kite a_b 1 1;", "error 1 6"}, {"kite aZ 1 1;", "error 1 6"}, {"kite a\u00e1 1 1;", "error 1 6"},
            {"kite \u00e1 1 1;", "error 1 5"}, {"kite a 1 1sharp1tough1out1;slack1;", "1 kites"}}));
        says("a number a maximal run of 1 to 4 digits.", () -> {
            texts(new String[][] {{"kite a 0001 0199;", "1 kites"}, {"kite a 00001 1;", "error 1 7"}, {"kite a 1 00001;", "error 1 9"}, {"kite a 0 0;", "1 kites"}, {"kite a 9 9;", "1 kites"},
                {"kite a 9999 1;", "error 2 7"}, {"kite a 10000 1;", "error 1 7"}, {"kite a /1 1;", "error 1 7"}, {"kite a 1/ 1;", "error 1 8"}, {"kite a :1 1;", "error 1 7"}, {"kite a 1: 1;", "error 1 8"},
                {"kite a \u00b1 1;", "error 1 7"}, {"kite a 1 \u00b1;", "error 1 9"}, {"wind 00000 1 1;", "error 1 5"}, {"wind 0 00009 1;", "error 1 7"}, {"wind 0 -00009 1;", "error 1 8"},
                {"sink 00004;", "error 1 5"}, {"kite a 1 1 out 00004;", "error 1 15"}, {"kite a 1.5 1;", "error 1 8"}});
            is("zeros ahead", numbers(field("kite a 0010 0108 sharp 09 tough 0099 out 0400;"), 0), "1 10 108 0 10 108 400 0 9 99 0 0 -1 -1");
        });
        says("Spaces (byte 32) and line feeds (byte 10) may stand between tokens.", () -> {
            texts(new String[][] {{" ", "0 kites"}, {"\n", "0 kites"}, {" \n \n", "0 kites"}, {"\nkite\na\n1\n1\n;\n", "1 kites"}, {"  kite  a  1  1  ;  ", "1 kites"}, {"kite a 1 1;\n", "1 kites"},
                {"kite a1 1;", "1 kites"}, {"ki te a 1 1;", "error 1 0"}, {"kite a 1 9 9;", "error 1 11"}, {"kite a b 1 1;", "error 1 7"}, {"kite a11;", "error 1 8"}});
            for (int other : new int[] {0, 9, 11, 12, 13, 31, 33, 160, 138}) {
                is("byte " + other, parsed("slack" + (char) other + "1;"), "error 1 5");
                is("byte " + other + " at the end", parsed("slack 1;" + (char) other), "error 1 8");
                is("byte " + other + " at the begin", parsed((char) other + "slack 1;"), "error 1 0");
            }
        });
    }

    private static void offsets() {
        says("An error has a code and an offset, which is the index of the first byte of the token at fault, or the length of the text if more is required.", () -> {
            texts(new String[][] {{"  x", "error 1 2"}, {"slack  \n 100;", "error 2 9"}, {"kite a 1 1;\n kite   a", "error 3 20"}, {"kite", "error 1 4"}, {"kite ", "error 1 5"}, {"kite \n\n", "error 1 7"},
                {"kite a", "error 1 6"}, {"kite a 1", "error 1 8"}, {"kite a 1 1", "error 1 10"}, {"kite a 1 1 ", "error 1 11"}, {"kite a 1 1 sharp", "error 1 16"}, {"kite a 1 1 sharp 1", "error 1 18"},
                {"kite a 1 1 tough", "error 1 16"}, {"kite a 1 1 out", "error 1 14"}, {"wind", "error 1 4"}, {"wind 0", "error 1 6"}, {"wind 0 -", "error 1 8"}, {"wind 0 1", "error 1 8"},
                {"wind 0 1 -", "error 1 10"}, {"wind 0 1 1", "error 1 10"}, {"slack", "error 1 5"}, {"slack 1", "error 1 7"}, {"slack 1\n", "error 1 8"}});
        });
        says("The first error from the left is reported;", () -> texts(new String[][] {{"kite a 200 200;", "error 2 7"}, {"kite a 1 200 ?", "error 2 9"}, {"? kite a 200", "error 1 0"},
            {"kite a 1 1;kite a 200 1;", "error 3 16"}, {"kite a 1 1;kite b 200 1;kite a", "error 2 18"}, {"sink 0;sink 0;", "error 2 5"}, {"sink 1;sink 0;", "error 3 7"}, {"wind 9 10 10;", "error 2 5"},
            {"wind 0 10 10;", "error 2 7"}, {"wind 0 1 10 ?", "error 2 9"}, {TEN + "kite ?", "error 4 150"}, {"kite a 1 1 sharp 10 tough 0;", "error 2 17"}}));
        says("if several codes apply to a token, the smallest one.", () -> texts(new String[][] {
            // too many digits and out of range
            {"sink 99999;", "error 1 5"}, {"sink 00000;", "error 1 5"}, {"wind 10000 1 1;", "error 1 5"}, {"kite a 1 1 out 10000;", "error 1 15"},
            // a word that cannot stand there, and was told, or is one too many
            {"slack 1 slack 2;", "error 1 8"}, {"slack 1;rise slack;", "error 1 13"}, {"kite a 1 1;kite b a;", "error 1 18"}, {"kite a 1 1;kite b 1 1 a;", "error 1 22"},
            {TEN.substring(0, 149) + " kite k 1 1;", "error 1 150"}, {TEN + "slack kite;", "error 1 156"}, {"wind 0 1 1;wind 1 1 1;wind 2 1 1;wind 3 1 1 wind 4 1 1;", "error 1 44"},
            {"slack 1;kite slack 1 1;", "error 1 13"}}));
    }

    private static void codes() {
        says("1: a token that cannot stand there (also a quoted word for a name), a name that is too long, a number of more than 4 digits, or a byte that is no token.", () -> {
            texts(new String[][] {{"kite a ;", "error 1 7"}, {"kite a b;", "error 1 7"}, {"kite pick 1 1;", "error 1 5"}, {"kite abcdefg 1 1;", "error 1 5"}, {"kite a 12345 1;", "error 1 7"},
                {"kite a 1 1;#", "error 1 11"}, {"#", "error 1 0"}, {"slack #", "error 1 6"}});
            for (int other = 0; other < 256; other++) {
                boolean token = other == ' ' || other == '\n' || other == ';' || other == '-' || other >= 'a' && other <= 'z' || other >= '0' && other <= '9';
                if (!token) is("byte " + other, parsed("rise 1" + (char) other + ";"), "error 1 6");
            }
        });
        says("2: a number that is out of its range (of S at the number); the lowest height of a wind that is not allowed there.", () -> texts(new String[][] {{"kite a 200 1;", "error 2 7"},
            {"wind 0 10 1;", "error 2 7"}, {"wind 0 -10 1;", "error 2 8"}, {"wind 0 -  10 1;", "error 2 10"}, {"wind 0 1 10;", "error 2 9"}, {"wind 0 1 -10;", "error 2 10"}, {"wind 0 9 - 9;", "0 kites"},
            {"wind 0 9999 1;", "error 2 7"}, {"wind 1 1 1;", "error 2 5"}, {"wind 0 1 1;wind 0 1 1;", "error 2 16"}, {"pick 51;", "error 2 5"}}));
        says("3: a name told again; the first word of a second statement from \"slack\" to \"pick\".", () -> {
            texts(new String[][] {{"kite a 1 1;slack 1;kite a 1 1;", "error 3 24"}});
            for (String setting : SETTINGS) {
                texts(new String[][] {{setting + " 1;" + setting + " 1;", "error 3 " + (setting.length() + 3)}, {setting + " 1;kite a 1 1;" + setting, "error 3 " + (setting.length() + 14)}});
            }
            String each = "pick 1;reach 1;sink 1;climb 1;rise 1;slack 1;";
            is("each once in any order", parsed(each), "0 kites");
            for (String setting : SETTINGS) is("each, then " + setting, parsed(each + setting), "error 3 " + each.length());
            is("one more told behind a text that told it", all(Checks.parse(field(each), each)), "0");
        });
        says("4: the first word of an 11th kite or of a 5th wind.", () -> texts(new String[][] {{TEN, "10 kites"}, {TEN + "kite", "error 4 150"}, {TEN + " \nkite k 1 1;", "error 4 152"},
            {TEN + "wind 0 1 1;slack 1;", "10 kites"}, {"wind 0 1 1;wind 1 1 1;wind 2 1 1;wind 3 1 1;", "0 kites"}, {"wind 0 1 1;wind 1 1 1;wind 2 1 1;wind 3 1 1;wind", "error 4 44"},
            {"wind 0 1 1;wind 1 1 1;wind 2 1 1;wind 3 1 1;kite a 1 1;wind 4 1 1;", "error 4 55"}}));
    }
}

/** Sentences that name boundary cases of promises 9 to 12: feed, end, text, fault. */
final class TextBounds extends Bounds {
    private static final String[] LINE = {"weep 1;", "traveller 0 with 1;", "at 0 open 0;", "road 0 1 dry 0 wet 0;"};
    private static final String WORDS = "weep rate find when or and not cause grip wet coin hour gate nose soft tired kin "
            + "traveller with at send to open close move joke onion road dry";
    private static final String DEEDS = " send open close move joke onion ";
    private static final String ASKED = " cause grip wet coin hour gate nose soft tired kin ";
    private static final String[] WORD = {"find", "traveller", "at", "road"};

    private TextBounds() {
    }

    static void all() {
        feed();
        end();
        text();
        lines();
        numbers();
        numbersOfRows();
        tokens();
        faults();
        depth();
        grammar();
        fault();
    }

    /** Three travellers, two officers. */
    private static TearCustoms people() {
        TearCustoms x = new TearCustoms();
        for (int t = 0; t < 3; t++) {
            x.traveller(0, 0, 0);
        }
        x.officer(0, 0, 0);
        x.officer(0, 0, 0);
        return x;
    }

    private static void fine(int k, String text, int lines) {
        Check.fine(people(), k, text, lines);
    }

    private static void faulty(int k, String text, int fault, int place) {
        Check.faulty(people(), k, text, fault, place);
    }

    private static void feed() {
        holds(9, "Twenty bytes come behind the TAPE, of each number the highest first: how many it has.", x -> {
            is("the first twenty", x.feed(0x77656570, 0x20313b72, 0x61746520, 0x323b6669, 0x6e642033), 20);
            is("behind them", x.feed(0x3b776565, 0x7020343b, 0x20202020, 0x0a0a0a0a, 0x72617465), 40);
            is("all but the last word", x.end(36), true);
            is("four lines", x.text(0), 4);
            is("bytes of numbers below 0", x.feed(0x77656570, 0x20313b20, 0x20202020, 0x2020ff20, -1), 20);
            is("a fault", x.text(0), NONE);
            is("its place", x.fault(1), 14);
            is("the highest byte with its sign", x.feed(0x20202020, 0x80000000, 0, 0, 0), 20);
            is("a fault", x.text(0), NONE);
            is("its place", x.fault(1), 4);
        });
        holds(9, "NONE, and nothing comes, if there would be more than 400.", x -> {
            for (int i = 1; i <= 20; i++) {
                is("feed", x.feed(0x20202020, 0x20202020, 0x20202020, 0x20202020, 0x20202020), 20 * i);
            }
            is("420", x.feed(0, 0, 0, 0, 0), NONE);
            is("none came", x.end(401), false);
            is("all are there", x.end(400), true);
            is("381 stay", x.end(381), true);
            is("401", x.feed(0, 0, 0, 0, 0), NONE);
            is("none came", x.end(382), false);
            is("blanks as before", x.text(0), 0);
            is("a new one", x.feed(0, 0, 0, 0, 0), 20);
        });
        holds(9, "more than 400", x -> {
            for (int i = 1; i <= 20; i++) {
                x.feed(0x20202020, 0x20202020, 0x20202020, 0x20202020, 0x20202020);
            }
            is("380 stay", x.end(380), true);
            is("just 400", x.feed(0x20202020, 0x20202020, 0x20202020, 0x20202020, 0x2020203b), 400);
            is("a fault at the last byte", x.text(0), NONE);
            is("its place", x.fault(1), 399);
        });
    }

    private static void end() {
        holds(10, "The TAPE has its first n bytes alone: true;", x -> {
            Check.tape(x, "weep 1;rate 2;find 3");
            is("as many as it has", x.end(20), true);
            is("14", x.end(14), true);
            is("two lines", x.text(0), 2);
            Check.tape(x, "weep 1;rate 2;find 3");
            is("one byte", x.end(1), true);
            is("what is behind it is gone", x.end(2), false);
            is("none", x.end(0), true);
            is("none again", x.end(0), true);
            is("it is empty", x.end(1), false);
            is("an empty text", x.text(0), 0);
        });
        holds(10, "false, changing nothing, if it has not so many, or n is below 0.", x -> {
            for (int n : new int[] {1, -1, LEAST, MOST}) {
                is("end(" + n + ") of an empty one", x.end(n), false);
            }
            x.feed(0x77656570, 0x20313b20, 0x20202020, 0x20202020, 0x2020203b);
            for (int n : new int[] {21, -1, 400, LEAST, MOST}) {
                is("end(" + n + ")", x.end(n), false);
            }
            is("twenty are there", x.end(20), true);
            is("and as they were", x.text(0), NONE);
            is("to the last", x.fault(1), 19);
        });
    }

    private static void text() {
        holds(11, "NONE: no such one (fault() tells 0)", x -> {
            Seen.fill(x);
            unchanged(x, () -> {
                for (int k : new int[] {-1, 4, LEAST, MOST}) {
                    Check.tape(x, "weep 1;");
                    is("text(" + k + ")", x.text(k), NONE);
                    is("fault(0)", x.fault(0), 0);
                    is("fault(1)", x.fault(1), NONE);
                }
            });
            is("a fault", Check.tell(x, 0, "weep"), NONE);
            is("fault(0)", x.fault(0), 1);
            is("no such one", x.text(4), NONE);
            is("fault(0)", x.fault(0), 0);
            is("fault(1)", x.fault(1), NONE);
        });
        holds(11, "The TAPE, empty then, is TEXT k: how many lines.", x -> {
            for (int k = -1; k <= 4; k++) {
                TearCustoms y = people();
                Check.tape(y, k < 0 || k > 3 ? "weep 1;" : LINE[k]);
                is("text(" + k + ")", y.text(k), k < 0 || k > 3 ? NONE : 1);
                is("empty then", y.end(1), false);
                is("twenty come", y.feed(0, 0, 0, 0, 0), 20);
                is("a fault", y.text(k), NONE);
                is("empty then", y.end(1), false);
            }
        });
        holds(11, "or a FAULT (it stays as it was).", x -> {
            Seen.fill(x);
            unchanged(x, () -> {
                for (int k = 0; k < 4; k++) {
                    is("a fault behind a line", Check.tell(x, k, LINE[k] + LINE[k] + "+"), NONE);
                }
                x.text(4);
            });
        });
        holds(11, "`int text(int k)`: The TAPE, empty then, is TEXT k", x -> {
            x.traveller(0, 0, 0);
            for (int i = 0; i < 5; i++) {
                Check.fine(x, 0, "weep " + i + "+0".repeat(190) + ";", 1);
                is("a long law anew", x.of(0, 8), i);
                is("one line", x.look(10), 1);
            }
        });
        holds(11, "TEXTS (empty at first)", x -> {
            Seen.fill(x);
            for (int k = 0; k < 4; k++) {
                is("lines", x.look(10 + k) > 0, true);
                is("an empty tape", x.text(k), 0);
                is("lines", x.look(10 + k), 0);
                is("fault(0)", x.fault(0), 0);
                Check.fine(x, k, LINE[k], 1);
                Check.fine(x, k, " \n \n", 0);
                is("lines", x.look(10 + k), 0);
            }
            is("weep without a law", x.of(1, 8), 4);
            is("kin", x.of(0, 7), 0);
            is("no road", x.driest(0, 1, 9, 0), NONE);
        });
    }

    private static void lines() {
        holds(11, "16 lines of each at most.", x -> {
            for (int k = 0; k < 4; k++) {
                fine(k, LINE[k].repeat(15), 15);
                TearCustoms y = people();
                Check.fine(y, k, LINE[k].repeat(16), 16);
                is("lines", y.look(10 + k), 16);
                Check.fine(y, k, LINE[k] + " ", 1);
                is("lines", y.look(10 + k), 1);
            }
        });
        holds(11, "3 (at its KEYWORD) the 17th line of a text;", x -> {
            for (int k = 0; k < 4; k++) {
                String full = LINE[k].repeat(16);
                faulty(k, full + LINE[k], 3, full.length());
                faulty(k, full + " \n" + WORD[k], 3, full.length() + 2);
                faulty(k, full + WORD[k] + " +", 3, full.length());
            }
            TearCustoms y = people();
            Check.fine(y, 0, LINE[0].repeat(16), 16);
            Check.faulty(y, 0, "rate 1;".repeat(17), 3, 112);
            is("the sixteen stay", y.look(10), 16);
            is("as they were", y.of(0, 8), 1);
        });
        holds(11, "at one place the least", x -> {
            for (int k = 0; k < 4; k++) {
                String full = LINE[k].repeat(16);
                faulty(k, full + "x", 1, full.length());
                faulty(k, full + ";", 1, full.length());
                faulty(k, full + "1", 1, full.length());
                faulty(k, full + WORD[(k + 1) % 4], 1, full.length());
            }
            faulty(0, "weep 1 when ((((((((1(", 1, 21);
            faulty(0, "weep 1 when ((((((((1 not", 1, 22);
            faulty(1, "traveller 00003 with 0;", 1, 10);
            faulty(2, "at 10000 open 0;", 1, 3);
            faulty(3, "road 0 1 dry 00100 wet 0;", 1, 13);
            faulty(0, "weep 7/00000;", 1, 7);
        });
    }

    private static void numbers() {
        holds(11, "digits as many as stand together NUMBERS of 1 to 4 digits or none", x -> {
            TearCustoms y = people();
            Check.fine(y, 0, "find 7;", 1);
            is("one digit", y.of(0, 20), 7);
            Check.fine(y, 0, "find 0007;", 1);
            is("four digits", y.of(0, 20), 7);
            Check.fine(y, 0, "find 9999-9000;", 1);
            is("the greatest", y.of(0, 20), 999);
            Check.fine(y, 0, "find 0;", 1);
            is("the least", y.of(0, 20), 0);
            Check.faulty(y, 0, "find 10000;", 1, 5);
            Check.faulty(y, 0, "find 00000;", 1, 5);
            Check.faulty(y, 0, "find 4294967297;", 1, 5);
            Check.faulty(y, 0, "find 99999999999999999999;", 1, 5);
            Check.faulty(y, 0, "find 1 2;", 1, 7);
            is("stays", y.of(0, 20), 0);
        });
        holds(11, "2 (at the NUMBER) a part by 0;", x -> {
            faulty(0, "weep 7/0;", 2, 7);
            faulty(0, "weep 7/ 00;", 2, 8);
            faulty(0, "weep 7*3/0000", 2, 9);
            faulty(0, "weep 1 when 1=1/0;", 2, 16);
            faulty(0, "weep 7/1/0;", 2, 9);
            fine(0, "weep 7/1;", 1);
            fine(0, "weep 0/9999*0;", 1);
        });
        holds(11, "a TRAVELLER, an OFFICER that there is not;", x -> {
            Check.faulty(x, 1, "traveller 0 with 1;", 2, 10);
            Check.faulty(x, 2, "at 0 joke 0;", 2, 10);
            Check.faulty(x, 2, "at 0 move 0 to 0;", 2, 10);
            fine(1, "traveller 2 with 0; traveller 0 with 2;", 2);
            faulty(1, "traveller 3 with 0;", 2, 10);
            faulty(1, "traveller 0 with 3;", 2, 17);
            faulty(1, "traveller 9999 with 3;", 2, 10);
            fine(2, "at 0 send 2 to 0; at 0 joke 2; at 0 onion 2; at 0 move 1 to 0;", 4);
            faulty(2, "at 0 send 3 to 0;", 2, 10);
            faulty(2, "at 0 joke 3;", 2, 10);
            faulty(2, "at 0 onion 3;", 2, 11);
            faulty(2, "at 0 move 2 to 0;", 2, 10);
        });
        holds(11, "the same TRAVELLER, PLACE again (of KIN, ROADS).", x -> {
            faulty(1, "traveller 0 with 0;", 2, 17);
            faulty(1, "traveller 2 with 0002;", 2, 17);
            faulty(3, "road 0 0 dry 0 wet 0;", 2, 7);
            faulty(3, "road 9 09 dry 0 wet 0;", 2, 7);
            fine(1, "traveller 0 with 1; traveller 0 with 1; traveller 1 with 0;", 3);
            fine(3, "road 0 1 dry 0 wet 0; road 0 1 dry 0 wet 0; road 1 0 dry 1 wet 1;", 3);
        });
    }

    private static void numbersOfRows() {
        holds(11, "one beyond its bounds;", x -> {
            faulty(2, "at 1000 open 0;", 2, 3);
            faulty(2, "at 9999 open 0;", 2, 3);
            for (String deed : new String[] {"open ", "close ", "send 0 to ", "move 0 to "}) {
                int place = 5 + deed.length();
                fine(2, "at 0 " + deed + "0; at 0 " + deed + "3;", 2);
                faulty(2, "at 0 " + deed + "4;", 2, place);
                faulty(2, "at 0 " + deed + "9999;", 2, place);
            }
            faulty(3, "road 10 0 dry 0 wet 0;", 2, 5);
            faulty(3, "road 0 10 dry 0 wet 0;", 2, 7);
            faulty(3, "road 0 1 dry 100 wet 0;", 2, 13);
            faulty(3, "road 0 1 dry 0 wet 100;", 2, 19);
        });
        holds(11, "(HOUR 0 .. 999.)", x -> {
            fine(2, "at 0 open 0; at 999 open 0; at 0999 open 0;", 3);
            faulty(2, "at 1000 open 0;", 2, 3);
        });
        holds(11, "(PLACES 0 .. 9, one way; unlike; 0 .. 99 each;", x -> {
            TearCustoms y = people();
            Check.fine(y, 3, "road 0 9 dry 0 wet 99; road 9 0 dry 99 wet 0;", 2);
            is("there", y.driest(0, 9, 0, 0), 99);
            is("and back", y.driest(9, 0, 99, 0), 0);
            Check.fine(y, 3, "road 9 0 dry 99 wet 99;", 1);
            is("one way", y.driest(0, 9, 0, 0), NONE);
            is("both", y.driest(9, 0, 99, 0), 99);
            Check.faulty(y, 3, "road 3 3 dry 1 wet 1;", 2, 7);
        });
        holds(11, "of several from one to another one the first line alone counts.)", x -> {
            Check.fine(x, 3, "road 0 1 dry 4 wet 0; road 1 0 dry 30 wet 0; road 0 1 dry 99 wet 0;", 3);
            is("the first one's", x.driest(0, 1, 4, 0), 0);
            // 99, 95, 65, 61, 31, 27, 0.
            is("the first one's", x.driest(0, 1, 99, 1), 7);
            is("lines", x.look(13), 3);
            Check.fine(x, 3, "road 0 1 dry 50 wet 3; road 2 1 dry 50 wet 2; road 0 2 dry 50 wet 7; road 0 1 dry 50 wet 0;", 4);
            is("the first of its own two alone", x.driest(0, 1, 50, 0), 2);
            is("another road to the same place", x.driest(0, 1, 50, 1), 2);
            Check.fine(x, 3, "road 0 1 dry 0 wet 9; road 0 1 dry 0 wet 8; road 0 1 dry 0 wet 7;", 3);
            is("the first of three", x.driest(0, 1, 0, 0), 9);
        });
        holds(11, "(either way; unlike.)", x -> {
            TearCustoms y = people();
            Check.fine(y, 1, "traveller 0 with 2; traveller 2 with 0;", 2);
            is("kin of 0", y.of(0, 7), 4);
            is("kin of 1", y.of(1, 7), 0);
            is("kin of 2", y.of(2, 7), 1);
            Check.faulty(y, 1, "traveller 1 with 1;", 2, 17);
            is("kin of 1", y.of(1, 7), 0);
        });
    }

    private static void tokens() {
        holds(11, "letters as many as stand together are KEYWORDS (those told here for that text) or none;", x -> {
            faulty(0, "weeprate 1;", 1, 0);
            faulty(0, "wee 1;", 1, 0);
            faulty(0, "weep gripe;", 1, 5);
            faulty(0, "weep gri p;", 1, 5);
            faulty(0, "Weep 1;", 1, 0);
            faulty(0, "weep 1 whenever 1=1;", 1, 7);
            for (char c : new char[] {'a', 'z', 'A', 'Z'}) {
                faulty(0, "weep" + c + " 1;", 1, 0);
            }
            for (char c : new char[] {'@', '[', '`', '{', '_', '.'}) {
                faulty(0, "weep" + c + " 1;", 1, 4);
            }
            fine(0, "weep1when 1=1and 2=2or not 3=3;", 1);
            fine(1, "traveller0with1;", 1);
            fine(2, "at0send1to2;at7open3;", 2);
            fine(3, "road 0 1dry2wet3;", 1);
            for (int k = 0; k < 4; k++) {
                faulty(k, WORD[(k + 1) % 4] + " 1;", 1, 0);
                faulty(k, WORD[(k + 2) % 4] + " 1;", 1, 0);
                faulty(k, WORD[(k + 3) % 4] + " 1;", 1, 0);
            }
            faulty(0, "weep dry;", 1, 5);
            faulty(2, "at 0 weep 0;", 1, 5);
        });
        holds(11, "; + - * / ( ) < = > . Blanks (32, 10) between.", x -> {
            for (int c = 0; c < 256; c++) {
                String text = "weep 1" + (char) c;
                if (c == ';') {
                    fine(0, text, 1);
                } else {
                    boolean goesOn = c == ' ' || c == '\n' || c == '+' || c == '-' || c == '*' || c == '/' || c >= '0' && c <= '9';
                    faulty(0, text, 1, goesOn ? 7 : 6);
                }
                boolean comparison = c == '<' || c == '=' || c == '>';
                if (comparison) {
                    fine(0, "weep 1 when 1" + (char) c + "1;", 1);
                }
            }
        });
        holds(11, "Blanks (32, 10) between.", x -> {
            fine(0, " \n\n  weep \n 1 \n ; \n", 1);
            fine(0, "weep 1+1;", 1);
            for (int c : new int[] {0, 9, 11, 12, 13, 31, 33, 127, 128, 160, 255}) {
                faulty(0, "weep" + (char) c + "1;", 1, 4);
                faulty(0, "weep 1;" + (char) c, 1, 7);
            }
            faulty(1, "traveller 1 2 with 0;", 1, 12);
            fine(1, "traveller 1\nwith\n0\n;\n", 1);
        });
    }

    private static void faults() {
        holds(11, "FAULTS, the first by its place", x -> {
            faulty(0, "weep 1/0; rate +;", 2, 7);
            faulty(0, "rate +; weep 1/0;", 1, 5);
            faulty(1, "traveller 5 with;", 2, 10);
            faulty(2, "at 1000 send 9 to 9;", 2, 3);
            faulty(2, "at 999 send 9 to 9", 2, 12);
            faulty(3, "road 10 10 dry 100 wet 100;", 2, 5);
            faulty(3, "road 1 2 dry 100 wet", 2, 13);
            faulty(0, "weep 1/0;" + LINE[0].repeat(17), 2, 7);
            faulty(0, "weep 1 when (((((((((1/0", 3, 20);
        });
        holds(11, "1 what can't stand there (the end: the text's length).", x -> {
            for (int k = 0; k < 4; k++) {
                String line = LINE[k];
                faulty(k, ";", 1, 0);
                faulty(k, line + ";", 1, line.length());
                for (int length = 1; length < line.length(); length++) {
                    if (line.charAt(length) == ' ' || line.charAt(length) == ';') {
                        faulty(k, line.substring(0, length), 1, length);
                        faulty(k, line.substring(0, length) + "  \n", 1, length + 3);
                    }
                }
            }
            String full = "weep 1" + " ".repeat(394);
            faulty(0, full, 1, 400);
            fine(0, "weep 1" + " ".repeat(393) + ";", 1);
            faulty(0, ";".repeat(400), 1, 0);
            faulty(0, "weep 1" + "+1".repeat(197), 1, 400);
            fine(0, "weep 1" + "+1".repeat(196) + "; ", 1);
            faulty(0, "weep 1;" + " ".repeat(392) + "x", 1, 399);
        });
        holds(11, "what can't stand there", x -> {
            faulty(1, "traveller with 1;", 1, 10);
            faulty(1, "traveller 0 1;", 1, 12);
            faulty(1, "traveller 0 with with;", 1, 17);
            faulty(1, "traveller 0 with 1 traveller", 1, 19);
            faulty(2, "at open 0;", 1, 3);
            faulty(2, "at 0 0;", 1, 5);
            faulty(2, "at 0 send 0 1;", 1, 12);
            faulty(2, "at 0 send 0 to;", 1, 14);
            faulty(2, "at 0 joke 0 to 1;", 1, 12);
            faulty(2, "at 0 open 0 to 1;", 1, 12);
            faulty(2, "at 0 move 0;", 1, 11);
            faulty(3, "road 0 dry 0 wet 0;", 1, 7);
            faulty(3, "road 0 1 wet 0 dry 0;", 1, 9);
            faulty(3, "road 0 1 dry 0 0;", 1, 15);
            faulty(3, "road 0 1 dry 0 wet;", 1, 18);
        });
        holds(11, "(those told here for that text)", x -> {
            for (String word : WORDS.split(" ")) {
                faulty(1, "traveller 0 " + (word.equals("with") ? "dry" : word) + " 1;", 1, 12);
                if (!DEEDS.contains(" " + word + " ")) {
                    faulty(2, "at 0 " + word + " 0;", 1, 5);
                }
                faulty(2, "at 0 send 0 " + (word.equals("to") ? "with" : word) + " 0;", 1, 12);
                faulty(3, "road 0 1 " + (word.equals("dry") ? "to" : word) + " 0 wet 0;", 1, 9);
                faulty(3, "road 0 1 dry 0 " + (word.equals("wet") ? "to" : word) + " 0;", 1, 15);
                if (!ASKED.contains(" " + word + " ")) {
                    faulty(0, "weep " + word + ";", 1, 5);
                    faulty(0, "weep 1+" + word + ";", 1, 7);
                }
                if (!word.equals("weep") && !word.equals("rate") && !word.equals("find")) {
                    faulty(0, word + " 1;", 1, 0);
                }
            }
        });
    }

    private static void depth() {
        holds(11, "(at it) the 9th ( or not that is open.", x -> {
            fine(0, "weep 1 when " + "(".repeat(8) + "1=1" + ")".repeat(8) + ";", 1);
            faulty(0, "weep 1 when " + "(".repeat(9) + "1=1" + ")".repeat(9) + ";", 3, 20);
            fine(0, "weep 1 when " + "not ".repeat(8) + "1=1;", 1);
            faulty(0, "weep 1 when " + "not ".repeat(9) + "1=1;", 3, 44);
            fine(0, "weep 1 when " + "not (".repeat(4) + "1=1" + ")".repeat(4) + ";", 1);
            faulty(0, "weep 1 when " + "not (".repeat(4) + "not 1=1" + ")".repeat(4) + ";", 3, 32);
            faulty(0, "weep 1 when " + "(not ".repeat(4) + "(1=1)" + ")".repeat(4) + ";", 3, 32);
        });
        holds(11, "that is open", x -> {
            String eight = "(".repeat(8) + "1=1" + ")".repeat(8);
            fine(0, "weep 1 when " + eight + " and " + eight + " or " + eight + ";", 1);
            String nots = "not ".repeat(8) + "1=1";
            fine(0, "weep 1 when " + nots + " or " + nots + " and " + eight + ";", 1);
            fine(0, "weep 1 when ((((((((1=1) and (1=1)) and not 1=1)))))) and not (1=1);", 1);
            String seven = "weep 1 when (((((((1=1 and ";
            fine(0, seven + "(1=1) or not 2=2)))))));", 1);
            faulty(0, seven + "((1=1)))))))));", 3, seven.length() + 1);
            faulty(0, seven + "not not 1=1)))))));", 3, seven.length() + 4);
        });
    }

    private static void grammar() {
        holds(11, "{(weep | rate | find) E [when B] ;}", x -> {
            faulty(0, "weep;", 1, 4);
            faulty(0, "weep when 1=1;", 1, 5);
            faulty(0, "weep 1 when;", 1, 11);
            faulty(0, "weep 1 when 1=1 when 1=1;", 1, 16);
            faulty(0, "weep 1 1=1;", 1, 7);
            faulty(0, "weep 1 weep 1;", 1, 7);
            fine(0, "weep 1;rate 1;find 1;", 3);
        });
        holds(11, "B = A {or A}.  A = C {and C}.  C = E (< | = | >) E | not C | ( B ).", x -> {
            faulty(0, "weep 1 when or 1=1;", 1, 12);
            faulty(0, "weep 1 when 1=1 or;", 1, 18);
            faulty(0, "weep 1 when 1=1 and;", 1, 19);
            faulty(0, "weep 1 when 1=1 and or 1=1;", 1, 20);
            faulty(0, "weep 1 when 1;", 1, 13);
            faulty(0, "weep 1 when =1;", 1, 12);
            faulty(0, "weep 1 when 1=;", 1, 14);
            faulty(0, "weep 1 when 1=1=1;", 1, 15);
            faulty(0, "weep 1 when not;", 1, 15);
            faulty(0, "weep 1 when ();", 1, 13);
            faulty(0, "weep 1 when (1=1;", 1, 16);
            faulty(0, "weep 1 when 1=1);", 1, 15);
            faulty(0, "weep 1 when (1+1)=2;", 1, 16);
        });
        holds(11, "E = T {(+ | -) T}.  T = U {* U | / NUMBER}.", x -> {
            faulty(0, "weep +1;", 1, 5);
            faulty(0, "weep -1;", 1, 5);
            faulty(0, "weep 1+;", 1, 7);
            faulty(0, "weep 1-;", 1, 7);
            faulty(0, "weep 1*;", 1, 7);
            faulty(0, "weep 1/;", 1, 7);
            faulty(0, "weep 1/wet;", 1, 7);
            faulty(0, "weep 1++1;", 1, 7);
            faulty(0, "weep (1);", 1, 5);
            faulty(0, "weep weep;", 1, 5);
            fine(0, "weep 1" + "*wet".repeat(97) + "/1+1;", 1);
        });
    }

    private static void fault() {
        holds(12, "Of the latest text() what 0 the FAULT (0 without one), 1 its place (NONE).", x -> {
            is("before any text", x.fault(0), 0);
            is("before any text", x.fault(1), NONE);
            Check.faulty(x, 0, "x", 1, 0);
            Check.faulty(x, 0, "weep 1/0;", 2, 7);
            Check.faulty(x, 0, "weep 1;".repeat(17), 3, 112);
            x.feed(0, 0, 0, 0, 0);
            x.end(0);
            x.hours(1);
            x.undo();
            is("other calls leave it", x.fault(0), 3);
            is("other calls leave it", x.fault(1), 112);
            Check.fine(x, 3, "", 0);
            Check.faulty(x, 1, "traveller", 1, 9);
            Check.fine(x, 0, "weep 1;", 1);
            Check.faulty(x, 2, "at", 1, 2);
            is("no such text", x.text(-1), NONE);
            is("0 without one", x.fault(0), 0);
            is("NONE", x.fault(1), NONE);
        });
        holds(12, "NONE for another what.", x -> {
            Check.faulty(x, 0, "weep 1/0;", 2, 7);
            for (int what : new int[] {-1, 2, LEAST, MOST}) {
                is("fault(" + what + ")", x.fault(what), NONE);
            }
            is("stays", x.fault(0), 2);
            is("stays", x.fault(1), 7);
        });
    }
}

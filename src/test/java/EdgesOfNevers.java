import java.util.List;

/** The tape, nevers and their faults, what is let, ways: "Terms" 3, promises 23 to 28. */
final class EdgesOfNevers extends Edge {
    private static final String[] SORTS = {"cup", "cloth", "box", "lid"};
    private static final String[] RELS = {"on", "in", "beside"};
    private static final List<String> TOKENS = List.of("never", "most", "cup", "cloth", "box", "lid", "on", "in",
            "beside", "at", "0", "7", "8", "9", "007", "008", "200", "201", "999", "0000", "1234", "12345678901234567890",
            ";", "#", "Z", "zzz", "nevers", "neve", "cupp", "cu", "-1", "+1", ",", ":");

    static void all() {
        feeds();
        bytesOfTokens();
        names();
        texts();
        numbersInTexts();
        sixteenAtMost();
        faultPlaces();
        readCalls();
        brokenOnes();
        loads();
        letMoves();
        letIntoBoxes();
        rowsOfWays();
        ticksOfWays();
        wayRefusals();
    }

    private static TableArms withBytes(int n) {
        TableArms x = new TableArms();
        for (int k = 0; k < n / 8; k++) {
            x.feed(0x2020202020202020L, 8);
        }
        if (n % 8 > 0) {
            x.feed(0x2020202020202020L, n % 8);
        }
        return x;
    }

    private static void feeds() {
        terms(3, "NEVERS, texts: THE TAPE has at most 300 bytes", () -> {
            TableArms x = withBytes(299);
            due(x.count(7), 299);
            due(x.feed(';', 1), 300);
            due(x.feed(32, 1), FULL);
            due(x.count(7), 300);
            due(x.nevers(), -1000100 - 299);
            due(x.count(7), 0);
            due(x.feed(32, 1), 1);
        });
        promise(23, "The lowest n bytes of w (1 to 8), the highest of them first, come behind the tape: how many it has.", () -> {
            String text = "most 0 0";
            for (int n = 1; n <= 8; n++) {
                TableArms x = new TableArms();
                for (int at = 0; at < 8; at += n) {
                    int many = Math.min(n, 8 - at);
                    long w = 0x3B3B3B3B3B3B3B3BL;
                    for (int k = 0; k < many; k++) {
                        w = w << 8 | text.charAt(at + k);
                    }
                    due(x.feed(w, many), at + many);
                }
                due(x.feed(0x203BL, 1), 9);
                due(x.nevers(), 1);
            }
        });
        promise(23, "the highest of them first", () -> {
            TableArms x = new TableArms();
            due(x.feed(0x6D6F73742030203BL, 8), 8);
            due(x.nevers(), -1000107);
            due(x.feed(0x6D6F737420302030L, 8), 8);
            due(x.feed(0x3BL << 8 | 0x20, 2), 10);
            due(x.nevers(), 1);
            due(x.feed(Long.MIN_VALUE, 8), 8);
            due(x.nevers(), -1000100);
            due(x.feed(-1L << 8 | 0x20, 1), 1);
            due(x.nevers(), 1);
        });
        promise(23, "BAD: n; FULL: none comes.", () -> {
            TableArms x = new TableArms();
            for (int n : new int[] {MIN, -1, 0, 9, 16, MAX}) {
                due(x.feed(0x20L, n), BAD);
            }
            due(x.count(7), 0);
        });
        promise(23, "FULL: none comes.", () -> {
            for (int n = 1; n <= 8; n++) {
                TableArms x = withBytes(301 - n);
                due(x.feed(0x2020202020202020L, n), FULL);
                due(x.count(7), 301 - n);
                due(x.nevers(), 0);
                TableArms y = withBytes(300 - n);
                due(y.feed(0x2020202020202020L, n), 300);
                due(y.feed(0x2020202020202020L, n), FULL);
            }
        });
    }

    /** Every byte between 'most' and '0 0;'. */
    private static void bytesOfTokens() {
        terms(3, "TOKENS: NAMES (letters a to z), NUMBERS (figures, 3 at most), SIGNS ; bytes 32 and 10 between.", () -> {
            for (int b = 0; b < 256; b++) {
                TableArms x = new TableArms();
                feedText(x, "most");
                x.feed(b, 1);
                int got = read(x, "0 0;");
                boolean letter = b >= 'a' && b <= 'z';
                boolean figure = b >= '0' && b <= '9';
                boolean blank = b == 32 || b == 10;
                dueOf("byte " + b, got, letter ? -1000100 : blank || b == '0' ? 1 : -1000104);
                dueOf("fault of byte " + b, x.fault(), blank || b == '0' ? 0 : figure ? 2 : 1);
            }
        });
        terms(3, "bytes 32 and 10 between", () -> {
            TableArms x = new TableArms();
            due(read(x, "  \n\n "), 0);
            due(read(x, "\nmost\n0\n0\n;\n"), 1);
            due(read(x, "  most   0     0  ;  "), 2);
            due(read(x, "most0 0;most1 1;never cup at7;"), 5);
            due(read(x, "most\t0 0;"), -1000104);
            due(read(x, "most\r0 0;"), -1000104);
            due(read(x, "most 00;"), -1000107);
            due(read(x, "nevercup at 0;"), -1000100);
            due(read(x, "never cupat 0;"), -1000106);
        });
        terms(3, "SIGNS ;", () -> {
            TableArms x = new TableArms();
            due(read(x, "most 0 0;most 0 0;"), 2);
            due(read(x, ";"), -1000100);
            due(read(x, "most 0 0;;"), -1000109);
            due(read(x, "most 0 0:"), -1000108);
            due(read(x, "most 0 0,"), -1000108);
            due(read(x, "most; 0 0"), -1000104);
        });
    }

    private static void names() {
        terms(3, "NAMES (letters a to z)", () -> {
            String[] wrong = {"Never cup at 0;", "NEVER cup at 0;", "neve cup at 0;", "nevers cup at 0;",
                "anever cup at 0;", "Most 0 0;", "mos 0 0;", "mosts 0 0;", "at 0;", "cup at 0;", "lid;"};
            for (String text : wrong) {
                TableArms x = new TableArms();
                dueOf(text, read(x, text), -1000100);
                due(x.fault(), 1);
            }
        });
        terms(3, "sort: 'cup' | 'cloth' | 'box' | 'lid', rel: 'on' | 'in' | 'beside'", () -> {
            for (String a : SORTS) {
                for (String rel : RELS) {
                    TableArms x = new TableArms();
                    StringBuilder text = new StringBuilder();
                    for (String b : SORTS) {
                        text.append("never ").append(a).append(' ').append(rel).append(' ').append(b).append(';');
                    }
                    dueOf(text.toString(), read(x, text.toString()), 4);
                }
            }
        });
    }

    private static void texts() {
        String all = "text: { 'never' sort rel sort ';' | 'most' NUMBER NUMBER ';' | 'never' sort 'at' NUMBER ';' }";
        terms(3, all, () -> {
            TableArms x = new TableArms();
            due(x.nevers(), 0);
            due(read(x, "never lid on box;"), 1);
            due(read(x, "most 7 200;"), 2);
            due(read(x, "never cloth at 7;"), 3);
            due(read(x, "never cup in box; most 0 0; never box at 0; never lid beside cup;"), 7);
            due(x.nevers(), 7);
            due(x.fault(), 0);
        });
        terms(3, all, () -> {
            dueWrongTokens("never", "cup", "on", "cloth", ";");
            dueWrongTokens("most", "3", "150", ";");
            dueWrongTokens("never", "lid", "at", "5", ";");
        });
        terms(3, "(the end: how many bytes there are)", () -> {
            dueEnds("never", "cup", "on", "cloth", ";");
            dueEnds("most", "3", "150", ";");
            dueEnds("never", "lid", "at", "5", ";");
            TableArms x = withBytes(292);
            feedText(x, "most 0 0");
            due(x.nevers(), -1000400);
            due(x.fault(), 1);
        });
    }

    private static boolean canStand(String[] form, int at, String token) {
        boolean number = token.matches("[0-9]{1,3}");
        boolean secondNumber = form[0].equals("most") && at == 2;
        return switch (form[at]) {
            case "never", "most" -> token.equals("never") || token.equals("most");
            case "cup", "cloth", "lid" -> List.of(SORTS).contains(token);
            case "on", "at" -> List.of(RELS).contains(token) || token.equals("at");
            case ";" -> token.equals(";");
            default -> number && Integer.parseInt(token) <= (secondNumber ? 200 : 7);
        };
    }

    /** At each place of a form each token that may not stand there. */
    private static void dueWrongTokens(String... form) {
        StringBuilder ahead = new StringBuilder();
        for (int at = 0; at < form.length; at++) {
            for (String token : TOKENS) {
                if (!canStand(form, at, token)) {
                    TableArms x = new TableArms();
                    String text = ahead + token + " ;";
                    boolean isNumber = token.matches("[0-9]{1,3}");
                    boolean wantsNumber = form[at].matches("[0-9]+");
                    dueOf(text, read(x, text), -1000100 - ahead.length());
                    dueOf("fault of " + text, x.fault(), isNumber && wantsNumber ? 2 : 1);
                    due(x.count(4), 0);
                }
            }
            ahead.append(form[at]).append(' ');
        }
    }

    private static void dueEnds(String... form) {
        StringBuilder ahead = new StringBuilder();
        for (int at = 0; at + 1 < form.length; at++) {
            ahead.append(at == 0 ? "" : " ").append(form[at]);
            for (String end : new String[] {"", " ", "\n\n "}) {
                TableArms x = new TableArms();
                String text = ahead + end;
                dueOf(text, read(x, text), -1000100 - text.length());
                due(x.fault(), 1);
            }
        }
    }

    private static void numbersInTexts() {
        terms(3, "NUMBERS (figures, 3 at most)", () -> {
            TableArms x = new TableArms();
            due(read(x, "most 0 0;most 00 00;most 000 000;most 007 200;"), 4);
            due(read(x, "most 0000 0;"), -1000105);
            due(x.fault(), 1);
            due(read(x, "most 0 0000;"), -1000107);
            due(x.fault(), 1);
            due(read(x, "never cup at 0007;"), -1000113);
            due(x.fault(), 1);
            due(x.count(4), 4);
        });
        terms(3, "'most': on a CELL so much weight at most (0 to 200; boxes with what is in them)", () -> {
            for (int cell = 0; cell < 10; cell++) {
                TableArms x = new TableArms();
                due(read(x, "most " + cell + " 1;"), cell < 8 ? 1 : -1000105);
                due(x.fault(), cell < 8 ? 0 : 2);
            }
            for (int weight : new int[] {0, 1, 99, 100, 199, 200, 201, 300, 999}) {
                TableArms x = new TableArms();
                due(read(x, "most 7 " + weight + ";"), weight <= 200 ? 1 : -1000107);
                due(x.fault(), weight <= 200 ? 0 : 2);
            }
        });
        terms(3, "'at': a CELL.", () -> {
            for (int cell : new int[] {0, 1, 2, 3, 4, 5, 6, 7, 8, 9, 10, 255, 256, 999}) {
                TableArms x = new TableArms();
                due(read(x, "never cup at " + cell + ";"), cell < 8 ? 1 : -1000113);
                due(x.fault(), cell < 8 ? 0 : 2);
            }
        });
        terms(3, "2 a NUMBER that is not as told", () -> {
            TableArms x = new TableArms();
            due(read(x, "most 8 201"), -1000105);
            due(x.fault(), 2);
            due(read(x, "most 7 201"), -1000107);
            due(x.fault(), 2);
            due(read(x, "most 999 #"), -1000105);
            due(x.fault(), 2);
        });
        terms(3, "of one TOKEN the least: 1 it cannot stand there, or is none", () -> {
            TableArms x = new TableArms();
            due(read(x, "999 cup;"), -1000100);
            due(x.fault(), 1);
            due(read(x, "never 999;"), -1000106);
            due(x.fault(), 1);
            due(read(x, "most 0 0 999;"), -1000109);
            due(x.fault(), 1);
            due(read(x, "most 9999 0;"), -1000105);
            due(x.fault(), 1);
        });
    }

    private static String times(int many, String text) {
        return text.repeat(many);
    }

    private static void sixteenAtMost() {
        terms(3, "They come behind those there are (16 together at most), when all is read.", () -> {
            for (int there = 0; there <= 16; there++) {
                TableArms x = new TableArms();
                due(read(x, times(there, "most 0 0;")), there);
                due(read(x, times(16 - there, "most 0 0;")), 16);
                due(x.nevers(), 16);
                due(read(x, "most 0 0;"), -1000100);
                due(x.fault(), 3);
                due(x.count(4), 16);
            }
        });
        terms(3, "when all is read", () -> {
            TableArms x = with(CUP, 5, 0);
            due(read(x, "most 0 0;"), 1);
            due(read(x, "most 0 1;most 0 2;most 0 3;most"), -1000131);
            due(x.count(4), 1);
            due(x.broken(), 1);
            due(read(x, "most 0 9;most 0 4;"), 3);
            due(x.broken(), 2);
        });
        terms(3, "3 the 17th (its first word).", () -> {
            TableArms x = new TableArms();
            due(read(x, times(16, "most 0 0;") + "  most 0 0;"), -1000100 - 146);
            due(x.fault(), 3);
            due(x.count(4), 0);
            due(read(x, times(16, "most 0 0;") + "never"), -1000100 - 144);
            due(x.fault(), 3);
            due(read(x, times(16, "most 0 0;") + " \n"), 16);
            due(read(x, "never # 999"), -1000100);
            due(x.fault(), 3);
        });
        terms(3, "FAULTS, the first TOKEN that has one (its first byte), of one TOKEN the least", () -> {
            TableArms x = new TableArms();
            due(read(x, times(16, "most 0 0;") + "nover"), -1000100 - 144);
            due(x.fault(), 1);
            due(read(x, times(15, "most 0 0;") + "most 0 201; most 0 0;"), -1000100 - 142);
            due(x.fault(), 2);
            due(read(x, times(16, "most 0 0;") + "most 0 201;"), -1000100 - 144);
            due(x.fault(), 3);
            due(read(x, times(16, "most 0 0;")), 16);
            due(read(x, "7"), -1000100);
            due(x.fault(), 1);
            due(read(x, ";"), -1000100);
            due(x.fault(), 1);
            due(read(x, "#"), -1000100);
            due(x.fault(), 1);
        });
    }

    private static void faultPlaces() {
        terms(3, "the first TOKEN that has one (its first byte)", () -> {
            TableArms x = new TableArms();
            due(read(x, "   nevr cup"), -1000103);
            due(read(x, "never   cupcup on"), -1000108);
            due(read(x, "never cup onto lid"), -1000110);
            due(read(x, "never cup on\n\n lidd;"), -1000115);
            due(read(x, "never cup on lid most"), -1000117);
            due(read(x, "most 12 0;"), -1000105);
            due(read(x, "most 1 2 3;"), -1000109);
            due(read(x, "most 9 9 9 # never"), -1000105);
            due(x.count(4), 0);
        });
        terms(3, "1 it cannot stand there, or is none", () -> {
            for (int blanks : new int[] {0, 1, 50, 298, 299}) {
                TableArms x = withBytes(blanks);
                x.feed('#', 1);
                due(x.nevers(), -1000100 - blanks);
                due(x.fault(), 1);
                due(x.count(7), 0);
            }
        });
    }

    private static void readCalls() {
        promise(24, "The tape, empty then, is read: how many NEVERS there are.", () -> {
            TableArms x = new TableArms();
            due(x.nevers(), 0);
            feedText(x, "most 0 0;");
            due(x.count(7), 9);
            due(x.count(4), 0);
            due(x.nevers(), 1);
            due(x.count(7), 0);
            due(x.nevers(), 1);
            due(x.count(4), 1);
        });
        promise(24, "-1000100 less the place of a FAULT: none comes.", () -> {
            TableArms x = new TableArms();
            due(read(x, "most 0 0;never"), -1000114);
            due(x.count(4), 0);
            due(x.count(7), 0);
            due(x.nevers(), 0);
            due(read(x, "most 0 0;"), 1);
        });
        promise(25, "The number of the latest FAULT; 0 before one.", () -> {
            TableArms x = new TableArms();
            due(x.fault(), 0);
            read(x, "most 0 0;");
            due(x.fault(), 0);
            read(x, "most 8 0;");
            due(x.fault(), 2);
            due(x.fault(), 2);
            read(x, "most 0 0;");
            due(x.fault(), 2);
            read(x, "most");
            due(x.fault(), 1);
            read(x, times(17, "most 0 0;"));
            due(x.fault(), 3);
            x.nevers();
            due(x.fault(), 3);
        });
    }

    private static int brokenBy(TableArms x, String text) {
        int before = x.broken();
        read(x, text);
        return x.broken() - before;
    }

    private static void brokenOnes() {
        terms(3, "BROKEN on a TABLE: how many of them do not hold", () -> {
            TableArms x = with(CUP, 5, 0);
            due(x.broken(), 0);
            for (int k = 1; k <= 16; k++) {
                due(read(x, "most 0 4;"), k);
                due(x.broken(), k);
            }
            x.move(0, 0, 1);
            due(x.broken(), 0);
        });
        terms(3, "'never a rel b': some THING of SORT a is AS TOLD", () -> {
            TableArms x = with(LID, 1, 0, CUP, 1, 0, CLOTH, 1, 1, CUP, 1, 6);
            due(brokenBy(x, "never cup on lid;"), 1);
            due(brokenBy(x, "never cup on cloth;"), 0);
            due(brokenBy(x, "never lid on cup;"), 0);
            due(brokenBy(x, "never lid beside cloth;"), 1);
            due(brokenBy(x, "never cup beside cloth;"), 0);
            due(brokenBy(x, "never cloth beside cup;"), 1);
            due(brokenBy(x, "never cup in box;"), 0);
            due(brokenBy(x, "never box in box;never box on box;never box beside box;"), 0);
        });
        terms(3, "'never a at': a THING of SORT a is in the PILE there.", () -> {
            TableArms x = with(BOX, 1, 3, CUP, 1, 4, LID, 1, 4, CLOTH, 1, 4);
            due(brokenBy(x, "never cup at 4;"), 1);
            due(brokenBy(x, "never lid at 4;"), 1);
            due(brokenBy(x, "never cloth at 4;"), 1);
            due(brokenBy(x, "never box at 4;"), 0);
            due(brokenBy(x, "never box at 3;"), 1);
            due(brokenBy(x, "never cloth at 3;"), 0);
            x.move(0, 3, 8);
            due(brokenBy(x, "never cloth at 3;"), 0);
            due(x.broken(), 3);
        });
        promise(26, "BROKEN on THE TABLE.", () -> {
            TableArms x = with(CUP, 1, 0);
            due(x.broken(), 0);
            read(x, "never cup at 0;never cup at 7;");
            due(x.broken(), 1);
            x.keep();
            x.move(0, 0, 3);
            due(x.broken(), 0);
            x.back(0);
            due(x.broken(), 1);
        });
    }

    private static void loads() {
        terms(3, "'most': the weight of all in the PILE there, and in BOXES of it, is more", () -> {
            TableArms x = with(BOX, 7, 1, CUP, 5, 0, LID, 2, 6);
            due(brokenBy(x, "most 1 7;"), 0);
            due(brokenBy(x, "most 1 6;"), 1);
            x.move(0, 1, 8);
            due(x.broken(), 2);
            due(brokenBy(x, "most 1 12;"), 0);
            due(brokenBy(x, "most 1 11;"), 1);
            due(brokenBy(x, "most 0 0;"), 0);
            x.move(0, 2, 1);
            due(brokenBy(x, "most 1 14;"), 0);
            due(brokenBy(x, "most 1 13;"), 1);
            due(brokenBy(x, "most 2 0;most 5 0;most 0 0;"), 0);
        });
        terms(3, "(0 to 200; boxes with what is in them)", () -> {
            TableArms x = new TableArms();
            for (int k = 0; k < 6; k++) {
                x.thing(k % 2 == 0 ? CUP : BOX, 20, 7);
            }
            due(brokenBy(x, "most 7 120;"), 0);
            due(brokenBy(x, "most 7 119;"), 1);
            due(brokenBy(x, "most 7 200;"), 0);
            due(brokenBy(x, "most 7 0;"), 1);
            due(brokenBy(x, "most 6 0;"), 0);
        });
    }

    private static void letMoves() {
        terms(3, "A MOVE to a CELL is LET, if THE TABLE behind it is SAFE, and so is each behind which the THING SLIPS", () -> {
            for (int wrong = 0; wrong < 8; wrong++) {
                for (int to = 0; to < 8; to++) {
                    TableArms x = with(CUP, 1, 7 - to);
                    read(x, "never cup at " + wrong + ";");
                    dueOf("let to " + to + ", never at " + wrong, x.let(0, 0, to), to == wrong || neighbours(to, wrong) ? 0 : 1);
                }
            }
        });
        terms(3, "SAFE: none is BROKEN.", () -> {
            TableArms x = with(CUP, 1, 0, BOX, 1, 3);
            read(x, "never cup at 0;");
            due(x.broken(), 1);
            due(x.let(0, 0, 7), 1);
            due(x.let(0, 0, 4), 0);
            due(x.let(0, 1, 7), 0);
            read(x, "never box at 6;");
            due(x.let(0, 0, 7), 1);
            x.move(0, 0, 5);
            due(x.let(0, 1, 7), 0);
            due(x.let(0, 1, 0), 1);
        });
        terms(3, "it comes to the top of a NEIGHBOUR of that CELL instead (each of them).", () -> {
            TableArms x = with(CUP, 5, 7, CLOTH, 1, 1, LID, 1, 1, BOX, 9, 4);
            due(x.let(0, 0, 0), 1);
            read(x, "never cup on cloth;");
            due(x.let(0, 0, 0), 1);
            read(x, "most 1 6;");
            due(x.let(0, 0, 0), 0);
            due(x.let(0, 0, 5), 0);
            due(x.let(0, 0, 4), 1);
            read(x, "never cup on box;");
            due(x.let(0, 0, 4), 0);
            due(x.let(0, 0, 3), 1);
        });
        terms(3, "it comes to the top of a NEIGHBOUR of that CELL instead", () -> {
            // It slips where no arm reaches, and back to where it was, on the box that it was in, too.
            TableArms x = with(CUP, 1, 0, BOX, 1, 5);
            read(x, "never cup at 1;never cup on box;");
            x.reach(0, 1 << 0 | 1 << 2);
            due(x.let(0, 0, 2), 0);
            due(x.let(0, 0, 0), 0);
            x.reach(0, 255);
            due(x.let(0, 0, 7), 1);
            due(x.let(0, 0, 6), 0);
            x.move(0, 0, 9);
            due(x.let(0, 0, 4), 0);
            due(x.let(0, 0, 5), 0);
            due(x.let(0, 0, 7), 1);
            dueIn(x, 0, 1);
        });
        promise(27, "Whether a MOVE is LET (by an ARM that can do it): 1, 0.", () -> {
            TableArms x = with(CUP, 1, 0, LID, 1, 0);
            x.keep();
            due(x.let(0, 1, 7), 1);
            due(x.let(1, 1, 0), 1);
            read(x, "never lid at 6;");
            due(x.let(0, 1, 7), 0);
            due(x.let(1, 1, 0), 1);
            due(x.same(0, NONE), 1);
        });
        promise(27, "BAD, STATE as of move().", () -> {
            int[] arms = {MIN, -1, 0, 1, 2, MAX};
            int[] things = {MIN, -1, 0, 1, 2, 3, 4, 5, 6, MAX};
            int[] tos = {MIN, -1, 0, 1, 2, 3, 4, 5, 6, 7, 8, 9, 10, 11, 12, 13, 14, MAX};
            for (int arm : arms) {
                for (int thing : things) {
                    TableArms x = crowded();
                    for (int to : tos) {
                        int let = x.let(arm, thing, to);
                        int moved = crowded().move(arm, thing, to);
                        dueOf("let(" + arm + ", " + thing + ", " + to + ")", let, moved);
                    }
                }
            }
        });
    }

    /** A cup in a box, a covered cloth, a shut box; arm 1 does not reach all. Nothing is forbidden. */
    private static TableArms crowded() {
        TableArms x = with(CUP, 1, 0, BOX, 1, 1, CLOTH, 1, 2, BOX, 1, 2, LID, 1, 6);
        x.move(0, 0, 9);
        x.move(0, 4, 2);
        x.reach(1, 0x73);
        return x;
    }

    private static void letIntoBoxes() {
        terms(3, "INTO a BOX: if it is SAFE behind it.", () -> {
            TableArms x = with(CUP, 5, 7, BOX, 4, 1);
            read(x, "never cup at 0;never cup at 1;never cup at 2;never cup at 5;");
            due(x.let(0, 0, 9), 1);
            due(x.let(0, 0, 1), 0);
            read(x, "most 1 9;");
            due(x.let(0, 0, 9), 1);
            read(x, "most 1 8;");
            due(x.let(0, 0, 9), 0);
            TableArms y = with(CUP, 5, 7, BOX, 4, 1);
            read(y, "never cup in box;");
            due(y.let(0, 0, 9), 0);
            due(y.let(0, 0, 1), 1);
            TableArms z = with(CUP, 5, 7, BOX, 4, 1);
            read(z, "never cup at 7;");
            due(z.let(0, 0, 9), 1);
            dueOn(z, 0, 7, 0);
        });
        terms(3, "INTO a BOX: if it is SAFE behind it.", () -> {
            // What goes into a box slips nowhere, and what goes to a cell slips into no box, whatever their numbers.
            for (int box = 0; box < 6; box++) {
                for (int cell = 0; cell < 8; cell++) {
                    TableArms x = withOneBox(box);
                    read(x, "never cup at " + cell + ";");
                    due(x.let(0, box == 0 ? 1 : 0, 8 + box), 1);
                    TableArms y = withOneBox(box);
                    read(y, "never cup in box;");
                    due(y.let(0, box == 0 ? 1 : 0, cell), 1);
                    due(y.let(0, box == 0 ? 1 : 0, 8 + box), 0);
                }
            }
        });
    }

    /** A cup, and a box of the number that is wanted; the others are lids in one pile. */
    private static TableArms withOneBox(int box) {
        TableArms x = new TableArms();
        int cup = box == 0 ? 1 : 0;
        for (int k = 0; k < 6; k++) {
            x.thing(k == box ? BOX : k == cup ? CUP : LID, 1, k == box ? 3 : k == cup ? 6 : 0);
        }
        return x;
    }

    private static int waysOf(int n, int... cells) {
        TableArms x = new TableArms();
        fill(x, 0, BYTES, cells);
        return x.ways(0, 0, n, cells.length - n);
    }

    private static void rowsOfWays() {
        terms(3, "each goes along a row of CELLS (1 to 12, each a NEIGHBOUR of the one ahead, or it)", () -> {
            TableArms x = new TableArms();
            x.sheet(0, BYTES, 24);
            for (int k = 0; k < 12; k++) {
                x.set(0, k, k % 2);
                x.set(0, 12 + k, 6 + k % 2);
            }
            for (int n = 1; n <= 12; n++) {
                due(x.ways(0, 12 - n, n, 12), 11);
                due(x.ways(0, 0, 12, n), 11);
                due(x.ways(0, 12 - n, n, n), n - 1);
            }
            due(x.ways(0, 0, 13, 11), BAD);
            due(x.ways(0, 0, 11, 13), BAD);
            due(x.ways(0, 0, 0, 12), BAD);
            due(x.ways(0, 0, 12, 0), BAD);
        });
        terms(3, "each a NEIGHBOUR of the one ahead, or it", () -> {
            due(waysOf(3, 0, 0, 0, 7), 2);
            due(waysOf(1, 7, 0, 0, 0), 2);
            due(waysOf(2, 0, 1, 7), 1);
            due(waysOf(2, 0, 2, 7), BAD);
            due(waysOf(2, 3, 4, 7), BAD);
            due(waysOf(1, 7, 3, 4), BAD);
            due(waysOf(1, 7, 0, 5), BAD);
            // The second row begins anew.
            due(waysOf(2, 0, 1, 7, 6), 1);
            due(waysOf(1, 0, 7), 0);
        });
    }

    private static void ticksOfWays() {
        terms(3, "by TICKS each goes on by one or waits", () -> {
            due(waysOf(2, 0, 1, 7), 1);
            due(waysOf(4, 0, 1, 2, 3, 4, 5, 6), 3);
            // The second must wait till the first has left cell 1.
            due(waysOf(3, 0, 1, 5, 2, 1, 0), 3);
            // The first stays on cell 1 to its last tick, where alone the second can go: 11 and 10 more.
            due(waysOf(12, 1, 1, 1, 1, 1, 1, 1, 1, 1, 1, 1, 0, 2, 1, 1, 1, 1, 1, 1, 1, 1, 1, 1, 1), 21);
        });
        terms(3, "never are both at one CELL (at the beginning neither)", () -> {
            due(waysOf(1, 3, 3), NONE);
            due(waysOf(2, 3, 2, 3, 7), NONE);
            due(waysOf(1, 3, 2, 3), NONE);
            due(waysOf(2, 0, 1, 2, 1), NONE);
            due(waysOf(3, 0, 1, 2, 1), NONE);
        });
        terms(3, "nor change places in one TICK", () -> {
            due(waysOf(2, 0, 1, 1, 0), NONE);
            due(waysOf(3, 0, 1, 2, 2, 1, 0), NONE);
            due(waysOf(2, 0, 1, 1, 2), 1);
            due(waysOf(2, 0, 1, 1, 5), 1);
            // Round a square both may go on at once.
            due(waysOf(3, 0, 1, 5, 5, 4, 0), 2);
        });
        terms(3, "the fewest TICKS till both are at their ends; NONE.", () -> {
            due(waysOf(1, 0, 1), 0);
            due(waysOf(2, 0, 1, 7, 6), 1);
            due(waysOf(4, 0, 1, 2, 3, 7), 3);
            due(waysOf(4, 0, 1, 2, 3, 3, 2, 1, 0), NONE);
            due(waysOf(4, 0, 1, 2, 3, 2), NONE);
        });
    }

    private static void wayRefusals() {
        promise(28, "WAYS: n and m CELLS (1 to 12), ITEMS of a SHEET from i on, one row behind the other: the fewest TICKS; NONE.", () -> {
            for (int lane = 0; lane < 3; lane++) {
                TableArms x = new TableArms();
                fill(x, lane, lane, 99, 0, 1, 2, 7, 6, 99);
                due(x.ways(lane, 1, 3, 2), 2);
                due(x.ways(lane, 1, 2, 1), 1);
                due(x.ways(lane, 2, 1, 1), 0);
                due(x.ways(lane, 0, 1, 1), BAD);
                due(x.ways(lane, 5, 1, 1), BAD);
            }
        });
        promise(28, "BAD: SHEET, n, m; NULL; PLACE", () -> {
            TableArms x = new TableArms();
            x.sheet(0, BYTES, 40);
            for (int v : outside(7)) {
                due(x.ways(v, 0, 1, 1), BAD);
            }
            for (int v : new int[] {MIN, -1, 0, 13, MAX}) {
                due(x.ways(0, 0, v, 1), BAD);
                due(x.ways(0, 0, 1, v), BAD);
            }
            due(x.ways(0, 0, 12, 12), NONE);
        });
        promise(28, "NULL", () -> {
            TableArms x = new TableArms();
            due(x.ways(0, 0, 1, 1), NULL);
            due(x.status(), 1);
            due(x.ways(7, -1, 12, 12), NULL);
        });
        promise(28, "PLACE", () -> {
            TableArms x = new TableArms();
            x.sheet(0, BYTES, 24);
            x.sheet(1, BYTES, 0);
            x.sheet(2, BYTES, 1);
            due(x.ways(0, 0, 12, 12), NONE);
            for (int i : new int[] {MIN, -1, 1, 24, MAX, MAX - 23}) {
                due(x.ways(0, i, 12, 12), PLACE);
                due(x.status(), 2);
            }
            due(x.ways(0, 22, 1, 1), NONE);
            due(x.ways(0, 23, 1, 1), PLACE);
            due(x.ways(1, 0, 1, 1), PLACE);
            due(x.ways(2, 0, 1, 1), PLACE);
        });
        promise(28, "then BAD: an ITEM, or one that is no NEIGHBOUR of the one ahead, nor it.", () -> {
            TableArms x = new TableArms();
            x.sheet(0, INTS, 2);
            for (int wrong : outside(7)) {
                x.set(0, 0, wrong);
                x.set(0, 1, 0);
                due(x.ways(0, 0, 1, 1), BAD);
                x.set(0, 0, 0);
                x.set(0, 1, wrong);
                due(x.ways(0, 0, 1, 1), BAD);
            }
            fill(x, 1, BYTES, 256, 263);
            due(x.ways(1, 0, 1, 1), 0);
            fill(x, 1, SHORTS, 256, 7);
            due(x.ways(1, 0, 1, 1), BAD);
            fill(x, 1, BYTES, 0, 0, 2, 5);
            due(x.ways(1, 0, 3, 1), BAD);
            due(x.ways(1, 0, 2, 2), BAD);
            due(x.ways(1, 0, 2, 1), 1);
        });
        promise(28, "NULL; PLACE; then BAD", () -> {
            TableArms x = new TableArms();
            fill(x, 0, INTS, 8, 8);
            x.drop(5);
            due(x.ways(0, 0, 2, 1), PLACE);
            due(x.status(), 2);
            due(x.ways(0, 0, 1, 1), BAD);
            due(x.status(), 2);
        });
    }
}

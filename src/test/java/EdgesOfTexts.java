import java.util.List;

/** Boundary cases that the terms name of texts: the tape, tokens, the form, reckoning, faults, bounds of the rule. */
final class EdgesOfTexts {
    private EdgesOfTexts() {
    }

    static void addTo(List<Edge> all) {
        addTokens(all);
        addForm(all);
        addReckoning(all);
        addFaults(all);
        addDepth(all);
        addRule(all);
    }

    private static void addTokens(List<Edge> all) {
        all.add(new Edge("Terms 1", "THE TAPE (160 bytes at most)", EdgesOfTexts::tape)
            .broken("TAPE_ROOM = 160", "TAPE_ROOM = 159")
            .broken("TAPE_ROOM = 160", "TAPE_ROOM = 161"));
        all.add(new Edge("Terms 1", "TOKENS, each as long as can be", EdgesOfTexts::asLongAsCanBe)
            .broken("word && isLetter(tape[end])", "word && isLetter(tape[end]) && end < place + 4")
            .broken("number && isDigit(tape[end])", "number && isDigit(tape[end]) && end < place + DIGITS")
            .broken("number && isDigit(tape[end])", "number && isLetter(tape[end])"));
        all.add(new Edge("Terms 1", "WORDS (a .. z)", EdgesOfTexts::letters)
            .broken("return sign >= 'a' && sign <= 'z';", "return sign > 'a' && sign <= 'z';")
            .broken("return sign >= 'a' && sign <= 'z';", "return sign >= 'a' && sign < 'z';")
            .broken("return sign >= 'a' && sign <= 'z';", "return sign >= '`' && sign <= 'z';")
            .broken("return sign >= 'a' && sign <= 'z';", "return sign >= 'a' && sign <= '{';")
            .broken("return sign >= 'a' && sign <= 'z';", "return (sign | 32) >= 'a' && (sign | 32) <= 'z';"));
        all.add(new Edge("Terms 1", "NUMBERS (as many digits as stand there, 4 at most)", EdgesOfTexts::digits)
            .broken("DIGITS = 4", "DIGITS = 3")
            .broken("DIGITS = 4", "DIGITS = 5")
            .broken("return sign >= '0' && sign <= '9';", "return sign > '0' && sign <= '9';")
            .broken("return sign >= '0' && sign <= '9';", "return sign >= '0' && sign < '9';")
            .broken("return sign >= '0' && sign <= '9';", "return sign >= '/' && sign <= '9';")
            .broken("return sign >= '0' && sign <= '9';", "return sign >= '0' && sign <= ':';"));
        all.add(new Edge("Terms 1", "SIGNS ( ) ; + - * < =", EdgesOfTexts::everyByte)
            .broken("SIGNS = \"();+-*<=\"", "SIGNS = \"();+-*<\"")
            .broken("SIGNS = \"();+-*<=\"", "SIGNS = \"();+-<=\"")
            .broken("tape[size] = sign;", "tape[size] = sign & 127;"));
        all.add(new Edge("Terms 1", "blanks (32, 10) may stand between", EdgesOfTexts::blanks)
            .broken("return sign == ' ' || sign == '\\n';", "return sign == ' ';")
            .broken("return sign == ' ' || sign == '\\n';", "return sign == '\\n';")
            .broken("return sign == ' ' || sign == '\\n';", "return sign == ' ' || sign == '\\n' || sign == '\\t';")
            .broken("return sign == ' ' || sign == '\\n';", "return sign == ' ' || sign == '\\n' || sign == '\\r';")
            .broken("return sign == ' ' || sign == '\\n';", "return sign == ' ' || sign == '\\n' || sign == 0;"));
    }

    private static void tape() {
        RailCargo x = new RailCargo();
        for (int eight = 1; eight <= 20; eight++) {
            Due.is("eight more", x.feed(8, 0x2020_2020_2020_2020L), 8 * eight);
        }
        Due.is("one more", x.feed(1, 32), -4);
        Due.is("160 bytes, all read", x.text(), -260);
        TextTest.good("late 0;cut 0;stop 0" + " ".repeat(140) + ";");
        TextTest.fault("late 0;cut 0;stop 0;" + " ".repeat(139) + "(", 159);
        TextTest.fault("-".repeat(160), 0);
        TextTest.fault("late 1" + "+1".repeat(77), 160);
    }

    private static void asLongAsCanBe() {
        TextTest.faultOf("kindhour", 0);
        TextTest.faultOf("notkind", 0);
        TextTest.faultOf("1 orkind", 2);
        TextTest.faultOf("1 andnot 1", 2);
        TextTest.faultOf("12345", 0);
        TextTest.faultOf("123 4", 4);
        TextTest.faultOf("kind hour", 5);
        TextTest.late("12", 12);
        TextTest.late("1 and2", 1);
        TextTest.late("1and 2", 1);
        TextTest.good("late1;cut2;stop3;");
        TextTest.fault("latekind;cut 0;stop 0;", 0);
    }

    private static void letters() {
        TextTest.late("amount", 11);
        TextTest.faultOf("kindz", 0);
        TextTest.faultOf("akind", 0);
        TextTest.faultOf("kind{", 4);
        TextTest.faultOf("kind`", 4);
        TextTest.faultOf("kinD", 0);
        TextTest.faultOf("kindZ", 4);
        TextTest.faultOf("kind_", 4);
        TextTest.faultOf("Kind", 0);
    }

    private static void digits() {
        TextTest.late("0", 0);
        TextTest.late("9", 9);
        TextTest.late("1000", 1000);
        TextTest.late("0010", 10);
        TextTest.goodOf("0000");
        TextTest.goodOf("9999");
        TextTest.faultOf("00000", 0);
        TextTest.faultOf("10000", 0);
        TextTest.faultOf("1+10000", 2);
        TextTest.faultOf("1" + "0".repeat(60), 0);
        TextTest.faultOf("1/", 1);
        TextTest.faultOf("1:", 1);
        TextTest.faultOf("/", 0);
        TextTest.faultOf(":", 0);
    }

    /** Each byte there is, between two numbers. */
    private static void everyByte() {
        for (int sign = 0; sign < 256; sign++) {
            String text = "late 1" + (char) sign + "1;cut 0;stop 0;";
            boolean joins = sign < 128 && "+-*<=0123456789".indexOf(sign) >= 0;
            int place = sign == ';' || sign == ' ' || sign == '\n' ? 7 : 6;
            Due.is("a text with byte " + sign, Due.text(new RailCargo(), text), joins ? 1 : -100 - place);
        }
        TextTest.goodOf("(1)");
        TextTest.goodOf("(((1+2)-3)*4<5)=6");
    }

    private static void blanks() {
        TextTest.good("late0;cut0;stop0;");
        TextTest.good(" \nlate\n 0 \n;\n\ncut  0\n;stop 0; \n");
        TextTest.good("late\n0 ;\ncut\n0 ;\nstop\n0 ;\n");
        int[] none = {0, 9, 11, 12, 13, 31, 33, 127, 128, 138, 160};
        for (int sign : none) {
            TextTest.fault("late" + (char) sign + "0;cut 0;stop 0;", 4);
            TextTest.fault((char) sign + "late 0;cut 0;stop 0;", 0);
            TextTest.fault("late 0;cut 0;stop 0;" + (char) sign, 20);
        }
        TextTest.fault("la te 0;cut 0;stop 0;", 0);
        TextTest.faultOf("ki nd", 0);
        TextTest.faultOf("1 2", 2);
        TextTest.faultOf("1\n2", 2);
    }

    private static void addForm(List<Edge> all) {
        all.add(new Edge("Terms 1", "TEXT: late E ; cut E ; stop E ;", EdgesOfTexts::form)
            .broken("take(Token.SEMICOLON);", "if (part < STOP_PART) { take(Token.SEMICOLON); }")
            .broken("take(Token.LATE + part);",
                    "if (token() == Token.LATE + 1) { next(); } else { take(Token.LATE + part); }")
            .broken("if (token() != Token.END) {", "if (token() == Token.LATE) {"));
        all.add(new Edge("Terms 1", "E: AND { or AND }. AND: NOT { and NOT }.", EdgesOfTexts::repeated)
            .broken("i < TAPE_ROOM && joins(token(), level);", "i < 1 && joins(token(), level);")
            .broken("i < TAPE_ROOM && joins(token(), level);", "i < 18 && joins(token(), level);"));
        all.add(new Edge("Terms 1", "NOT: not NOT, or SUM, perhaps < or = and a SUM.", EdgesOfTexts::compared)
            .broken("int sign = token(); if (sign == Token.LESS || sign == Token.SAME) {",
                    "for (int sign = token(); sign == Token.LESS || sign == Token.SAME; sign = token()) {")
            .broken("next(); phrase(SUM, open); emit(sign);", "next(); phrase(DENIAL, open); emit(sign);"));
        all.add(new Edge("Terms 1", "SUM: TERM { + or - TERM }. TERM: ONE { * ONE }.", EdgesOfTexts::summed)
            .broken("i < TAPE_ROOM && joins(token(), level);", "i < 1 && joins(token(), level);")
            .broken("i < TAPE_ROOM && joins(token(), level);", "i < 69 && joins(token(), level);")
            .broken("next(); phrase(level + 1, open); emit(sign);",
                    "next(); phrase(level == SUM ? SUM : level + 1, open); emit(sign);"));
        all.add(new Edge("Terms 1", "ONE: a NUMBER, a NAME, - ONE, ( E ).", EdgesOfTexts::one)
            .broken("if (token < Token.NAMES || token >= Token.NUMBER) {",
                    "if (token <= Token.NAMES || token >= Token.NUMBER) {")
            .broken("if (token < Token.NAMES || token >= Token.NUMBER) {",
                    "if (token < Token.NAMES - 1 || token >= Token.NUMBER) {")
            .broken("if (token < Token.NAMES || token >= Token.NUMBER) {",
                    "if (token < Token.NAMES || token > Token.NUMBER) {")
            .broken("phrase(EITHER, open + 1);", "if (token() != Token.CLOSE) { phrase(EITHER, open + 1); }"));
    }

    private static void form() {
        TextTest.good("late 0;cut 0;stop 0;");
        TextTest.fault("", 0);
        TextTest.fault(";", 0);
        TextTest.fault("late ;", 5);
        TextTest.fault("late 0;stop 0;cut 0;", 7);
        TextTest.fault("late 0;late 0;cut 0;stop 0;", 7);
        TextTest.fault("cut 0;late 0;stop 0;", 0);
        TextTest.fault("cut 0;cut 0;stop 0;", 0);
        TextTest.fault("late 0;cut 0;", 13);
        TextTest.fault("late 0;cut 0;stop 0", 19);
        TextTest.fault("late 0 cut 0;stop 0;", 7);
        TextTest.fault("late 0;cut 0;stop 0;;", 20);
        TextTest.fault("late 0;cut 0;stop 0;0", 20);
        TextTest.fault("late 0;cut 0;stop 0;late 0;cut 0;stop 0;", 20);
    }

    private static void repeated() {
        TextTest.late("0 or 0 or 1", 1);
        TextTest.late("1 and 1 and 0", 0);
        TextTest.late("0" + " or 0".repeat(20) + " or 1", 1);
        TextTest.late("1" + " and 1".repeat(17) + " and 0", 0);
        TextTest.faultOf("1 or", 4);
        TextTest.faultOf("or 1", 0);
        TextTest.faultOf("1 or and 1", 5);
        TextTest.faultOf("1 and or 1", 6);
        TextTest.faultOf("1 and and 1", 6);
        TextTest.faultOf("1 and", 5);
    }

    private static void compared() {
        TextTest.late("1 < 2", 1);
        TextTest.late("not 1 < 2", 0);
        TextTest.late("not not 1 < 2", 1);
        TextTest.faultOf("1 < 2 < 3", 6);
        TextTest.faultOf("1 = 2 = 3", 6);
        TextTest.faultOf("1 < 2 = 3", 6);
        TextTest.faultOf("1 < not 2", 4);
        TextTest.faultOf("1 <", 3);
        TextTest.faultOf("< 1", 0);
        TextTest.faultOf("not", 3);
    }

    private static void summed() {
        TextTest.late("9-5-3", 1);
        TextTest.late("9-5+3", 7);
        TextTest.late("2*3*4", 24);
        TextTest.late("0" + "+1".repeat(69), 69);
        TextTest.late("0" + "+1".repeat(70), 70);
        TextTest.late("7" + "*1".repeat(69) + "*0", 0);
        TextTest.faultOf("1 +", 3);
        TextTest.faultOf("* 1", 0);
        TextTest.faultOf("1 + * 1", 4);
    }

    private static void one() {
        TextTest.late("0", 0);
        TextTest.late("due", 77);
        TextTest.late("kind", 3);
        TextTest.late("--5", 5);
        TextTest.late("(5)", 5);
        int place = 0;
        String[] none = {"", "()", "+1", "not", "late", "cut", "stop", "or", "and", ")", "1 + not 1"};
        int[] places = {0, 1, 0, 3, 0, 0, 0, 0, 0, 0, 4};
        for (String e : none) {
            TextTest.faultOf(e, places[place]);
            place++;
        }
    }

    private static void addReckoning(List<Edge> all) {
        all.add(new Edge("Terms 1", "An E is an int (32 bits, wrapping)", EdgesOfTexts::wraps)
            .broken("return truth(left < right);", "return truth(left - right < 0);")
            .broken("case Token.PLUS: return left + right;",
                    "case Token.PLUS: return (int) Math.min(Integer.MAX_VALUE, (long) left + right);")
            .broken("case Token.MINUS: return left - right;",
                    "case Token.MINUS: return (int) Math.max(Integer.MIN_VALUE, (long) left - right);")
            .broken("default: return left * right;",
                    "default: return (int) Math.min(Integer.MAX_VALUE, (long) left * right);")
            .broken("push(-pop());", "push((int) Math.min(Integer.MAX_VALUE, -(long) pop()));"));
        all.add(new Edge("Terms 1", "of or, and, not, <, = 1 or 0 (what is not 0 is true)", EdgesOfTexts::truths)
            .broken("case Token.OR: return truth(left != 0 || right != 0);",
                    "case Token.OR: return left != 0 ? left : right;")
            .broken("case Token.OR: return truth(left != 0 || right != 0);",
                    "case Token.OR: return truth(left > 0 || right > 0);")
            .broken("case Token.AND: return truth(left != 0 && right != 0);", "case Token.AND: return left & right;")
            .broken("case Token.AND: return truth(left != 0 && right != 0);",
                    "case Token.AND: return truth(left > 0 && right > 0);")
            .broken("push(truth(pop() == 0));", "push(truth(pop() <= 0));")
            .broken("push(truth(pop() == 0));", "push(1 - pop());")
            .broken("return truth(left < right);", "return truth(left <= right);")
            .broken("return is ? 1 : 0;", "return is ? -1 : 0;"));
    }

    /** 2^31 is 8192 times 8192 times 32: one more than the greatest int. */
    private static void wraps() {
        TextTest.late("8192*8192*32 < 0", 1);
        TextTest.late("8192*8192*32 - 1", 9999);
        TextTest.late("8192*8192*32 < 1", 1);
        TextTest.late("-(8192*8192*32) = 8192*8192*32", 1);
        TextTest.late("(8192*8192*32 - 1) + 1 < 0", 1);
        TextTest.late("0 < 8192*8192*32 - 1", 1);
        TextTest.late("8192*8192*64", 0);
        TextTest.late("8192*8192*64 + 5", 5);
        TextTest.late("not 8192*8192*64", 1);
        TextTest.late("(8192*8192*32) * 3 = 8192*8192*32", 1);
    }

    private static void truths() {
        TextTest.late("5 or 0", 1);
        TextTest.late("0 or -5", 1);
        TextTest.late("0 or 0", 0);
        TextTest.late("4 and 2", 1);
        TextTest.late("-1 and -1", 1);
        TextTest.late("1 and 0", 0);
        TextTest.late("not -1", 0);
        TextTest.late("not 5", 0);
        TextTest.late("not 0", 1);
        TextTest.late("5 < 5", 0);
        TextTest.late("4 < 5", 1);
        TextTest.late("5 = 5", 1);
        TextTest.late("5 = 4", 0);
    }

    private static void addFaults(List<Edge> all) {
        all.add(new Edge("Terms 1", "the place of the first byte of the first TOKEN that can't stand there",
                EdgesOfTexts::firstFault)
            .broken("places[tokenCount] = place;", "places[tokenCount] = end - 1;")
            .broken("places[tokenCount] = place;", "places[tokenCount] = end;")
            .broken("fault = places[at];", "fault = places[Math.min(at + 1, tokenCount)];")
            .broken("codeCount = 0; for (int part = 0;", "codeCount = 0; for (int i = 0; i < tokenCount; i++) {"
                    + " if (fault == NONE && tokens[i] == Token.BROKEN) { fault = places[i]; } } for (int part = 0;"));
        all.add(new Edge("Terms 1", "(the text's size, if it ends too early)", EdgesOfTexts::endsTooEarly)
            .broken("places[tokenCount] = size;", "places[tokenCount] = Math.max(0, size - 1);")
            .broken("places[tokenCount] = size;",
                    "places[tokenCount] = tokenCount == 0 ? 0 : endOfToken(places[tokenCount - 1]);"));
        all.add(new Edge("Terms 1", "a byte that begins none", EdgesOfTexts::beginsNone)
            .broken("Token.SIGNS.indexOf((char) sign) < 0 ? Token.BROKEN : sign", "sign == '?' ? Token.PLUS : sign")
            .broken("tape[size] = sign;", "tape[size] = sign & 127;"));
        all.add(new Edge("Terms 1", "a WORD that is neither KEY nor NAME", EdgesOfTexts::noSuchWord)
            .broken("i - start == end - place && stands(start, place, end)",
                    "i - start >= end - place && stands(start, place, end)")
            .broken("i - start == end - place && stands(start, place, end)",
                    "i - start == end - place && tape[place] == Token.WORDS.charAt(start)"));
        all.add(new Edge("Terms 1", "a NUMBER that is too long", EdgesOfTexts::tooLong)
            .broken("return end - place > DIGITS ? Token.BROKEN", "return end - place > DIGITS + 1 ? Token.BROKEN")
            .broken("return end - place > DIGITS ? Token.BROKEN",
                    "return numberOf(place, end) > 9999 ? Token.BROKEN"));
    }

    private static void firstFault() {
        TextTest.fault("late 0; cut 0; halt 0;", 15);
        TextTest.fault("late 0;\n\n  stop 0;", 11);
        TextTest.faultOf("1 amount", 2);
        TextTest.faultOf("kind 9999", 5);
        TextTest.faultOf("1 2 x 12345 ?", 2);
        TextTest.faultOf("x 1 2", 0);
        TextTest.faultOf("1 + ? x", 4);
        TextTest.faultOf("(1 2 ((((((", 3);
        TextTest.faultOf("1) ?", 1);
        TextTest.fault("late 1 2 3;cut 4 5;", 7);
    }

    private static void endsTooEarly() {
        String whole = "late not(-1<2);cut due;stop kind=3;";
        for (int size = 0; size < whole.length(); size++) {
            String cut = whole.substring(0, size);
            boolean inWord = size > 0 && whole.charAt(size) >= 'a' && whole.charAt(size - 1) >= 'a';
            if (!inWord) {
                TextTest.fault(cut, size);
                TextTest.fault(cut + " ", size + 1);
                TextTest.fault(cut + " \n \n", size + 4);
            }
        }
        TextTest.good(whole);
    }

    private static void beginsNone() {
        int[] none = {0, 1, 9, 13, 31, '!', '"', '#', '%', '&', '\'', ',', '.', '/', ':', '>', '?', '@', 'A', 'Z', '[',
            ']', '_', '`', '{', '|', '}', '~', 127, 128, 161, 168, 176, 225, 255};
        for (int sign : none) {
            TextTest.faultOf((char) sign + "1", 0);
            TextTest.faultOf("1" + (char) sign + "1", 1);
            TextTest.faultOf("1 + " + (char) sign, 4);
            TextTest.fault("late 0;cut 0;stop 0;" + (char) sign, 20);
        }
    }

    private static void noSuchWord() {
        String[] none = {"k", "kin", "kinds", "ind", "hou", "hours", "prices", "am", "pay", "dues", "x", "latex", "o",
            "nota", "ands", "ora", "kinf", "zzzzzzzzzzzzzzzzzzzz"};
        for (String word : none) {
            TextTest.faultOf(word, 0);
            TextTest.faultOf("1 + " + word, 4);
            TextTest.fault("late 1;" + word + " 0;stop 0;", 7);
        }
        TextTest.faultOf("1 o 1", 2);
        TextTest.fault("lat 1;cut 0;stop 0;", 0);
        TextTest.fault("lates 1;cut 0;stop 0;", 0);
    }

    private static void tooLong() {
        TextTest.goodOf("9999");
        TextTest.faultOf("12345", 0);
        TextTest.faultOf("00001", 0);
        TextTest.faultOf("-99999", 1);
        TextTest.faultOf("1 + 123456", 4);
        TextTest.fault("late 1;cut 0;stop 0;12345", 20);
        TextTest.fault("late 0;cut 0;stop 10000", 18);
    }

    private static void addDepth(List<Edge> all) {
        all.add(new Edge("Terms 1", "a ( , a not, a - ahead of a ONE while 5 of these are open", EdgesOfTexts::sixOpen)
            .broken("OPEN_AT_ONCE = 5", "OPEN_AT_ONCE = 4")
            .broken("OPEN_AT_ONCE = 5", "OPEN_AT_ONCE = 6")
            .broken("token == Token.MINUS && opens(open)", "token == Token.MINUS && opens(0)")
            .broken("token == Token.OPEN && opens(open)", "token == Token.OPEN && opens(0)")
            .broken("if (opens(open)) {", "if (opens(0)) {"));
        all.add(new Edge("Terms 1", "(a ( till its ) , not and - till what they belong to ends)",
                EdgesOfTexts::opensEnd)
            .broken("private boolean opens(int open) { if (open >= OPEN_AT_ONCE) {",
                    "private int opened; private boolean opens(int open) { if (++opened > OPEN_AT_ONCE) {")
            .broken("phrase(EITHER, open + 1);", "phrase(EITHER, open);")
            .broken("denial(open + 1);", "denial(open);")
            .broken("one(open + 1);", "one(open);"));
    }

    private static void sixOpen() {
        TextTest.goodOf("(((((1)))))");
        TextTest.faultOf("((((((1))))))", 5);
        TextTest.goodOf("not not not not not 1");
        TextTest.faultOf("not not not not not not 1", 20);
        TextTest.goodOf("-----1");
        TextTest.faultOf("------1", 5);
        TextTest.goodOf("not (-(-1))");
        TextTest.faultOf("not (-(-(1)))", 8);
        TextTest.faultOf("not (-(--1))", 8);
        TextTest.faultOf("(((((not 1)))))", 5);
        TextTest.faultOf("(((((-1)))))", 5);
        TextTest.faultOf("-----(1)", 5);
        TextTest.goodOf("(((((1-1)))))");
    }

    private static void opensEnd() {
        TextTest.goodOf("(1)+(1)+(1)+(1)+(1)+(1)+(1)");
        TextTest.goodOf("-1+-1+-1+-1+-1+-1+-1");
        TextTest.goodOf("not 1 or not 1 or not 1 or not 1 or not 1 or not 1");
        TextTest.goodOf("(((((1)))))*(((((1)))))");
        TextTest.goodOf("-----1*-----1");
        TextTest.goodOf("((((-1-(1)*-1))))");
        TextTest.faultOf("((((-1-(1)*--1))))", 12);
        TextTest.goodOf("not not not not (1) and not not not not -1");
        TextTest.faultOf("not not not not not 1 < (2)", 24);
        TextTest.faultOf("not not not not not 1 + -2", 24);
        TextTest.faultOf("((((-(1)))))", 5);
        TextTest.faultOf("((((1 or not (1)))))", 13);
        TextTest.goodOf("((((not 1 or (1)))))");
    }

    private static void addRule(List<Edge> all) {
        all.add(new Edge("Terms 1", "There are 6 TEXTS at most, TEXT 0 with them.", EdgesOfTexts::sixTexts)
            .broken("TEXTS = 6,", "TEXTS = 5,")
            .broken("TEXTS = 6,", "TEXTS = 7,")
            .broken("case 2: return textCount;", "case 2: return textCount - 1;"));
        all.add(new Edge("Terms 1",
                "NAMES are kind hour price amount paid due; late, cut, stop, or, and, not are KEYS.",
                EdgesOfTexts::namesAndKeys)
            .broken("amount paid due or and not late cut stop ", "amount paid due or and nor late cut stop ")
            .broken("kind hour price amount", "kind hour cost amount")
            .broken("NAMES = 6;", "NAMES = 5;")
            .broken("NAMES = 6;", "NAMES = 7;")
            .broken("NAMES = 6;", "NAMES = 10;"));
        all.add(new Edge("Terms 1", "paid: what was paid for it; due: PRICE times AMOUNT", EdgesOfTexts::paidAndDue)
            .broken("case Token.PAID: return sold.paid;", "case Token.PAID: return (short) sold.paid;")
            .broken("return price * amount;", "return (char) (price * amount);"));
        all.add(new Edge("Terms 1", "hour: that HOUR less the SALE's", EdgesOfTexts::hourLess)
            .broken("case Token.HOUR: return hour - sold.hour;",
                    "case Token.HOUR: return Math.max(0, hour - sold.hour);")
            .broken("case Token.HOUR: return hour - sold.hour;", "case Token.HOUR: return hour;"));
        all.add(new Edge("Terms 1", "late: what is to be paid besides (0 .. 9999, else the bound)", EdgesOfTexts::late)
            .broken("MOST_LATE = 9999", "MOST_LATE = 9998")
            .broken("MOST_LATE = 9999", "MOST_LATE = 10000")
            .broken("int late = bounded(ruled(LATE_PART, sold, hour), MOST_LATE);",
                    "int late = Math.min(MOST_LATE, ruled(LATE_PART, sold, hour));")
            .broken("int late = bounded(ruled(LATE_PART, sold, hour), MOST_LATE);",
                    "int late = Math.max(0, ruled(LATE_PART, sold, hour));")
            .broken("int late = bounded(ruled(LATE_PART, sold, hour), MOST_LATE);",
                    "int late = ruled(LATE_PART, sold, hour); if (late < 0 || late > MOST_LATE) { late = 0; }"));
        all.add(new Edge("Terms 1", "cut: what is taken off (0 .. due, else the bound)", EdgesOfTexts::cut)
            .broken("int cut = bounded(ruled(CUT_PART, sold, hour), sold.due());",
                    "int cut = bounded(ruled(CUT_PART, sold, hour), MOST_LATE);")
            .broken("int cut = bounded(ruled(CUT_PART, sold, hour), sold.due());",
                    "int cut = bounded(ruled(CUT_PART, sold, hour), sold.due() + late);")
            .broken("int cut = bounded(ruled(CUT_PART, sold, hour), sold.due());",
                    "int cut = bounded(ruled(CUT_PART, sold, hour), Math.max(0, sold.due() - sold.paid));")
            .broken("int cut = bounded(ruled(CUT_PART, sold, hour), sold.due());",
                    "int cut = Math.min(ruled(CUT_PART, sold, hour), sold.due());"));
        all.add(new Edge("Terms 1", "stop: whether its PAPER can be stopped, as long as it isn't handed on",
                EdgesOfTexts::stop)
            .broken("ruled(STOP_PART, sold, hour) != 0;", "ruled(STOP_PART, sold, hour) > 0;")
            .broken("ruled(STOP_PART, sold, hour) != 0;", "ruled(STOP_PART, sold, hour) == 1;")
            .broken("sold.paper != NONE && sold.paper <= hour;", "false;"));
        all.add(new Edge("Terms 1", "TEXT 0, at first THE RULE, is: late 0 < hour - 50 ; cut 0 ; stop hour < 20 ;",
                EdgesOfTexts::textNought)
            .broken("late 0 < hour - 50 ;", "late 0 < hour - 49 ;")
            .broken("late 0 < hour - 50 ;", "late 0 < hour - 51 ;")
            .broken("late 0 < hour - 50 ;", "late hour - 50 ;")
            .broken("; cut 0 ;", "; cut 1 ;")
            .broken("stop hour < 20 ;", "stop hour < 19 ;")
            .broken("stop hour < 20 ;", "stop hour < 21 ;"));
    }

    private static void sixTexts() {
        RailCargo x = new RailCargo();
        Due.is("TEXT 0 with them", x.count(2), 1);
        for (int text = 1; text < 6; text++) {
            Due.is("a text", Due.text(x, "late 0;cut 0;stop 0;"), text);
            Due.is("texts", x.count(2), text + 1);
        }
        Due.feed(x, "late 0;cut 0;stop 0;");
        Due.is("a seventh", x.text(), -4);
        Due.is("six", x.count(2), 6);
        Due.is("the last one", x.force(5), 0);
        Due.is("no such", x.force(6), -2);
    }

    private static void namesAndKeys() {
        String[] names = {"kind", "hour", "price", "amount", "paid", "due"};
        int[] values = {3, 30, 7, 11, 20, 77};
        for (int i = 0; i < names.length; i++) {
            TextTest.late(names[i], values[i]);
            TextTest.fault("late 0;" + names[i] + " 0;stop 0;", 7);
            TextTest.faultOf("1 " + names[i] + " 1", 2);
        }
        String[] keys = {"late", "cut", "stop", "or", "and"};
        for (String key : keys) {
            TextTest.faultOf(key, 0);
            TextTest.faultOf("-" + key, 1);
            TextTest.faultOf("1 < " + key, 4);
        }
        TextTest.faultOf("-not 1", 1);
        TextTest.faultOf("not", 3);
        TextTest.late("not 0 and 1 or 0", 1);
    }

    private static void paidAndDue() {
        RailCargo x = Made.cargo(10);
        x.sale(3, 1, 999, 999, 0);
        x.sale(3, 1, 1, 0, 0);
        x.pay(0, 999999);
        Due.text(x, "late 0;cut 0;stop paid - due = 1998 and amount * price = due;");
        Due.text(x, "late 0;cut 0;stop paid = 0 and due = 0;");
        x.force(1);
        Due.is("the most", x.stops(1, 0), 1);
        x.force(2);
        Due.is("none", x.stops(1, 0), 2);
    }

    private static void hourLess() {
        RailCargo x = Made.cargo(10);
        x.sale(3, 1, 1, 0, 500);
        Due.text(x, "late hour;cut 0;stop hour = -500;");
        Due.text(x, "late 0;cut 0;stop hour = 499;");
        x.force(1);
        Due.is("in its hour", x.owes(0, 500), 0);
        Due.is("the next hour", x.owes(0, 501), 1);
        Due.is("in the last hour", x.owes(0, 999), 499);
        Due.is("ahead of its hour, below 0", x.stops(1, 0), 1);
        Due.is("ahead of its hour, below 0", x.stops(1, 1), 0);
        x.force(2);
        Due.is("in the last hour", x.stops(1, 999), 1);
    }

    /** A sale of 10 at 2000 in all, late and cut by a text. */
    private static long owed(String rule, int paid) {
        RailCargo x = Made.cargo(10);
        x.sale(0, 1, 10, 200, 0);
        x.pay(0, paid);
        Due.is("a text", Due.text(x, rule), 1);
        x.force(1);
        return x.owes(0, 0);
    }

    private static void late() {
        Due.is("0", owed("late 0;cut 0;stop 0;", 0), 2000);
        Due.is("1", owed("late 1;cut 0;stop 0;", 0), 2001);
        Due.is("-1", owed("late -1;cut 0;stop 0;", 0), 2000);
        Due.is("far below", owed("late -9999*9999;cut 0;stop 0;", 0), 2000);
        Due.is("9998", owed("late 9998;cut 0;stop 0;", 0), 11998);
        Due.is("9999", owed("late 9999;cut 0;stop 0;", 0), 11999);
        Due.is("10000", owed("late 9999+1;cut 0;stop 0;", 0), 11999);
        Due.is("far above", owed("late 9999*9999;cut 0;stop 0;", 0), 11999);
        Due.is("the least int", owed("late 8192*8192*32;cut 0;stop 0;", 0), 2000);
        Due.is("the greatest int", owed("late 8192*8192*32-1;cut 0;stop 0;", 0), 11999);
    }

    private static void cut() {
        Due.is("0", owed("late 0;cut 0;stop 0;", 0), 2000);
        Due.is("1", owed("late 0;cut 1;stop 0;", 0), 1999);
        Due.is("-1", owed("late 0;cut -1;stop 0;", 0), 2000);
        Due.is("the least int", owed("late 0;cut 8192*8192*32;stop 0;", 0), 2000);
        Due.is("due less 1", owed("late 0;cut due - 1;stop 0;", 0), 1);
        Due.is("due", owed("late 0;cut due;stop 0;", 0), 0);
        Due.is("due and 1", owed("late 0;cut due + 1;stop 0;", 0), 0);
        Due.is("the greatest int", owed("late 0;cut 8192*8192*32-1;stop 0;", 0), 0);
        Due.is("not off what is late", owed("late 70;cut 9999;stop 0;", 0), 70);
        Due.is("what was paid does not bound it", owed("late 0;cut 9999;stop 0;", 500), -500);
        RailCargo x = Made.cargo(10);
        x.sale(0, 1, 999, 999, 0);
        Due.text(x, "late 0;cut 9999*99;stop 0;");
        x.force(1);
        Due.is("more than 9999", x.owes(0, 0), 998001 - 989901);
        RailCargo y = Made.cargo(10);
        y.sale(0, 1, 1, 0, 0);
        Due.text(y, "late 3;cut 5;stop 0;");
        y.force(1);
        Due.is("nothing due", y.owes(0, 0), 3);
    }

    private static void stop() {
        RailCargo x = Made.cargo(10);
        x.sale(3, 1, 1, 1, 0);
        int[] stops = {1, 0, 1, 1, 1};
        String[] es = {"1", "0", "-1", "2", "8192*8192*32"};
        for (int text = 1; text <= 5; text++) {
            Due.is("a text", Due.text(x, "late 0;cut 0;stop " + es[text - 1] + ";"), text);
            x.force(text);
            Due.is("stop " + es[text - 1], x.stops(1, 500), stops[text - 1]);
        }
        RailCargo y = Made.cargo(10);
        y.sale(1, 1, 1, 1, 0);
        y.paper(0, 10);
        Due.is("not handed on by then", y.stops(1, 9), 1);
        Due.is("handed on, its thing not passed", y.stops(1, 10), 0);
    }

    private static void textNought() {
        RailCargo x = Made.cargo(10);
        x.sale(3, 1, 1, 100, 10);
        Due.is("at first", x.count(4), 0);
        Due.is("in its hour", x.owes(0, 10), 100);
        Due.is("49 hours on", x.owes(0, 59), 100);
        Due.is("50 hours on", x.owes(0, 60), 100);
        Due.is("51 hours on", x.owes(0, 61), 101);
        Due.is("in the last hour", x.owes(0, 999), 101);
        Due.is("in the first hour", x.stops(1, 0), 1);
        Due.is("18 hours on", x.stops(1, 28), 1);
        Due.is("19 hours on", x.stops(1, 29), 1);
        Due.is("20 hours on", x.stops(1, 30), 0);
        Due.is("in the last hour", x.stops(1, 999), 0);
    }
}

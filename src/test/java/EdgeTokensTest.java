/** The edges of TOKENS: where one ends and the next begins, and 60 at most (promises 3 and 4). */
public final class EdgeTokensTest {
    private static final String[] KEYWORDS = {
        "let", "const", "var", "fn", "if", "else", "while", "return",
    };
    private static final String BEGIN_NONE = "\"#$%&./:>?ABCMXYZ[\\]^_`|~";

    public static void main(String[] args) {
        Check check = new Check();
        blanks(check);
        asLongAsCanBe(check);
        words(check);
        numbers(check);
        texts(check);
        textsWithoutEnd(check);
        lettersThatBeginNone(check);
        keywords(check);
        sixty(check);
        check.end();
    }

    private static void tokens(Check check, String source, int want) {
        check.same("tokens of " + source, Check.reading(source).count(1), want);
    }

    /** "BLANKS (32, 10) part TOKENS and are nothing else" */
    private static void blanks(Check check) {
        tokens(check, "", 0);
        tokens(check, " ", 0);
        tokens(check, "\n", 0);
        tokens(check, " \n \n ", 0);
        tokens(check, " a\n;\n", 2);
        tokens(check, "let\na\n=\n1\n;", 5);
        check.edge("let a;", "le t a;", 3);
        check.edge("a==b;", "a= =b;", 3);
        check.edge("a===b;", "a== =b;", 4);
        check.edge("a=12;", "a=1 2;", 4);
        check.edge("ab;", "a b;", 2);
        check.edge("ab;", "a\nb;", 2);
    }

    /** "each as long as can be" */
    private static void asLongAsCanBe(Check check) {
        tokens(check, "lets;", 2);
        tokens(check, "let s;", 3);
        tokens(check, "let1;", 2);
        tokens(check, "@1a;", 4);
        tokens(check, "a=b;", 4);
        tokens(check, "a==b;", 4);
        tokens(check, "a===b;", 4);
        check.finds("1==2;", "6@1");
        check.finds("1===2;", "");
        check.wrongPlace("a====b;", 4);
        check.wrongPlace("a=====b;", 4);
        check.wrongPlace("a==b=c;", 4);
        check.edge("'a';'b';", "'a''b';", 3);
    }

    /** "a WORD: a-z, then a-z and 0-9" */
    private static void words(Check check) {
        tokens(check, "a;", 2);
        tokens(check, "z;", 2);
        tokens(check, "az09;", 2);
        tokens(check, "za90;", 2);
        check.wrongPlace("a`;", 1);
        check.wrongPlace("a{;", 1);
        check.wrongPlace("`;", 0);
        check.wrongPlace("a/;", 1);
        check.wrongPlace("a:;", 1);
        check.wrongPlace("aZ;", 1);
        check.wrongPlace("0a;", 1);
        tokens(check, "a".repeat(159) + ";", 2);
        String name = "a".repeat(60);
        check.finds("let " + name + ";" + name + ";", "");
        check.finds("let " + name + ";" + name + "a;", "1@4 0@65");
        check.finds("let " + name + "b;" + name + "a;", "1@4 0@66");
    }

    /** "a NUMBER: 0-9" */
    private static void numbers(Check check) {
        tokens(check, "0;", 2);
        tokens(check, "9;", 2);
        tokens(check, "0123456789;", 2);
        tokens(check, "9".repeat(159) + ";", 2);
        check.wrongPlace("1/;", 1);
        check.wrongPlace("1:;", 1);
        check.wrongPlace("1.5;", 1);
    }

    /** "a TEXT: ', any LETTERS but ' and 10, '" */
    private static void texts(Check check) {
        StringBuilder all = new StringBuilder("'");
        for (char letter = 32; letter <= 126; letter++) {
            if (letter != '\'') {
                all.append(letter);
            }
        }
        tokens(check, all + "';", 2);
        tokens(check, "'';", 2);
        tokens(check, "' ';", 2);
        tokens(check, "'" + "@".repeat(157) + "';", 2);
        check.edge("'a';", "'a\n';", 0);
        check.edge("'';", "'\n';", 0);
        check.edge("f('');", "f(''');", 4);
    }

    /** "a TEXT without its end: that LETTER" */
    private static void textsWithoutEnd(Check check) {
        check.edge("'a';", "'a;", 0);
        check.edge("a;'';", "a;'", 2);
        check.edge("a+'b';", "a+'b;\n';", 2);
        check.edge("'a';'b';", "'a';'b", 4);
        check.wrongPlace("'" + " ".repeat(159), 0);
        check.wrongPlace(" ".repeat(159) + "'", 159);
        check.wrongPlace("a 'b", 2);
    }

    /** "of a LETTER that begins no TOKEN ...: that LETTER" */
    private static void lettersThatBeginNone(Check check) {
        for (char letter : BEGIN_NONE.toCharArray()) {
            check.wrongPlace("" + letter, 0);
            check.wrongPlace("a;\n" + letter + "b;", 3);
            check.wrongPlace("a=" + letter + ";", 2);
            check.wrongPlace("a" + letter + "b;", 1);
            check.wrongPlace("'" + letter + "';", -1);
        }
    }

    /** "KEYWORDS: ...; other WORDS are NAMES" */
    private static void keywords(Check check) {
        for (String word : KEYWORDS) {
            check.edge("let " + word + "s;", "let " + word + ";", 4);
            check.edge("var a" + word + ";", "var " + word + ";", 4);
            check.edge("a+" + word + "0;", "a+" + word + ";", 2);
            String shorter = word.substring(0, word.length() - 1);
            check.edge("let " + shorter + ";", "let " + word + "=1;", 4);
        }
        check.wrongPlace("let constvar;", -1);
    }

    /** "At most 60 TOKENS ... (the 61st TOKEN ... can not stand there)" */
    private static void sixty(Check check) {
        String names = "a;".repeat(29);
        tokens(check, names + ";", 59);
        tokens(check, names + "a;", 60);
        check.edge(names + "a;", names + "a;;", 60);
        check.edge(names + "a; \n", names + "a; \n;", 62);
        check.edge(names + "a;", names + "-a;", 60);
        check.edge(names + ";", names + "a+b;", 60);
        check.edge(names + "{}", names + "{;}", 60);
        check.edge("1+".repeat(29) + "1;", "1+".repeat(29) + "-1;", 60);
        check.edge(";".repeat(60), ";".repeat(61), 60);
        check.edge(";".repeat(60), ";".repeat(160), 60);
        check.wrongPlace(names + "a;#", 60);
        check.wrongPlace(names + "a;'", 60);
        check.wrongPlace(names + "a;'text'", 60);
        check.wrongPlace(names + "a;}", 60);
        check.wrongPlace(names + "if", 60);
        check.wrongPlace(names + "f(", 60);
        check.wrongPlace(names + "}}}", 58);
        check.wrongPlace("a b" + ";".repeat(60), 2);
    }
}

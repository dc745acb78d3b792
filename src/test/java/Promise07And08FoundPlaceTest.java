/** Promises 7 and 8: found and place; the RULES, the EXCUSES and the order of FINDINGS. */
public final class Promise07And08FoundPlaceTest {
    public static void main(String[] args) {
        Check check = new Check();
        indexes(check);
        order(check);
        freeAndUnused(check);
        constantAndEarly(check);
        shadow(check);
        deadAndEqual(check);
        fixed(check);
        emptyAndSpare(check);
        excuses(check);
        check.end();
    }

    private static void indexes(Check check) {
        LintDesk desk = Check.reading("a; b;");
        check.same("found(1)", desk.found(1), 0);
        check.same("place(1)", desk.place(1), 3);
        int[] none = {2, -1, Integer.MIN_VALUE, Integer.MAX_VALUE};
        for (int k : none) {
            check.refused("found(" + k + ")", IndexOutOfBoundsException.class, () -> desk.found(k));
            check.refused("place(" + k + ")", IndexOutOfBoundsException.class, () -> desk.place(k));
        }
    }

    private static void order(Check check) {
        check.finds("let a = 1;\nfn f(x, y) { return y == a; ; b; }", "7@0 1@14 6@33 5@39 9@39 0@41");
        check.finds("c = 1; const c = 2; fn c(){ return; let c = 1; }",
                "2@0 3@0 1@13 4@23 5@36 7@36 1@40 4@40");
        check.finds("fn f(){return f;{}}", "5@16 8@16");
    }

    private static void freeAndUnused(Check check) {
        check.finds("a; b = 1; f(c); ", "0@0 0@3 0@10 0@12");
        check.finds("{ let a; a; } a;", "0@14");
        check.finds("fn f() { a; } f(); var a;", "");
        check.finds("fn f() { { var a; } a; } f; a;", "0@28");
        check.finds("let a; a = 1;", "1@4");
        check.finds("fn f() { f(); }", "");
        check.finds("var a; let b; const c = 1; fn f() {}", "1@4 1@11 1@20 1@30");
        check.finds("fn f(a, b, c) { b; } f;", "1@11");
        check.finds("fn f(a, b) {} f;", "1@5 1@8");
        check.finds("fn f(a, b) { a; } f;", "1@8");
        check.finds("fn f(a, b) { a = b; } f;", "");
        check.finds("fn f(a) { fn g(b) { b; } g; } f;", "1@5");
        check.finds("fn f(a) { let b; b; } f;", "1@5");
        check.finds("fn f(a, b, a) { a; } f;", "1@8 4@11");
    }

    private static void constantAndEarly(Check check) {
        check.finds("const a = 1; a = a;", "2@13");
        check.finds("const a = a = 1; a;", "2@10");
        check.finds("const a = 1; { let a; a = a; } a;", "4@19");
        check.finds("const a = 1; fn f() { a = a; } f;", "2@22");
        check.finds("const a = 1; const a = 2; a;", "4@19");
        check.finds("a; let a;", "3@0");
        check.finds("a = 1; let a; a;", "3@0");
        check.finds("a; const a = 1;", "3@0");
        check.finds("a; var a; f; fn f() {}", "");
        check.finds("let a = a; a = 1;", "");
        check.finds("fn f() { a; } let a; f;", "");
        check.finds("fn f() { a; let a; } f;", "3@9");
        check.finds("fn f() { { a; } let a; } f;", "3@11");
        check.finds("fn f() { { fn g() { a; } g; } let a; } f;", "");
        check.finds("{ a; { a; } } let a;", "3@2 3@7");
        check.finds("fn f() { { a; let a; } } f;", "3@11");
        check.finds("a; let a; a; let a;", "3@0 4@17");
        check.finds("a = 1; const a = 1; a;", "2@0 3@0");
        check.finds("var a; a; let a;", "4@14");
        check.finds("a; var a; let a;", "4@14");
    }

    private static void shadow(Check check) {
        check.finds("let a; a; { let a; a; }", "4@16");
        check.finds("{ let a; a; } let a; a;", "4@6");
        check.finds("{ let a; a; } { let a; a; }", "");
        check.finds("let a; a; { { { var b; let a; a; b; } } }", "4@27");
        check.finds("fn f(f) { f; } f;", "4@5");
        check.finds("var a; a; fn f(a) { a; } f;", "4@15");
        check.finds("fn f(a) { a; { let a; a; } } f;", "4@19");
        check.finds("fn f(a) { a; let a; } f;", "4@17");
        check.finds("fn f(a) { a; var a; } f;", "4@17");
        check.finds("fn f(a, a) { a; } f;", "4@8");
        check.finds("var a; var a; a; { var a; }", "");
        check.finds("var a; let a; var a; a;", "4@11");
        check.finds("let a; var a; var a; a;", "4@11 4@18");
        check.finds("let a; fn a() {} const a = 1; a;", "4@10 4@23");
        check.finds("let a; a; { var a; }", "4@16");
        check.finds("{ let a; a; var a; } a;", "4@6");
        check.finds("let a; a; { let a; let a; a; }", "4@16 4@23");
        check.finds("let a; a; fn f() { var a; { var a; } a; } f;", "4@23");
    }

    private static void deadAndEqual(Check check) {
        check.finds("fn f() { return; 1; 2; } f;", "5@17");
        check.finds("fn f() { return 1; return; 2; } f;", "5@19 5@27");
        check.finds("fn f() { @9 return; @8 @7 1; } f;", "5@26");
        check.finds("fn f() { if (1) return; 1; } f;", "");
        check.finds("fn f() { { return; } 1; } f;", "");
        check.finds("fn f() { { return; 1; } } f;", "5@19");
        check.finds("fn f() { while (1) { return; {} } } f;", "5@29 8@29");
        check.finds("fn f() { if (1) return; else return; 1; } f;", "");
        check.finds("fn f() { return; } f;", "");
        check.finds("1 == 2 === 3; (1==2)==3;", "6@2 6@16 6@20");
        check.finds("'=='; 1 === 2;", "");
    }

    private static void fixed(Check check) {
        check.finds("let a = 1; a;", "7@0");
        check.finds("let a; a;", "");
        check.finds("let a; a = 1; a;", "");
        check.finds("let a = 1; a = 2; a;", "");
        check.finds("a = 2; let a = 1; a;", "3@0");
        check.finds("let a = 1; let a; a;", "4@15");
        check.finds("var a = 1; a;", "");
        check.finds("let a = 1; { let a; a = 2; a; } a;", "7@0 4@17");
        check.finds("{ let a; var a = 1; a; } a;", "4@6");
        check.finds("{ let a = 1; var a = 1; a; } a;", "7@2 4@6");
        check.finds("let a = 1; fn f() { a = 2; } f; a;", "");
        check.finds("  let\na = 1; a;", "7@2");
    }

    private static void emptyAndSpare(Check check) {
        check.finds("{}", "8@0");
        check.finds("{ \n }", "8@0");
        check.finds("{ {} }", "8@2");
        check.finds("if (1) {} else {}", "8@7 8@15");
        check.finds("while (1) {}", "8@10");
        check.finds("@1 {}", "8@3");
        check.finds("fn f() {} f;", "");
        check.finds("{;}", "9@1");
        check.finds(";;", "9@0 9@1");
        check.finds("if (1) ; else ;", "");
        check.finds("while (1) ;", "");
        check.finds("@1 ;", "");
        check.finds("fn f() { ; } f;", "9@9");
        check.finds("1; ;", "9@3");
    }

    private static void excuses(Check check) {
        check.finds("@0 a; b;", "0@6");
        check.finds("@1 a;", "0@3");
        check.finds("@0 @6 (a == b); a == b;", "0@16 6@18 0@21");
        check.finds("@0 { a; { b; } } c;", "0@17");
        check.finds("@1 let a = 1;", "7@3");
        check.finds("@7 let a = 1;", "1@7");
        check.finds("@7 @1 let a = 1;", "");
        check.finds("{ @9 ; }", "");
        check.finds("@9 { ; } ;", "9@9");
        check.finds("@8 {}{}", "8@5");
        check.finds("if (a) @0 b; else c;", "0@4 0@18");
        check.finds("@0 if (a) b; else c; d;", "0@21");
        check.finds("fn f() { @5 return; 1; } f;", "5@20");
        check.finds("fn f() { return; @5 1; } f;", "");
        check.finds("fn f() { return; @5 ; } f;", "");
        check.finds("@4 { let a; a; } let a; a;", "");
        check.finds("{ let a; a; } @4 let a; a;", "4@6");
        check.finds("@2 @3 a = 1; const a = 1; a;", "");
        check.finds("@0 @0 a;", "");
        LintDesk desk = Check.reading("@0 a; b; @6 (1 == 2);");
        check.same("excused", desk.count(9), 2);
        desk.give(Check.octets("a"));
        check.same("excused, a GIVEN", desk.count(9), 1);
        desk.rule(6, false);
        check.same("excused, rule 6 off", desk.count(9), 0);
    }
}

/** Terms 1 and 2 and the first of term 6: each sentence, and both sides of each edge in it. */
final class EdgesOfTexts {
  private EdgesOfTexts() {
  }

  static void ask() {
    bytes();
    blanks();
    badBytes();
    names();
    numbers();
    strings();
    noTokens();
    signs();
    lines();
    items();
    functions();
    variables();
    statements();
    expressions();
    depthOfStatements();
    depthOfExpressions();
    furtherDepth();
    faultOne();
    faultFour();
    heights();
  }

  /** One answer at one level, for the many cases that are alike. */
  private static void answer(int want, int place, String text) {
    Trial t = new Trial();
    int level = text.length() % 4;
    Trial.due("compile(" + level + ") of " + text, t.compile(text, level), want);
    Trial.due("place() of " + text, t.units.place(), place);
  }

  private static boolean mayOccur(int c) {
    return c == 9 || c == 10 || c == 13 || c >= 32 && c <= 126;
  }

  private static void bytes() {
    Sentence.says("1 UNITS are texts of bytes 9, 10, 13, 32 .. 126, at most 16000 each.");
    for (int c = 0; c < 256; c++) {
      answer(mayOccur(c) ? 1 : -21, mayOccur(c) ? -1 : 10, "int a; // " + (char) c);
      answer(mayOccur(c) ? 1 : -21, mayOccur(c) ? -1 : 10, "int a; /* " + (char) c + " */");
    }
    String longest = "int a;" + " ".repeat(15993);
    answer(1, -1, longest + " ");
    answer(-21, 15999, longest + ";");
    answer(1, -1, longest.substring(6) + "int a; ");
    answer(-21, 16000, " ".repeat(15997) + "int");
  }

  private static void blanks() {
    Sentence.says("BLANKS are 9, 10, 13, 32, // up to before the next 10 or the end, and from a slash and a star to the next star and slash.");
    for (char c : new char[] {9, 10, 13, 32}) {
      answer(1, -1, "int" + c + "a" + c + ";" + c);
    }
    answer(1, -1, "int a//\n;");
    answer(1, -1, "//x\nint//y\na//z\n;//");
    answer(1, -1, "int a;//");
    answer(1, -1, "int a;//x");
    answer(1, -1, "//");
    Trial.fault(1, "int a; // x\r int \n ^5");
    Trial.faultAt(1, 8, "int a//;");
    Trial.fault(1, "int a; // x\n^5");
    answer(1, -1, "int/**/a/***/;/*/*/");
    answer(1, -1, "/* // */ int a; // /*\n int b; /* \n\r\t */");
    Trial.fault(1, "int a; /* /* */ ^*/");
    Trial.fault(1, "int a; ^/ * */");
    Trial.fault(1, "int a; ^/");
    Trial.fault(1, "int a; /**/ ^/*/");
    Trial.fault(1, "int a; ^/* x *");
    Trial.fault(1, "int a; ^/* x * /");
    answer(1, -1, "int a = 8/ /**//**/2;");
  }

  private static void badBytes() {
    Sentence.says("6 FURTHER. A byte that may not occur is fault 1 at it, in a blank too, ended or not (in a STRING or between ' ' the token does not end: its first byte).");
    for (char c : new char[] {0, 8, 11, 12, 14, 31, 127, 128, 255}) {
      Trial.faultAt(1, 0, c + "int a;");
      Trial.faultAt(1, 5, "int a" + c + ";");
      Trial.faultAt(1, 8, "int a;  " + c);
      Trial.faultAt(1, 10, "int a; // " + c + "\nint b;");
      Trial.faultAt(1, 10, "int a; /* " + c + c + " */ int b;");
      Trial.faultAt(1, 10, "int a; /* " + c + " is not ended");
      Trial.faultAt(1, 9, "int *a = \"" + c + "\";");
      Trial.faultAt(1, 9, "int *a = \"ab" + c);
      Trial.faultAt(1, 8, "int a = '" + c + "';");
      Trial.faultAt(1, 8, "int a = 'x" + c);
      Trial.faultAt(1, 8, "int a = '\\" + c + "';");
    }
  }

  private static void names() {
    Sentence.says("TOKENS, the longest: NAMES (a letter or _, then letters, digits, _; at most 24);");
    String n23 = "abcdefghijklmnopqrstuvw";
    answer(1, -1, "int " + n23 + ";");
    answer(1, -1, "int " + n23 + "x;");
    Trial.fault(1, "int ^" + n23 + "xy;");
    Trial.fault(1, "int ^" + n23 + "x9;");
    Trial.fault(1, "int ^" + n23 + "x_;");
    Trial.fault(1, "int ^_" + n23 + "_ ;");
    answer(1, -1, "int _; int __9; int a0Z; int A; int Z; int z; int a; int z9_;");
    for (char c : new char[] {'0', '9', '@', '[', '`', '{', '/', ':'}) {
      Trial.faultAt(1, 4, "int " + c + "a;");
    }
    Trial.fault(1, "^inta;");
    Trial.fault(1, "int a ^b;");
    Sentence.says("words int void static extern if else while do for break continue return;");
    for (String word : "int void static extern if else while do for break continue return".split(" ")) {
      Trial.fault(1, "int ^" + word + ";");
      answer(1, -1, "int " + word + "0;");
      answer(1, -1, "int _" + word + ";");
      answer(1, -1, "int " + word.toUpperCase() + ";");
      answer(1, -1, "int " + word.substring(0, word.length() - 1) + ";");
    }
  }

  private static void numbers() {
    Sentence.says("NUMBERS: digits (to 2147483647), or 0x and 1 to 8 digits of sixteen (32 bits, as an int), or ' c ' (its code);");
    Trial.gives(2147483646, Trial.main("return 2147483646;"));
    Trial.gives(2147483647, Trial.main("return 2147483647;"));
    Trial.fault(1, Trial.main("return ^2147483648;"));
    Trial.fault(1, Trial.main("return -^2147483648;"));
    Trial.fault(1, Trial.main("return ^4294967296;"));
    Trial.fault(1, Trial.main("return ^4294967297;"));
    Trial.fault(1, Trial.main("return ^18446744073709551617;"));
    Trial.gives(2147483647, Trial.main("return 00000000000002147483647;"));
    Trial.fault(1, Trial.main("return ^00000000000002147483648;"));
    Trial.gives(0, Trial.main("return 0;"));
    Trial.gives(9, Trial.main("return 09;"));
    Trial.gives(15, Trial.main("return 0xf;"));
    Trial.gives(0, Trial.main("return 0x0;"));
    Trial.gives(0x7fffffff, Trial.main("return 0x7fffffff;"));
    Trial.gives(0x80000000, Trial.main("return 0x80000000;"));
    Trial.gives(-1, Trial.main("return 0xFFFFFFFF;"));
    Trial.gives(1, Trial.main("return 0x00000001;"));
    Trial.fault(1, Trial.main("return ^0x000000001;"));
    Trial.fault(1, Trial.main("return ^0x100000000;"));
    for (int c = 32; c <= 126; c++) {
      if (c != '\'' && c != '\\') {
        answer(1, -1, "int a['" + (char) c + "'];");
        Trial t = new Trial();
        t.compile("int a['" + (char) c + "'];", c % 4);
        Trial.due("code of " + (char) c, t.units.count(1, 1), c);
      }
    }
    Sentence.says("digits of sixteen are 0 .. 9, a .. f, A .. F.");
    Trial.gives(0x1234567, Trial.main("return 0x1234567;"));
    Trial.gives(0x890abcde, Trial.main("return 0x890abcde;"));
    Trial.gives(0xfABCDEF0, Trial.main("return 0xfABCDEF0;"));
    for (char c : new char[] {'g', 'G', '_', 'z'}) {
      Trial.fault(1, Trial.main("return 0x1^" + c + ";"));
    }
    Trial.fault(1, Trial.main("return 0x1^@;"));
    Trial.fault(1, Trial.main("return 0x1^`;"));
    Trial.gives(9, Trial.main("return 0x9/1;"));
    Trial.gives(4, Trial.main("return 0 ? 1 : 0x4;"));
  }

  private static void strings() {
    Sentence.says("STRINGS: \" c .. \" (at most 200 c); c is 32 .. 126 but \\ and ' (in a string: but \\ and \"), or one of \\n (10) \\0 (0) \\\\ \\' \\\";");
    for (int n : new int[] {0, 1, 199, 200, 201, 202, 1000}) {
      String text = "int *p = \"" + "x".repeat(n) + "\";";
      answer(n > 200 ? -21 : 1, n > 200 ? 9 : -1, text);
      text = "int *p = \"" + "\\0".repeat(n) + "\";";
      answer(n > 200 ? -21 : 1, n > 200 ? 9 : -1, text);
      text = "int p[] = \"" + "\\\"".repeat(n) + "\";";
      answer(n > 200 ? -21 : 1, n > 200 ? 10 : -1, text);
    }
    for (int c = 0; c < 256; c++) {
      boolean may = c >= 32 && c <= 126 && c != '\\';
      if (c != '"') {
        answer(may ? 1 : -21, may ? -1 : 9, "int *p = \"" + (char) c + "\";");
      }
      if (c != '\'') {
        answer(may ? 1 : -21, may ? -1 : 8, "int p = '" + (char) c + "';");
      }
      may = c == 'n' || c == '0' || c == '\\' || c == '\'' || c == '"';
      answer(may ? 1 : -21, may ? -1 : 9, "int *p = \"\\" + (char) c + "\";");
      answer(may ? 1 : -21, may ? -1 : 8, "int p = '\\" + (char) c + "';");
    }
    Trial.gives(10, Trial.main("return '\\n';"));
    Trial.gives(0, Trial.main("return '\\0';"));
    Trial.gives(92, Trial.main("return '\\\\';"));
    Trial.gives(39, Trial.main("return '\\'';"));
    Trial.gives(34, Trial.main("return '\\\"';"));
    Trial.gives(10, Trial.main("return \"\\n\"[0];"));
    Trial.gives(7, Trial.main("return \"a\\0b\"[1] + 7;"));
    Trial.gives(92, Trial.main("return \"\\\\\"[0];"));
    Trial.gives(39, Trial.main("return \"\\'\"[0];"));
    Trial.gives(39, Trial.main("return \"'\"[0];"));
    Trial.gives(34, Trial.main("return \"\\\"\"[0];"));
    Trial.gives(34, Trial.main("return '\"';"));
    Trial.gives(0, Trial.main("return \"~\"[1];"));
  }

  private static void noTokens() {
    Sentence.says("What begins as a blank with a slash and a star, a NUMBER, NAME or STRING and is too great, too long or does not end is none (at its first byte);");
    Trial.fault(1, "int a; ^/*");
    Trial.fault(1, "int a; ^/* \n\n x");
    Trial.fault(1, "int a = ^2147483648");
    Trial.fault(1, "int a = ^99999999999999999999999999x;");
    Trial.fault(1, "int a = ^0x123456789abcdef;");
    Trial.fault(1, "int a = ^'");
    Trial.fault(1, "int a = ^'a");
    Trial.fault(1, "int a = ^'ab';");
    Trial.fault(1, "int a = ^'';");
    Trial.fault(1, "int a = ^'\\'");
    Trial.fault(1, "int a = ^'\\");
    Trial.fault(1, "int ^a23456789012345678901234567890;");
    Trial.fault(1, "int *a = ^\"");
    Trial.fault(1, "int *a = ^\"abc");
    Trial.fault(1, "int *a = ^\"abc\n\";");
    Trial.fault(1, "int *a = ^\"abc\\");
    Trial.fault(1, "int *a = ^\"abc\\\"");
    Trial.fault(1, "int *a = ^\"abc\\\";");
    // What stands before is told first all the same.
    Trial.fault(1, "int a ^5 2147483648");
    Trial.fault(1, "int ^5 \"");
    Trial.fault(1, "int ^5 /*");
  }

  private static void signs() {
    Sentence.says("SIGNS: ( ) { } [ ] , ; ? : = += -= *= /= %= &= |= ^= <<= >>= || && | ^ & == != < > <= >= << >> + - * / % ! ~ ++ --.");
    Trial.right("int f(int a,int*b){int c[1]={2},d;a=b[0]?1:2;a+=1;a-=1;a*=1;a/=1;a%=1;a&=1;a|=1;a^=1;a<<=1;a>>=1;"
        + "a=a||a&&a|a^a&a==a!=a<a>a<=a>=a<<a>>a+a-a*a/a%!~a;a++;--a;++a;a--;return(0);}");
    Trial.gives(1, Trial.main("int a=3,b=1;return a+++b==4&&a==4;"));
    Trial.gives(1, Trial.main("int a=3,b=1;return a---b==2&&a==2;"));
    Trial.gives(1, Trial.main("int a=3;return a- -1==4;"));
    Trial.gives(12, Trial.main("int a=3;a<<=2;return a;"));
    Trial.gives(1, Trial.main("int a=3;return a<<2>=12;"));
    Trial.gives(1, Trial.main("int a=3;return 1<=a;"));
    Trial.gives(2, Trial.main("int a=3;return a&&1?2:4;"));
    Trial.gives(5, Trial.main("int a=5;return a&*&a;"));
    Trial.gives(7, Trial.main("int a=5;return a|3|(a||0);"));
    Trial.gives(0, Trial.main("int a=5;return a!=5;"));
    Trial.gives(1, Trial.main("int a=5;a=!a;return a==0;"));
    Trial.fault(1, Trial.main("int a; return a <<^< 1;"));
    Trial.fault(1, Trial.main("int a; return a >>^> 1;"));
    Trial.fault(1, Trial.main("int a; return a ==^= 1;"));
    Trial.fault(1, Trial.main("int a; return a !=^= 1;"));
    Trial.fault(1, Trial.main("int a; return a -^> 1;"));
    Trial.fault(1, Trial.main("int a; return a &&^= 1;"));
    Trial.fault(1, Trial.main("int a; return a ||^= 1;"));
    Trial.fault(1, Trial.main("int a; return a <^> 1;"));
    Trial.fault(1, Trial.main("int a; return a ^! 1;"));
    Trial.fault(1, Trial.main("int a; return a <= ^> 1;"));
    Trial.fault(1, Trial.main("int a; return ^+a;"));
    Trial.fault(1, Trial.main("int a; a + ^= 1;"));
    Trial.fault(1, Trial.main("int a; a < ^<= 1;"));
    for (char c : new char[] {'.', '#', '@', '$', '`', '\\'}) {
      Trial.fault(1, "int a; ^" + c);
    }
  }

  private static void lines() {
    Sentence.says("Each token has a LINE: 1 and the bytes 10 before it.");
    Trial.traps(1, 1, "int main() { 1 / 0; }");
    Trial.traps(1, 2, "\nint main() { 1 / 0; }");
    Trial.traps(1, 2, "int main() { 1\n/\n0; }");
    Trial.traps(1, 4, "//\n/*\n*/int main() { 1 //\n/ 0; }");
    Trial.traps(1, 1, "\r\r\t/* \r */int main() { 1 / 0; }");
    Trial.traps(1, 3, "\r\n\r\nint main() { 1 / 0; }\n\n");
    Trial.traps(1, 5001, "\n".repeat(5000) + "int main() { 1 / 0; }");
    Trial.traps(1, 1, "int main() { \"\\n\"; '\\n'; 1 / 0; }");
  }

  private static void items() {
    Sentence.says("unit: item .. item: [static or extern], then a function or variables.");
    Trial.right("");
    Trial.right("int a;");
    Trial.right("static int a; extern int b; int c; static int f(); extern int g(); static void h(); extern void k();");
    Trial.fault(1, "^;");
    Trial.fault(1, "int a;^;");
    Trial.fault(1, "int f() { }^;");
    Trial.fault(1, "static ^static int a;");
    Trial.fault(1, "static ^extern int a;");
    Trial.fault(1, "extern ^;");
    Trial.fault(1, "int ^static a;");
    Trial.fault(1, "^a = 1;");
    Trial.fault(1, "^{ }");
    Trial.fault(1, "^if (1) ;");
    Trial.faultAt(1, 7, "static ");
    Trial.faultAt(1, 3, "int");
    Trial.faultAt(1, 4, "void");
  }

  private static void functions() {
    Sentence.says("function: int stars NAME or void NAME, ( ) or ( void ) or ( parameter , .. ), then ; or block; a parameter (at most 8): int stars [NAME] [[ ]].");
    Trial.right("int f(); int g(void); int h(int); int k(int a); int l(int[]); int m(int *a[]); void n(); int **o();");
    Trial.right("int f(int a, int b, int c, int d, int e, int g, int h) { return 0; }");
    Trial.right("int f(int a, int b, int c, int d, int e, int g, int h, int i) { return 0; }");
    Trial.fault(1, "int f(int a, int b, int c, int d, int e, int g, int h, int i, ^int j) { return 0; }");
    Trial.fault(1, "int f(int, int, int, int, int, int, int, int, ^int);");
    Trial.fault(1, "int f(int, int, int, int, int, int, int, int, ^);");
    Trial.fault(1, "int f(int, int, int, int, int, int, int, int, ^void);");
    Trial.fault(1, "int f(int, int, int, int, int, int, int, int ^int);");
    Trial.fault(1, "void ^*f();");
    Trial.fault(1, "int f(void^, int);");
    Trial.fault(1, "int f(void ^v);");
    Trial.fault(1, "int f(void^*);");
    Trial.fault(1, "int f(int, ^void);");
    Trial.fault(1, "int f(int,^);");
    Trial.fault(1, "int f(^, int);");
    Trial.fault(1, "int f(int a[^1]);");
    Trial.fault(1, "int f(int a[]^[]);");
    Trial.fault(1, "int f(int ^(a));");
    Trial.fault(1, "int f(^a);");
    Trial.fault(1, "int f() ^= 1;");
    Trial.fault(1, "int f()^, g();");
    Trial.fault(1, "int f()^[1];");
    Trial.fault(1, "int f() ^int a; { }");
    Trial.fault(1, "int f^) { }");
    Trial.faultAt(1, 6, "int f(");
    Trial.faultAt(1, 7, "int f()");
  }

  private static void variables() {
    Sentence.says("variables: int stars NAME [[ [expression] ]] [= initial] , .. ;");
    Trial.right("int a; int b, c; int d[1]; int e[] = { 1 }; int *f = 0, g = 1, **h[2] = { 0, 0 }; extern int i[];");
    Trial.fault(1, "int ^;");
    Trial.fault(1, "int a ^b;");
    Trial.fault(1, "int a,^;");
    Trial.fault(1, "int a,^,b;");
    Trial.fault(1, "int ^, a;");
    Trial.fault(1, "int a[1^;");
    Trial.fault(1, "int a[1]^[1];");
    Trial.fault(1, "int a[1^, 2];");
    Trial.fault(1, "int a (^1);");
    Trial.fault(1, "int a =^;");
    Trial.fault(1, "int a = 1 = ^= 2;");
    Trial.fault(1, "int a ^+= 1;");
    Trial.fault(1, "int ^[1];");
    Trial.faultAt(1, 5, "int a");
    Trial.faultAt(1, 9, "int a = 1");
    Sentence.says("initial: expression, or { expression , .. }");
    Trial.right("int a[1] = { 1 }; int b[2] = { 1, 2 };");
    Trial.fault(1, "int a[1] = {^};");
    Trial.fault(1, "int a[1] = { 1,^};");
    Trial.fault(1, "int a[1] = {^, 1 };");
    Trial.fault(1, "int a[1] = { 1 ^1 };");
    Trial.fault(1, "int a[1] = { ^{ 1 } };");
    Trial.fault(1, "int a[1] = { 1 ^; };");
    Trial.fault(1, "int a[1] = { 1 } ^+ 1;");
    Sentence.says("stars: at most 5 *.");
    Trial.right("int *****a, *****b; int *****f(int *****, int *****[]); int g() { int *****c, *****d; (int *****) 0; return 0; }");
    Trial.fault(1, "int *****^*a;");
    Trial.fault(1, "int *****a, *****^*b;");
    Trial.fault(1, "int *****^*f();");
    Trial.fault(1, "int f(int *****^*a);");
    Trial.fault(1, "int f(int *****^*);");
    Trial.fault(1, Trial.main("int *****^*a;"));
    Trial.fault(1, Trial.main("int a, *****^*b;"));
    Trial.fault(1, Trial.main("(int *****^*) 0;"));
    Trial.fault(1, "int *****^**a;");
    Sentence.says("int stands once before all its variables;");
    Trial.right("int a, *b, c[2]; int f() { int d, *e, g[2]; return 0; }");
    Trial.fault(1, "int a, ^int b;");
    Trial.fault(1, Trial.main("int a, ^int b;"));
    Trial.fault(1, "int a; ^b;");
  }

  private static void statements() {
    Sentence.says("block: { statement .. } statement: block; ; ; expression ; ; int variables (as above); if ( expression ) statement [else statement] (to the nearest if); while ( expression ) statement; do statement while ( expression ) ; ; for ( [expression] ; [expression] ; [expression] ) statement; break ; ; continue ; ; return [expression] ;");
    Trial.right("int f() { }");
    Trial.right("int f() { {} {;} ; 1; int a, *b[2]; if (1) ; if (1) ; else ; while (0) ; do ; while (0); return 1; }");
    Trial.right("void f() { return; }");
    for (int k = 0; k < 8; k++) {
      String head = ((k & 1) != 0 ? "a = 0" : "") + ";" + ((k & 2) != 0 ? "a < 1" : "") + ";" + ((k & 4) != 0 ? "a++" : "");
      Trial.right("int f() { int a = 0; for (" + head + ") { if (a++) break; continue; } return a; }");
    }
    Trial.gives(3, Trial.main("if (1) if (0) return 1; else return 3; return 2;"));
    Trial.gives(2, Trial.main("if (1) { if (0) return 1; } else return 3; return 2;"));
    Trial.gives(4, Trial.main("if (0) if (1) return 1; else return 3; return 4;"));
    Trial.gives(5, Trial.main("if (0) return 1; else if (0) return 2; else return 5;"));
    Trial.gives(6, Trial.main("if (1) while (0) if (0) ; else return 1; else return 2; return 6;"));
    Trial.fault(1, Trial.main("1^}"));
    Trial.fault(1, Trial.main("int^;"));
    Trial.fault(1, Trial.main("if ^;"));
    Trial.fault(1, Trial.main("if (^) ;"));
    Trial.fault(1, "int main() { if (1) ^}");
    Trial.fault(1, "int main() { if (1) ; else ^}");
    Trial.fault(1, Trial.main("^else ;"));
    Trial.fault(1, Trial.main("if (1) ; else ; ^else ;"));
    Trial.fault(1, Trial.main("if (1) ; ; ^else ;"));
    Trial.fault(1, Trial.main("while (^) ;"));
    Trial.fault(1, "int main() { while (1) ^}");
    Trial.fault(1, "int main() { do ^}");
    Trial.fault(1, Trial.main("do ; ^;"));
    Trial.fault(1, "int main() { do ; while (1) ^}");
    Trial.fault(1, Trial.main("do ; while (^) ;"));
    Trial.fault(1, Trial.main("for (^) ;"));
    Trial.fault(1, Trial.main("for (;^) ;"));
    Trial.fault(1, Trial.main("for (;;^;) ;"));
    Trial.fault(1, "int main() { for (;;) ^}");
    Trial.fault(1, Trial.main("for (^int a;;) ;"));
    Trial.fault(1, Trial.main("break ^1;"));
    Trial.fault(1, Trial.main("continue ^1;"));
    Trial.fault(1, Trial.main("return 1 ^1;"));
    Trial.fault(1, "int main() { return ^}");
    Trial.fault(1, Trial.main("^static int a;"));
    Trial.fault(1, Trial.main("^extern int a;"));
    Trial.fault(1, Trial.main("^void f();"));
    Trial.fault(1, Trial.main("int f^();"));
    Trial.faultAt(1, 9, "int f() {");
  }

  private static void expressions() {
    Sentence.says("expression: choice [assignment sign expression] choice: or [? expression : choice] or: and || .. and: bitor && .. bitor: bitxor | .. bitxor: bitand ^ .. bitand: equal & .. equal: test == != .. test: shift < > <= >= .. shift: sum << >> .. sum: product + - .. product: unary * / % .. (all from the left)");
    String[][] levels = {{"||"}, {"&&"}, {"|"}, {"^"}, {"&"}, {"==", "!="}, {"<", ">", "<=", ">="}, {"<<", ">>"}, {"+", "-"}, {"*", "/", "%"}};
    binding(levels);
    Trial.gives(7, Trial.main("int a, b, c; a = b = c = 7; return a & b & c;"));
    Trial.gives(9, Trial.main("int a = 9, b = 4; b -= a -= 4; return a - b * 4;"));
    Trial.fault(2, Trial.main("int a; a + 1 ^= 2;"));
    Trial.fault(2, Trial.main("int a; 1 ? a : a ^= 2;"));
    Trial.gives(2, Trial.main("int a; 1 ? a = 2 : 3; return a;"));
    Trial.fault(2, Trial.main("int a; 1 ? a = 2 : a ^= 3;"));
    Trial.gives(3, Trial.main("return 0 ? 1 : 0 ? 2 : 3;"));
    Trial.gives(2, Trial.main("return 1 ? 1 ? 2 : 3 : 4;"));
    Trial.gives(4, Trial.main("return 0 || 0 ? 3 : 4;"));
    Trial.fault(1, Trial.main("return 1 ^: 2;"));
    Trial.fault(1, Trial.main("return 1 ? 2^;"));
    Trial.fault(1, Trial.main("return 1 ? ^: 2;"));
    Trial.fault(1, Trial.main("return 1 ^, 2;"));
    Trial.fault(1, Trial.main("int a; a = ^;"));
    Sentence.says("unary: (- ! ~ * & ++ --) unary | ( int stars ) unary | behind.");
    Trial.gives(1, Trial.main("int a = 5; int *p = &a; return -~!!*&*p == - - 2;"));
    Trial.gives(5, Trial.main("int a = 5; return (int) (int *) (int) a;"));
    Trial.gives(-4, Trial.main("int a = 5; return -(int) --a;"));
    Trial.gives(3, Trial.main("int a[2] = { 3, 4 }; return (int) a[0];"));
    Trial.fault(1, Trial.main("(int^;) 1;"));
    Trial.fault(1, Trial.main("(int) ^;"));
    Trial.fault(1, Trial.main("(int ^a) 1;"));
    Trial.fault(1, Trial.main("(^void) 1;"));
    Trial.fault(1, Trial.main("-^;"));
    Sentence.says("behind: primary, then any number of [ expression ], ++, --");
    Trial.gives(4, Trial.main("int a[2] = { 3, 4 }; int *b[2] = { a, a }; return b[1][1];"));
    Trial.gives(3, Trial.main("int a[2] = { 3, 4 }; int *p = a; return p++[0];"));
    Trial.gives(4, Trial.main("int a[2] = { 3, 4 }; int *b[1] = { a }; return b[0]++[1];"));
    Trial.fault(1, Trial.main("int a[2]; a[^];"));
    Trial.fault(1, Trial.main("int a[2]; a[1^;"));
    Trial.fault(1, Trial.main("int a[2]; a[1^, 1];"));
    Sentence.says("primary: NUMBER, STRING, NAME, NAME ( [expression , ..] ), ( expression ).");
    Trial.right("int f(int a, int b, int c) { return 1 + \"x\"[0] + a + f(1, 2, 3) + (1); }");
    Trial.fault(1, Trial.main(";^);"));
    Trial.fault(1, Trial.main("main(^, 1);"));
    Trial.fault(1, Trial.main("main(1,^);"));
    Trial.fault(1, Trial.main("main(1^;"));
    Trial.fault(1, Trial.main("(main)^();"));
    Trial.fault(1, Trial.main("main()^();"));
    Trial.fault(1, Trial.main("(^);"));
    Trial.fault(1, Trial.main("(1^;"));
    Trial.fault(1, Trial.main("1 ^\"x\";"));
    Trial.fault(1, Trial.main("1^(2);"));
  }

  private static int apply(String sign, int a, int b) {
    switch (sign) {
      case "||":
        return a != 0 || b != 0 ? 1 : 0;
      case "&&":
        return a != 0 && b != 0 ? 1 : 0;
      case "|":
        return a | b;
      case "^":
        return a ^ b;
      case "&":
        return a & b;
      case "==":
        return a == b ? 1 : 0;
      case "!=":
        return a != b ? 1 : 0;
      case "<":
        return a < b ? 1 : 0;
      case ">":
        return a > b ? 1 : 0;
      case "<=":
        return a <= b ? 1 : 0;
      case ">=":
        return a >= b ? 1 : 0;
      case "<<":
        return a << (b & 31);
      case ">>":
        return a >> (b & 31);
      case "+":
        return a + b;
      case "-":
        return a - b;
      case "*":
        return a * b;
      case "/":
        return b == 0 ? 0 : a / b;
      default:
        return b == 0 ? 0 : a % b;
    }
  }

  private static boolean divides(String sign) {
    return sign.equals("/") || sign.equals("%");
  }

  /** Each sign with each other one behind it: three sums, of which some are told apart. */
  private static void binding(String[][] levels) {
    int[][] triples = {{7, 2, 3}, {1, 0, 5}, {0, 6, 2}, {12, 5, 4}, {2, 3, 1}, {9, 4, 1}};
    for (int i = 0; i < levels.length; i++) {
      for (int j = 0; j < levels.length; j++) {
        for (String first : levels[i]) {
          for (String second : levels[j]) {
            bound(first, second, i >= j, triples);
          }
        }
      }
    }
  }

  private static void bound(String first, String second, boolean leftBinds, int[][] triples) {
    StringBuilder text = new StringBuilder("int n; void add(int x) { n = n * 31 + x; } int main() {");
    int want = 0;
    for (int[] t : triples) {
      int right = apply(second, t[1], t[2]);
      if (divides(first) && (t[1] == 0 || right == 0) || divides(second) && t[2] == 0) {
        continue;
      }
      int x = leftBinds ? apply(second, apply(first, t[0], t[1]), t[2]) : apply(first, t[0], right);
      want = want * 31 + x;
      text.append(" add(").append(t[0]).append(first).append(t[1]).append(second).append(t[2]).append(");");
    }
    text.append(" return n; }");
    Trial t = new Trial();
    Trial.due("run of " + text, t.go(text.toString(), text.length() % 4, 99), 0);
    Trial.due("result() of " + text, t.units.result(), want);
  }

  private static void depthOfStatements() {
    Sentence.says("DEPTH: a statement of a function's outermost block is 1 deep; one in a statement one deeper.");
    String[][] wraps = {
      {"{", "}"}, {"if(1)", ""}, {"while(1)", ""}, {"for(;;)", ""}, {"do ", " while(1);"}, {"if(1);else ", ""},
    };
    String[] inner = {";", "{}", "1;", "int a;", "if(1);", "while(1);", "do;while(1);", "for(;;);", "break;", "continue;", "return 0;"};
    for (String[] wrap : wraps) {
      String f = "int f(){for(;;)" + wrap[0].repeat(22);
      String tail = wrap[1].repeat(22) + "}";
      for (String last : inner) {
        boolean holdsMore = last.startsWith("if") || last.startsWith("while") || last.startsWith("do") || last.startsWith("for");
        answer(1, -1, f + last + tail);
        answer(holdsMore ? -21 : 1, holdsMore ? f.length() + wrap[0].length() + last.indexOf(';', last.startsWith("for") ? 7 : 0) : -1,
            f + wrap[0] + last + wrap[1] + tail);
      }
    }
    Sentence.says("Both at most 25: else fault 1 at the statement's first token, or at the sign.");
    for (String[] wrap : wraps) {
      String f = "int f(){for(;;)" + wrap[0].repeat(23);
      int deep = f.length() + wrap[0].length();
      for (String last : inner) {
        // The head with else has a statement of its own before else, as deep as the last one.
        int place = wrap[0].startsWith("if(1);") ? f.length() + 5 : deep;
        answer(-21, place, f + wrap[0] + last + wrap[1].repeat(24) + "}");
      }
    }
    Trial.right("int f() { " + "(".repeat(24) + "1" + ")".repeat(24) + "; }");
    Trial.fault(1, "int f() { " + "(".repeat(24) + "^(1" + ")".repeat(25) + "; }");
    Sentence.says("A statement too deep is told before anything in it.");
    String deep = "int f() { " + "{".repeat(25);
    for (String last : new String[] {"@", "5 5", "int 5", "if 5", "{@", "\"", "else", "break 5", "((((", ""}) {
      Trial.faultAt(1, deep.length(), deep + last);
    }
  }

  private static final String G = "int *p, n; int g(int x); int h(); int k(int x, int y); int f(int a) { ";

  private static void depthOfExpressions() {
    Sentence.says("An expression of a statement, of an initial or of a variable's [ ] is 1 deep; what stands behind a ( [ ? : or assignment sign, and behind a unary sign or a cast, is one deeper.");
    String[][] places = {
      {"int f() { ", "; }"}, {"int f() { return ", "; }"}, {"int f() { if (", ") ; }"}, {"int f() { while (", ") ; }"},
      {"int f() { do ; while (", "); }"}, {"int f() { for (", ";;) ; }"}, {"int f() { for (;", ";) ; }"}, {"int f() { for (;;", ") ; }"},
      {"int f() { int a = ", "; }"}, {"int f() { int a[2] = { ", " }; }"}, {"int f() { int a[2] = { 1, ", " }; }"},
      {"int f() { int a[", "]; }"}, {"int a = ", ";"}, {"int a[2] = { ", " };"}, {"int a[2] = { 1, ", " };"}, {"int a[", "];"},
      {"int f() { if (1) { ", "; } }"}, {"int f() { int a[", "] = { 1 }; }"},
    };
    for (String[] place : places) {
      Trial.right(place[0] + "(".repeat(24) + "1" + ")".repeat(24) + place[1]);
      Trial.faultAt(1, place[0].length() + 24, place[0] + "(".repeat(25) + "1" + ")".repeat(25) + place[1]);
      Trial.right(place[0] + "(".repeat(20) + "-~!!1" + ")".repeat(20) + place[1]);
      Trial.faultAt(1, place[0].length() + 24, place[0] + "(".repeat(21) + "-~!!1" + ")".repeat(21) + place[1]);
    }
    // One sign of each kind in 23 and in 24 brackets: it may be 24 deep and not 25.
    String[][] signs = {
      {"", "(", "1)"}, {"p", "[", "1]"}, {"1", "?", "1:1"}, {"a", "=", "1"}, {"", "-", "1"}, {"", "!", "1"}, {"", "~", "1"},
      {"", "*", "p"}, {"", "&", "n"}, {"", "++", "n"}, {"", "--", "n"}, {"", "(", "int)1"}, {"", "(", "int*)1"}, {"g", "(", "1)"}, {"h", "(", ")"},
      {"a", "+=", "1"}, {"a", "-=", "1"}, {"a", "*=", "1"}, {"a", "/=", "1"}, {"a", "%=", "1"}, {"a", "&=", "1"}, {"a", "|=", "1"},
      {"a", "^=", "1"}, {"a", "<<=", "1"}, {"a", ">>=", "1"},
    };
    for (String[] sign : signs) {
      Trial.right(G + "(".repeat(23) + sign[0] + sign[1] + sign[2] + ")".repeat(23) + "; }");
      String much = G + "(".repeat(24) + sign[0];
      Trial.faultAt(1, much.length(), much + sign[1] + sign[2] + ")".repeat(24) + "; }");
    }
    String[] flat = {"a + a * a - a / 1", "a++", "a--", "a && a || a", "a < a == a", "a", "1", "'c'", "\"s\"", "a << 1 >> 1 & 1 | 1"};
    for (String same : flat) {
      Trial.right(G + "(".repeat(24) + same + ")".repeat(24) + "; }");
    }
    Trial.right(G + "- ".repeat(24) + "a; }");
    Trial.faultAt(1, G.length() + 48, G + "- ".repeat(25) + "a; }");
    Trial.right(G + "a = ".repeat(24) + "a; }");
    Trial.right(G + "p[".repeat(24) + "1" + "]".repeat(24) + "; }");
    Trial.faultAt(1, G.length() + 24 * 2 + 1, G + "p[".repeat(25) + "1" + "]".repeat(25) + "; }");
    Trial.faultAt(1, G.length() + 24 * 4 + 2, G + "a = ".repeat(25) + "a; }");
  }

  private static void furtherDepth() {
    Sentence.says("what stands behind a cast is one deeper (its own brackets count for nothing), also behind ? and behind :, and arguments (the ( of a call without any counts so, too).");
    Trial.right(G + "(int)".repeat(24) + "a; }");
    Trial.faultAt(1, G.length() + 24 * 5, G + "(int)".repeat(25) + "a; }");
    Trial.right(G + "(int)".repeat(23) + "(a); }");
    Trial.faultAt(1, G.length() + 24 * 5, G + "(int)".repeat(24) + "(a); }");
    Trial.right(G + "a?".repeat(24) + "1" + ":1".repeat(24) + "; }");
    Trial.faultAt(1, G.length() + 24 * 2 + 1, G + "a?".repeat(25) + "1" + ":1".repeat(25) + "; }");
    Trial.right(G + "a?1:".repeat(24) + "1; }");
    Trial.faultAt(1, G.length() + 24 * 4 + 1, G + "a?1:".repeat(25) + "1; }");
    Trial.right(G + "a ? " + "(".repeat(23) + "1" + ")".repeat(23) + " : " + "(".repeat(23) + "1" + ")".repeat(23) + "; }");
    Trial.faultAt(1, G.length() + 4 + 23, G + "a ? " + "(".repeat(24) + "1" + ")".repeat(24) + " : 1; }");
    Trial.faultAt(1, G.length() + 8 + 23, G + "a ? 1 : " + "(".repeat(24) + "1" + ")".repeat(24) + "; }");
    Trial.right(G + "g(".repeat(24) + "1" + ")".repeat(24) + "; }");
    Trial.faultAt(1, G.length() + 24 * 2 + 1, G + "g(".repeat(25) + "1" + ")".repeat(25) + "; }");
    Trial.right(G + "k(1, " + "(".repeat(23) + "1" + ")".repeat(23) + "); }");
    Trial.faultAt(1, G.length() + 5 + 23, G + "k(1, " + "(".repeat(24) + "1" + ")".repeat(24) + "); }");
    Trial.right(G + "g(".repeat(23) + "h()" + ")".repeat(23) + "; }");
    Trial.faultAt(1, G.length() + 24 * 2 + 1, G + "g(".repeat(24) + "h()" + ")".repeat(24) + "; }");
    Trial.right(G + "(1 ? 2 : 3) + h() + g(1) + (int) 1 + p[0] + - 1 + " + "(".repeat(24) + "1" + ")".repeat(24) + "; }");
  }

  private static final String[] TOKENS = ("int a , * b , c [ 3 ] = { 1 , 2 } ; static int d [ ] = \"x\" ; extern int e ; "
      + "int f ( int x , int * y , int z [ ] ) ; void g ( void ) { ; { } if ( a ) ; else { a = 1 ; } while ( a ) break ; "
      + "do { continue ; } while ( 0 ) ; for ( a = 0 ; a < 3 ; a ++ ) f ( a , & a , c ) ; for ( ; ; ) { return ; } "
      + "int q = a ? - 1 : ( int ) ! * b , * r = & c [ 1 ] ; q += 2 ; -- q ; } int h ( ) { return ( 1 ) ; }").split(" ");

  private static void faultOne() {
    Sentence.says("2 FAULTS of a unit. 1: the first token with which those so far are not the beginning of a unit, or that is none, or that is too deep, or a 9th parameter (at its int), or a star too many; at the end of the text its length.");
    StringBuilder text = new StringBuilder();
    int depth = 0;
    for (int k = 0; k < TOKENS.length; k++) {
      String token = TOKENS[k];
      boolean whole = depth == 0 && (k == 0 || TOKENS[k - 1].equals(";") || TOKENS[k - 1].equals("}") && !token.equals(";"));
      answer(whole ? 1 : -21, whole ? -1 : text.length(), text.toString());
      answer(-21, text.length(), text + "@ int");
      answer(-21, text.length(), text + "99999999999 @");
      depth += token.equals("{") ? 1 : token.equals("}") ? -1 : 0;
      text.append(token).append(' ');
    }
    answer(1, -1, text.toString());
    Trial.faultAt(1, 10, "int a // x");
    Trial.faultAt(1, 13, "int a /* x */");
    Trial.fault(1, "int f(int, int, int, int, int, int, int, int, ^int, int);");
    Trial.fault(1, "int *****^** a;");
    Trial.fault(1, "int f() { " + "(".repeat(24) + "^((((");
    Trial.fault(1, "int a; int a; void g() { b(); } int c ^d;");
    Sentence.says("(A token's place is that of its first byte.)");
    Trial.fault(1, "int a; ^abc;");
    Trial.fault(1, "int a; ^0x1234;");
    Trial.fault(1, "int a; ^\"abc\";");
    Trial.fault(1, "int a; ^<<=;");
    Trial.fault(1, "int a; ^'\\n';");
    Trial.fault(2, "int a = ^abcdef + ghi;");
    Trial.fault(2, "int *p; int f() { return p ^<< 2; }");
  }

  private static String many(int n, String before, String after) {
    StringBuilder all = new StringBuilder();
    for (int i = 0; i < n; i++) {
      all.append(before).append(i).append(after);
    }
    return all.toString();
  }

  private static void faultFour() {
    Sentence.says("2: it means nothing; 4: too much: of both the first in the order told in 3.");
    Trial.fault(2, "int f() { return ^x; } int a[5000];");
    Trial.fault(4, "int a^[5000]; int f() { return x; }");
    Sentence.says("4 is: at a NAME the 101st variable or function of a unit outside of functions, or the 101st parameter or local of a function; at a [ a size above 4000;");
    for (String rest : new String[] {"x;", "x();", "x() { return 0; }", "*x;", "x[2];"}) {
      for (String linkage : new String[] {"int ", "static int ", "extern int "}) {
        String item = linkage + (rest.startsWith("*") ? "*" : "");
        String name = rest.startsWith("*") ? rest.substring(1) : rest;
        answer(1, -1, many(99, "int a", ";") + item + name);
        answer(-24, many(100, "int a", ";").length() + item.length(), many(100, "int a", ";") + item + name);
        answer(-24, many(100, "int a", "();").length() + item.length(), many(100, "int a", "();") + item + name);
      }
    }
    Trial.fault(4, many(100, "int a", ";") + "void ^x();");
    Trial.right("int f() { " + many(99, "int a", ";") + "int x; return 0; }");
    Trial.fault(4, "int f() { " + many(100, "int a", ";") + "int ^x; return 0; }");
    Trial.right("int f(int b) { " + many(98, "int a", ";") + "int x; return 0; }");
    Trial.fault(4, "int f(int b) { " + many(99, "int a", ";") + "int ^x; return 0; }");
    Trial.right("int f(int b, int c, int d, int e, int g, int h, int i, int j) { " + many(92, "int a", ";") + "return 0; }");
    Trial.fault(4, "int f(int b, int c, int d, int e, int g, int h, int i, int j) { " + many(92, "int a", ";") + "int ^x; return 0; }");
    Trial.fault(4, "int f() { " + many(100, "{ int a", "; }") + "{ if (1) int ^x; } return 0; }");
    for (String size : new String[] {"1", "3999", "4000", "0xfa0", "2000 * 2"}) {
      Trial.right("int a[" + size + "]; int f() { int b[" + size + "]; return 0; }");
    }
    for (String size : new String[] {"4001", "0xfa1", "2147483647", "2000 * 2 + 1"}) {
      Trial.fault(4, "int a^[" + size + "];");
      Trial.fault(4, "extern int a^[" + size + "];");
      Trial.fault(4, "static int a^[" + size + "];");
      Trial.fault(4, "int f() { int a^[" + size + "]; return 0; }");
      Trial.fault(4, "int a^[" + size + "] = { 1 };");
    }
    Trial.right("int a[] = { " + "1,".repeat(3999) + "1 };");
    Trial.fault(4, "int a^[] = { " + "1,".repeat(4000) + "1 };");
    Sentence.says("The 101 count different names outside of functions, and of each function its parameters and locals.");
    Trial.right(many(100, "extern int a", ";") + many(100, "int a", ";"));
    Trial.right(many(100, "int a", "();") + many(100, "int a", "() { return 0; }"));
    Trial.fault(4, many(100, "extern int a", ";") + many(100, "int a", ";") + "int ^x;");
    Trial.fault(4, "int f() { " + many(50, "int a", ";") + "{" + many(50, "int a", ";") + "int ^x; } }");
    Trial.right("int f() { " + many(100, "int a", ";") + "return 0; } int g() { " + many(100, "int a", ";") + "return 0; }");
    Trial.right(many(98, "int a", ";") + "int f() { " + many(100, "int a", ";") + "return 0; } int g(int a0);");
    Trial.right("int f(int a, int b); " + "int g() { " + many(100, "int a", ";") + "return 0; }");
  }

  private static void heights() {
    Sentence.says("at an operator a HEIGHT above 60 (of an expression 1, or one more than the greatest of the expressions in it; brackets do not count).");
    String[] flat = {"+", "-", "*", "/", "%", "&", "|", "^", "<<", ">>", "<", ">", "<=", ">=", "==", "!=", "&&", "||"};
    for (String sign : flat) {
      Trial.right(G + "a" + (" " + sign + " a").repeat(59) + "; }");
      String much = G + "a" + (" " + sign + " a").repeat(59) + " ";
      Trial.faultAt(4, much.length(), much + sign + " a; }");
      // The right side counts as the left one does.
      String tall = "(a" + " + a".repeat(58) + ")";
      Trial.right(G + "a " + sign + " " + tall + "; }");
      Trial.faultAt(4, G.length() + 2, G + "a " + sign + " (a" + " + a".repeat(59) + "); }");
    }
    Trial.right(G + "(((a)))" + " + (((a)))".repeat(59) + "; }");
    Trial.right(G + "((((a" + " + a".repeat(59) + ")))); }");
    String s59 = "(a" + " + a".repeat(58) + ")";
    String s60 = "(a" + " + a".repeat(59) + ")";
    for (String sign : new String[] {"-", "!", "~"}) {
      Trial.right(G + sign + s59 + "; }");
      Trial.faultAt(4, G.length(), G + sign + s60 + "; }");
    }
    Trial.right(G + "*(p + (a" + " + a".repeat(57) + ")); }");
    Trial.faultAt(4, G.length(), G + "*(p + " + s59 + "); }");
    for (String sign : new String[] {"=", "+=", "-=", "*=", "/=", "%=", "&=", "|=", "^=", "<<=", ">>="}) {
      Trial.right(G + "a " + sign + " " + s59 + "; }");
      Trial.faultAt(4, G.length() + 2, G + "a " + sign + " " + s60 + "; }");
    }
    for (String sign : new String[] {"&", "++", "--"}) {
      Trial.right(G + sign + "p[a" + " + a".repeat(57) + "]; }");
      Trial.faultAt(4, G.length(), G + sign + "p" + s59.replace('(', '[').replace(')', ']') + "; }");
    }
    for (String sign : new String[] {"++", "--"}) {
      String place = G + "p" + s59.replace('(', '[').replace(')', ']');
      Trial.faultAt(4, place.length(), place + sign + "; }");
    }
    Sentence.says("At one operator 2 is told before 4; a call, a [ ], a cast and ? : have a height 1 more too (told at the NAME, [, ( and ?).");
    Trial.right(G + "g" + s59 + "; }");
    Trial.faultAt(4, G.length(), G + "g" + s60 + "; }");
    Trial.right(G + "k(1, " + s59 + "); }");
    Trial.faultAt(4, G.length(), G + "k(1, " + s60 + "); }");
    Trial.faultAt(4, G.length(), G + "k(" + s60 + ", 1); }");
    Trial.right(G + "p[" + s59 + "]; }");
    Trial.faultAt(4, G.length() + 1, G + "p[" + s60 + "]; }");
    Trial.faultAt(4, (G + "(p + " + s59 + ")").length(), G + "(p + " + s59 + ")[1]; }");
    Trial.right(G + "(p + (a" + " + a".repeat(57) + "))[1]; }");
    Trial.right(G + "(int)" + s59 + "; }");
    Trial.faultAt(4, G.length(), G + "(int)" + s60 + "; }");
    Trial.right(G + "a ? a : " + s59 + "; }");
    Trial.faultAt(4, G.length() + 2, G + "a ? a : " + s60 + "; }");
    Trial.faultAt(4, G.length() + 2, G + "a ? " + s60 + " : a; }");
    Trial.faultAt(4, G.length() + s60.length() + 1, G + s60 + " ? a : a; }");
    Trial.right(G + s59 + " ? a : a; }");
    Trial.faultAt(2, G.length() + s60.length() + 1, G + s60 + " * p; }");
    Trial.faultAt(2, G.length(), G + "g(" + s60 + ", 1); }");
    Trial.faultAt(2, G.length() + 2, G + "p = " + s60 + "; }");
    Trial.faultAt(2, G.length() + 1, G + "a[" + s60 + "]; }");
    Trial.faultAt(2, G.length() + 2, G + "a ? p : " + s60 + "; }");
    Trial.faultAt(2, G.length(), G + "*" + s60 + "; }");
    Trial.faultAt(2, G.length() + 2, G + "1 = " + s60 + "; }");
    Trial.faultAt(4, (G + "p * (a" + " + a".repeat(59) + " ").length(), G + "p * (a" + " + a".repeat(60) + "); }");
  }
}

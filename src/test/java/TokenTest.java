/** Term 1 and 6: bytes, blanks, tokens and lines (promises 4 and 5). */
public final class TokenTest {
  public static void main(String[] args) {
    bytes();
    blanks();
    names();
    numbers();
    strings();
    signs();
    lines();
    Trial.finish("TokenTest");
  }

  private static void bytes() {
    Trial.right("");
    Trial.right(" \t\r\n ");
    Trial.right("\tint\ra\n;");
    for (char c : new char[] {0, 1, 8, 11, 12, 14, 31, 127, 128, 160, 255, '@', '#', '$', '`', '\\', '.'}) {
      Trial.faultAt(1, 6, "int a;" + c);
      Trial.faultAt(1, 0, "" + c);
    }
    for (char c : new char[] {0, 31, 127, 255}) {
      Trial.faultAt(1, 10, "int a; // " + c + "\n int b;");
      Trial.faultAt(1, 9, "int a; /*" + c + "*/");
      Trial.faultAt(1, 10, "int a; /* " + c + " never ended");
      Trial.faultAt(1, 8, "int a = '" + c + "';");
      Trial.faultAt(1, 9, "int *a = \"" + c + "\";");
      Trial.faultAt(1, 9, "int *a = \"ab" + c + " never ended");
    }
    Trial.right("int a; // @ # $ ` \\ . ' \" /* \n int b; /* @ # \" ' // * / ** */");
    Trial.faultAt(1, 4, "int 5a; \u0001");
  }

  private static void blanks() {
    Trial.right("int/**/a/* x */;//");
    Trial.right("int a; // to the end");
    Trial.right("int a; //\n//\nint b;");
    Trial.faultAt(1, 7, "int a; /*");
    Trial.faultAt(1, 7, "int a; /*/");
    Trial.faultAt(1, 7, "int a; /* * /");
    Trial.right("int a; /**/");
    Trial.right("int a; /***/");
    Trial.right("int a; /*/*/");
    Trial.fault(1, "int a;   ^/* never ended");
    Trial.right("int a = 8 / /* x */ 2; // y");
    Trial.right("int f(int *p) { return 8 / *p; }");
    Trial.fault(1, "int f(int *p) { return 8 ^/*p; }");
  }

  private static void names() {
    Trial.right("int _; int a1_Z9; int Int; int returns; int _int;");
    Trial.right("int abcdefghijklmnopqrstuvwx;");
    Trial.faultAt(1, 4, "int abcdefghijklmnopqrstuvwxy;");
    Trial.faultAt(1, 4, "int abcdefghijklmnopqrstuvwxyz_0123456789;");
    for (String word : new String[] {"int", "void", "static", "extern", "if", "else", "while", "do",
        "for", "break", "continue", "return"}) {
      Trial.faultAt(1, 4, "int " + word + ";");
    }
    Trial.faultAt(1, 4, "int 1a;");
  }

  private static void numbers() {
    Trial.gives(2147483647, Trial.main("return 2147483647;"));
    Trial.fault(1, "int a = ^2147483648;");
    Trial.fault(1, "int a = -^2147483648;");
    Trial.fault(1, "int a = ^99999999999999999999999999999999;");
    Trial.gives(7, Trial.main("return 007;"));
    Trial.gives(1, Trial.main("return 0000000000000000000000001;"));
    Trial.gives(8, Trial.main("return 08;"));
    Trial.gives(-1, Trial.main("return 0xffffffff;"));
    Trial.gives(Integer.MIN_VALUE, Trial.main("return 0x80000000;"));
    Trial.gives(0xaBcDeF, Trial.main("return 0xaBcDeF;"));
    Trial.gives(9, Trial.main("return 0x00000009;"));
    Trial.fault(1, "int a = ^0x000000009;");
    Trial.fault(1, "int a = ^0x123456789;");
    Trial.fault(1, "int a = 0^x;");
    Trial.fault(1, "int a = 0^X1;");
    Trial.fault(1, "int a = 0^xg;");
    Trial.fault(1, "int a = 0x1^g;");
    Trial.fault(1, "int a = 12^ab;");
    Trial.gives('a', Trial.main("return 'a';"));
    Trial.gives(10, Trial.main("return '\\n';"));
    Trial.gives(0, Trial.main("return '\\0';"));
    Trial.gives(92, Trial.main("return '\\\\';"));
    Trial.gives(39, Trial.main("return '\\'';"));
    Trial.gives(34, Trial.main("return '\\\"';"));
    Trial.gives(34, Trial.main("return '\"';"));
    Trial.gives(32, Trial.main("return ' ';"));
    Trial.gives(126, Trial.main("return '~';"));
    Trial.fault(1, "int a = ^'';");
    Trial.fault(1, "int a = ^''';");
    Trial.fault(1, "int a = ^'ab';");
    Trial.fault(1, "int a = ^'\\t';");
    Trial.fault(1, "int a = ^'\\';");
    Trial.fault(1, "int a = ^'a;");
    Trial.fault(1, "int a = ^'a");
    Trial.fault(1, "int a = ^'");
    Trial.fault(1, "int a = ^'\t';");
    Trial.fault(1, "int a = ^'\n';");
  }

  private static void strings() {
    Trial.ends(0, 0, "a'b\"c\\d\n~ ", "void put(int); int main() { int *p = \"a'b\\\"c\\\\d\\n~ \"; "
        + "while (*p) put(*p++); return *p; }");
    Trial.gives('\'', Trial.main("return \"\\'\"[0];"));
    Trial.gives('x', Trial.main("return \"\\0x\"[1];"));
    Trial.gives(0, Trial.main("return *\"\";"));
    String long200 = "x".repeat(200);
    Trial.right("int *p = \"" + long200 + "\";");
    Trial.right("int *p = \"" + "\\n".repeat(200) + "\";");
    Trial.faultAt(1, 9, "int *p = \"" + long200 + "x\";");
    Trial.faultAt(1, 9, "int *p = \"" + "\\n".repeat(201) + "\";");
    Trial.fault(1, "int *p = ^\"abc;\n\";");
    Trial.fault(1, "int *p = ^\"abc");
    Trial.fault(1, "int *p = ^\"abc\\");
    Trial.fault(1, "int *p = ^\"a\\qb\";");
    Trial.fault(1, "int *p = ^\"a\tb\";");
    Trial.fault(1, "int *p = \"ab\" ^\"cd\";");
  }

  private static void signs() {
    Trial.gives(1, Trial.main("int a = 1; int b = 2; return a---b==-1;"));
    Trial.gives(3, Trial.main("int a = 1; int b = 2; return a+++b;"));
    Trial.gives(16, Trial.main("int a = 4; a<<=2; return a;"));
    Trial.gives(1, Trial.main("int a = 4; a>>=2; return a;"));
    Trial.gives(1, Trial.main("return 2>=1==1!=0;"));
    Trial.gives(6, Trial.main("return 4|2&&1?6:7;"));
    Trial.fault(1, "int a = 1 <<^< 2;");
    Trial.fault(1, Trial.main("int a; a + ^= 2;"));
    Trial.fault(1, Trial.main("int a; a = ^+2;"));
    Trial.fault(1, "int a^.b;");
  }

  private static void lines() {
    Trial.traps(1, 1, "int main() { return 1 / 0; }");
    Trial.traps(1, 4, "int main() {\n return 1 // x\n /* \r */\n / 0; }");
    Trial.traps(1, 5, "/* \n\n */ // \n int main() { return 1\n% 0; }");
    Trial.traps(1, 2, "int main()\r\n{ return 1 / 0; }");
  }
}

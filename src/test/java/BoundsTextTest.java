/** The bounds that the document names for a text of rules (Terms, I; promises 4 to 7), a method for each sentence. */
public final class BoundsTextTest {
  private static final String A = "kind a worth 1 price 0 at 0;";
  private static final String AM = "kind a worth 1 price 0 at 0 is m;";

  private static void fault(int number, String text) {
    Check.fault(number, text);
  }

  private static void sound(int statements, String text) {
    Check.sound(statements, text);
  }

  // ---- words, numbers, signs, blanks

  /** "WORDS (1 to 8 letters ..)", "a 9th letter .. at itself, whatever may stand there". */
  private static void lettersOfWords() {
    sound(1, "kind a worth 1 price 0 at 0;");
    sound(1, "kind abcdefgh worth 1 price 0 at 0;");
    fault(1, "kind abcdefgh^i worth 1 price 0 at 0;");
    fault(1, "kind abcdefgh^ijklmnopqrstuvwxyz worth 1 price 0 at 0;");
    sound(1, "kind a worth 1 price 0 at 0 is abcdefgh;");
    fault(1, "kind a worth 1 price 0 at 0 is abcdefgh^i;");
    sound(1, "kind a worth 1 price 0 at 0 is m,abcdefgh;");
    fault(1, "kind a worth 1 price 0 at 0 is m,abcdefgh^i;");
    sound(2, "kind abcdefgh worth 1 price 0 at 0;never abcdefgh for all;");
    fault(1, "kind abcdefgh worth 1 price 0 at 0;never abcdefgh^h for all;");
    fault(1, "never abcdefgh^i for all;");
    fault(3, "never ^abcdefgh for all;");
    sound(1, "gifts 1 for wish abcdefgh;");
    fault(1, "gifts 1 for wish abcdefgh^i;");
  }

  /** The same where no word, or none but an own one may stand. */
  private static void ninthLetterAnywhere() {
    fault(1, "^abcdefgh");
    fault(1, "abcdefgh^i");
    fault(1, "evenabcd^e 5;");
    fault(1, "^evenabcd 5;");
    fault(1, "even abcdefgh^i;");
    fault(1, "even ^abcdefgh;");
    fault(1, "even 5 abcdefgh^i;");
    fault(1, "even 5;abcdefgh^i");
    fault(1, "kind a abcdefgh^i");
    fault(1, "kind a ^abcdefgh");
    fault(1, "gifts abcdefgh^i for all;");
    fault(1, "gifts 1 for abcdefgh^i;");
    fault(1, "gifts 1 for 1<2 abcdefgh^i;");
    fault(1, "gifts 1 for [all abcdefgh^i");
    fault(1, "likes 1 of abcdefgh^i for all;");
  }

  /** "letters a .. z": the bytes beside them are none, nor are great letters. */
  private static void lettersAreAToZ() {
    sound(1, "kind az worth 1 price 0 at 0;");
    for (String sign : new String[] {"`", "{", "A", "Z", "@", "_", "\u00e1"}) {
      fault(1, "kind ^" + sign + " worth 1 price 0 at 0;");
      fault(1, "kind a^" + sign + " worth 1 price 0 at 0;");
      fault(1, "^" + sign);
    }
  }

  /** "NUMBERS (1 to 5 digits)", "a 6th digit at itself, whatever may stand there". */
  private static void digitsOfNumbers() {
    sound(1, "gifts 0 for all;");
    sound(1, "gifts 99999 for all;");
    fault(1, "gifts 99999^9 for all;");
    fault(1, "gifts 00000^1 for all;");
    sound(1, "gifts 1 for 99999=99999;");
    fault(1, "gifts 1 for 99999=99999^0;");
    sound(1, "even 00009;");
    fault(1, "even 00000^9;");
    sound(1, "kind a worth 00500 price 01000 at 00200;");
    fault(1, "kind a worth 00050^0 price 0 at 0;");
    fault(1, "kind a worth 1 price 00100^0 at 0;");
    fault(1, "kind a worth 1 price 0 at 00020^0;");
    fault(1, "even 99999^99999;");
  }

  private static void sixthDigitAnywhere() {
    fault(1, "^12345");
    fault(1, "12345^6");
    fault(1, "kind 12345^6");
    fault(1, "kind ^12345");
    fault(1, "even 5 12345^6;");
    fault(1, "even 5 ^12345;");
    fault(1, "even 5;12345^6");
    fault(1, "gifts 1 for wish 12345^6;");
    fault(1, "never 12345^6 for all;");
    fault(1, "gifts 1 12345^6");
  }

  /** Digits are 0 .. 9: the bytes beside them are none. */
  private static void digitsAreZeroToNine() {
    sound(1, "even 09;");
    sound(1, "even 90;");
    for (String sign : new String[] {"/", ":"}) {
      fault(1, "even ^" + sign + ";");
      fault(1, "even 0^" + sign + ";");
      fault(1, "even 9^" + sign + ";");
    }
  }

  /** "blanks (10, 32)": no other byte is one, wherever it stands. */
  private static void blanksAreTwo() {
    for (int b = 0; b < 256; b++) {
      char c = (char) b;
      if (b == 10 || b == 32) {
        sound(1, c + "even 5;");
        sound(1, "even" + c + "5;");
        sound(1, "even 5" + c + ";");
        sound(1, "even 5;" + c);
      } else if (c != '^') {
        // a letter makes another word of the one ahead of it, which is then the fault, whole
        boolean letter = c >= 'a' && c <= 'z';
        fault(1, "even 5;^" + c);
        fault(1, "^" + c + "even 5;");
        fault(1, letter ? "^even" + c + " 5;" : "even^" + c + " 5;");
      }
    }
  }

  /** "with blanks between where one likes (WORDS and NUMBERS side by side need one)": none, one, or many. */
  private static void blanksWhereOneLikes() {
    String tight = "kind a worth 1 price 2 at 3 is m,n;never[a or m]and not n for[age<3]or wish x;"
        + "likes(age+2)*3-1 of any for not all;gifts 2 for(ages)>wishes;even 5;";
    sound(5, tight);
    sound(5, tight.replaceAll("([^a-z0-9 ])", " $1 "));
    sound(5, tight.replaceAll("([^a-z0-9 ])", "\n\n$1  \n").replace(" ", " \n "));
    sound(5, "\n " + tight.replace(" ", "\n") + " \n");
  }

  /** The need of a blank, at each place where a word or a number stands beside another one. */
  private static void sideBySide() {
    fault(1, "even^5;");
    sound(1, "even 5;");
    fault(1, "kind a^5 worth 1 price 0 at 0;");
    fault(1, "kind a worth^1 price 0 at 0;");
    fault(1, "kind a worth 1^price 0 at 0;");
    fault(1, "kind a worth 1 price^0 at 0;");
    fault(1, "kind a worth 1 price 0^at 0;");
    fault(1, "kind a worth 1 price 0 at^0;");
    fault(1, "kind a worth 1 price 0 at 0^is m;");
    fault(1, "gifts^1 for all;");
    fault(1, "gifts 1^for all;");
    fault(1, "gifts age+1^for all;");
    fault(1, "gifts 1 for age<1^and all;");
    fault(1, "gifts 1 for age<1^or all;");
    fault(1, "likes^1 of any for all;");
    fault(1, "likes 1^of any for all;");
    fault(1, "gifts 1 for not^1<2;");
    fault(1, "gifts 1 for wish x^1;");
    fault(1, "gifts 1 for ^notall;");
    fault(1, "gifts^1for all;");
    sound(1, "gifts(1)for(1)<2 and[all];");
  }

  // ---- statements

  /** "{ STATEMENT ; }": none at all, and each with its sign behind. */
  private static void noneOrMany() {
    sound(0, "");
    sound(0, " ");
    sound(0, "\n");
    fault(1, "^;");
    fault(1, "even 5^");
    fault(1, "even 5 ^even 5;");
    sound(2, "even 5;even 5;");
    fault(1, "even 5;^;");
    fault(1, A.replace(";", "^"));
    fault(1, "never any for all^");
    fault(1, "likes 1 of any for all^");
    fault(1, "gifts 1 for all^");
  }

  /** "at the text's length, if it ends too soon": behind each word, number and sign of each statement. */
  private static void endsTooSoon() {
    String[] texts = {"kind a worth 1 price 2 at 3 is m , n ;",
      "never not [ any or any ] and any for all or wish x and not [ all ] ;",
      "likes ( age + 1 ) * 2 - ages of any for school < house ;", "gifts wishes for 1 > 2 or 3 = 3 ;", "even 5 ;"};
    for (String text : texts) {
      String[] parts = text.split(" ");
      StringBuilder cut = new StringBuilder();
      for (int i = 0; i < parts.length - 1; i++) {
        cut.append(parts[i]);
        fault(1, cut + "^");
        fault(1, cut + " \n ^");
        cut.append(' ');
      }
      sound(1, text);
    }
  }

  /** "the first byte with which no TEXT goes on": where a part of a statement lacks, at what stands in its place. */
  private static void partsThatLack() {
    String[] texts = {"kind^;", "kind ^worth 1 price 0 at 0;", "kind a^;", "kind a ^1 price 0 at 0;",
      "kind a ^price 0 at 0;", "kind a worth^;", "kind a worth ^price 0 at 0;", "kind a worth 1^;",
      "kind a worth 1 ^0 at 0;", "kind a worth 1 ^at 0;", "kind a worth 1 price ^at 0;", "kind a worth 1 price 0^;",
      "kind a worth 1 price 0 ^0;", "kind a worth 1 price 0 ^is m;", "kind a worth 1 price 0 at^;",
      "kind a worth 1 price 0 at ^is m;", "kind a worth 1 price 0 at 0 ^m;", "kind a worth 1 price 0 at 0^,m;",
      "kind a worth 1 price 0 at 0 is^;", "kind a worth 1 price 0 at 0 is^,m;", "kind a worth 1 price 0 at 0 is m ^n;",
      "kind a worth 1 price 0 at 0 is m,^;", "kind a worth 1 price 0 at 0 is m,^,n;",
      "kind a worth 1 price 0 at 0 is m ^is n;", "never^;", "never ^for all;", "never any^;", "never any ^all;",
      "never any for^;", "never any or ^for all;", "never any and^;", "never not ^for all;", "never [^] for all;",
      "never [any ^for all;", "never any ^any for all;", "likes^;", "likes ^of any for all;", "likes 1^;",
      "likes 1 ^any for all;", "likes 1 ^for all;", "likes 1 of ^for all;", "likes 1 of any^;", "likes 1 of any ^all;",
      "likes 1 of any for^;", "gifts^;", "gifts ^for all;", "gifts 1^;", "gifts 1 ^all;", "gifts 1 for^;",
      "gifts 1 for age^;", "gifts 1 for age ^3;", "gifts 1 for age<^;", "gifts 1 for ^<3;", "gifts 1 for age<^<3;",
      "gifts 1 for age<3^=3;", "gifts 1 for all and^;", "gifts 1 for all or^;", "gifts 1 for not^;",
      "gifts 1 for wish^;", "gifts 1 for [^];", "gifts 1 for (^);", "gifts (^) for all;", "gifts 1+ ^for all;",
      "gifts ^+1 for all;", "gifts 1+^+1 for all;", "gifts 1 ^1 for all;", "even^;", "even 5 ^6;", "^5;",
      "^a;", "^any;"};
    for (String text : texts) {
      fault(1, text);
    }
  }

  private static String kinds(int n) {
    StringBuilder text = new StringBuilder();
    for (int i = 0; i < n; i++) {
      text.append("kind ").append((char) ('a' + i)).append(" worth 1 price 0 at 0;");
    }
    return text.toString();
  }

  /** "a KIND of gift (10 at most)", "5 an 11th KIND .. at its first byte". */
  private static void tenKinds() {
    for (int n = 0; n <= 10; n++) {
      sound(n, kinds(n));
    }
    fault(5, kinds(10) + "^kind k worth 1 price 0 at 0;");
    fault(5, kinds(10) + "  \n^kind k worth 1 price 0 at 0;");
    fault(5, kinds(10) + "^kind");
    fault(5, kinds(10) + "^kind a");
    fault(5, kinds(10) + "^kind 5");
    fault(1, kinds(10) + "^kinds");
    fault(1, kinds(10) + "^k");
    sound(12, kinds(5) + "even 1;" + kinds(10).substring(kinds(5).length()) + "even 2;");
    WinterToys toys = Check.barn(kinds(10));
    Check.due("13: KINDS", toys.all(0), 10);
  }

  private static void number(String text, int least, int most) {
    sound(1, text.replace("#", "" + least));
    sound(1, text.replace("#", "" + most));
    fault(4, text.replace("#", "^" + (most + 1)));
    fault(4, text.replace("#", "^99999"));
    fault(4, text.replace("#", "^0" + (most + 1)));
    fault(1, text.replace("#", "^-1"));
    sound(1, text.replace("#", "0" + most));
    if (least > 0) {
      fault(4, text.replace("#", "^" + (least - 1)));
      fault(4, text.replace("#", "^00000"));
    }
  }

  /** "WORTH (1 .. 500), PRICE (0 .. 1000 ..), SHELF (0 .. 200)", "EVEN is 0 .. 1000", "4 a NUMBER that can't be". */
  private static void numbersThatCantBe() {
    number("kind a worth # price 0 at 0;", 1, 500);
    number("kind a worth 1 price # at 0;", 0, 1000);
    number("kind a worth 1 price 0 at #;", 0, 200);
    number("kind a worth 1 price 0 at # is m;", 0, 200);
    number("even #;", 0, 1000);
    fault(4, "kind a worth ^0");
    fault(4, "kind a worth ^501 pric");
    fault(4, "even ^1001");
  }

  /** A number in a sum can be any. */
  private static void numbersInSums() {
    sound(1, "gifts 0 for all;");
    sound(1, "gifts 99999 for 0<99999;");
    sound(1, "likes 99999*99999 of any for all;");
  }

  /** "MARKS (8 at most in all ..)", "5 .. a 9th MARK, at its first byte". */
  private static void eightMarks() {
    String seven = "kind z worth 1 price 0 at 0 is a,b,c,d,e,f,g;";
    String eight = "kind z worth 1 price 0 at 0 is a,b,c,d,e,f,g,h;";
    sound(1, seven);
    sound(1, eight);
    fault(5, eight.replace(";", ",^i;"));
    sound(2, seven + "kind y worth 1 price 0 at 0 is h;");
    fault(5, seven + "kind y worth 1 price 0 at 0 is h,^i;");
    sound(2, eight + "kind y worth 1 price 0 at 0 is h,a;");
    fault(5, eight + "kind y worth 1 price 0 at 0 is ^i;");
    fault(5, eight + "kind y worth 1 price 0 at 0 is a,  ^i");
    fault(2, eight + "kind y worth 1 price 0 at 0 is ^y;");
    fault(2, eight + "kind y worth 1 price 0 at 0 is a,^a;");
    fault(1, eight + "kind y worth 1 price 0 at 0 is ^is;");
    WinterToys toys = Check.barn(eight + "kind y worth 1 price 0 at 0 is h,a;");
    Check.due("13: MARKS", toys.all(1), 8);
    Check.due("7: the last MARK", toys.marked(1, 7), 1);
    Check.due("7: the last but one", toys.marked(1, 6), 0);
  }

  /** "MARKS (.. unlike ones)": one that a kind has already; another kind may have it. */
  private static void unlikeMarks() {
    sound(1, "kind a worth 1 price 0 at 0 is m,n;");
    fault(2, "kind a worth 1 price 0 at 0 is m,^m;");
    fault(2, "kind a worth 1 price 0 at 0 is m,n,^m;");
    fault(2, "kind a worth 1 price 0 at 0 is m,n,^n");
    sound(2, AM + "kind b worth 1 price 0 at 0 is m;");
    fault(2, AM + "kind b worth 1 price 0 at 0 is n,m,^m;");
    sound(1, "kind a worth 1 price 0 at 0 is m,mm;");
    sound(1, "kind a worth 1 price 0 at 0 is abcdefgh,abcdefgi,abcdefg;");
  }

  /** "NAMES of KINDS are unlike one another and unlike those of MARKS.", "2 a NAME of a new KIND that ..". */
  private static void unlikeNames() {
    fault(2, A + "kind ^a worth 1 price 0 at 0;");
    fault(2, A + "kind ^a");
    sound(2, A + "kind aa worth 1 price 0 at 0;");
    fault(2, "kind abcdefgh worth 1 price 0 at 0;kind ^abcdefgh worth 1 price 0 at 0;");
    sound(2, "kind abcdefgh worth 1 price 0 at 0;kind abcdefgi worth 1 price 0 at 0;");
    sound(2, "kind abcdefgh worth 1 price 0 at 0;kind bbcdefgh worth 1 price 0 at 0;");
    fault(2, AM + "kind ^m worth 1 price 0 at 0;");
    sound(2, AM + "kind n worth 1 price 0 at 0;");
    fault(2, "kind a worth 1 price 0 at 0 is ^a;");
    fault(2, "kind a worth 1 price 0 at 0 is m,^a;");
    fault(2, A + "kind b worth 1 price 0 at 0 is ^a;");
    fault(2, kinds(9) + "kind z worth 1 price 0 at 0 is ^i;");
    sound(10, kinds(9) + "kind z worth 1 price 0 at 0 is j;");
  }

  /** "NAME of a KIND or a MARK that was told ahead", "3 a NAME in a WHICH that none has, at its first byte". */
  private static void toldAhead() {
    sound(2, A + "never a for all;");
    fault(3, "never ^a for all;" + A);
    fault(3, A + "never ^b for all;kind b worth 1 price 0 at 0;");
    sound(2, AM + "never m for all;");
    fault(3, "never ^m for all;" + AM);
    fault(3, AM + "never ^n for all;");
    fault(3, AM + "never ^mm for all;");
    fault(3, AM + "never a or ^x for all;");
    fault(3, AM + "never a and not [m or ^x");
    fault(3, AM + "likes 1 of ^x for all;");
    sound(2, AM + "likes 1 of m for all;");
    sound(3, AM + "never m for all;kind b worth 1 price 0 at 0 is m;");
    fault(3, kinds(10) + "never ^k for all;");
    sound(11, kinds(10) + "never j for all;");
  }

  /** "wish NAME (.. any NAME)": it needs no kind, and may be one. */
  private static void wishOfAnyName() {
    sound(1, "gifts 1 for wish nobody;");
    sound(2, AM + "gifts 1 for wish a or wish m;");
  }

  /** "OWN WORDS, which no NAME is": each of them, wherever a name must be; a letter more makes it a name. */
  private static void ownWords() {
    for (String own : Model.OWN) {
      fault(1, "kind ^" + own + " worth 1 price 0 at 0;");
      fault(1, "kind a worth 1 price 0 at 0 is ^" + own + ";");
      fault(1, "kind a worth 1 price 0 at 0 is m,^" + own + ";");
      fault(1, "gifts 1 for wish ^" + own + ";");
      if (!own.equals("any") && !own.equals("not")) {
        fault(1, "never ^" + own + " for all;");
      }
      String more = own + (own.equals("age") || own.equals("wish") ? "x" : "s");
      sound(2, "kind " + more + " worth 1 price 0 at 0;never " + more + " for wish " + more + ";");
      String less = own.substring(0, own.length() - 1);
      if (!Model.OWN.contains(less)) {
        sound(2, "kind " + less + " worth 1 price 0 at 0;never " + less + " for wish " + less + ";");
      }
    }
    Check.due("as many as the document tells", Model.OWN.size(), 22);
  }

  /** "At most 24 STATEMENTS that are no kind", "5 .. a 25th other STATEMENT, at its first byte". */
  private static void twentyFourOthers() {
    String[] others = {"even 1;", "never any for all;", "gifts 1 for all;", "likes 1 of any for all;"};
    for (String other : others) {
      sound(24, other.repeat(24));
      for (String more : others) {
        fault(5, other.repeat(24) + "^" + more);
      }
    }
    String all = "even 1;".repeat(24);
    fault(5, all + " \n^even");
    fault(5, all + "^never never");
    fault(5, all + "^likes 123456");
    fault(5, all + "^gifts;");
    fault(1, all + "^ever");
    fault(1, all + "^;");
    sound(25, all + A);
    sound(34, kinds(10) + all);
    sound(34, all + kinds(10));
    fault(5, kinds(10) + all + "^even 1;");
    fault(5, kinds(10) + all + "^kind k");
    WinterToys toys = Check.barn(all + A);
    Check.due("13: other STATEMENTS", toys.all(2), 24);
    Check.due("13: KINDS", toys.all(0), 1);
  }

  /** "8 ( [ that are open at once, together", "5 .. what is open too much, at its sign". */
  private static void eightOpen() {
    String[] texts = {"never # for all;", "gifts 1 for #;", "gifts 1 for not # and all;"};
    for (int i = 0; i < texts.length; i++) {
      String inner = i == 0 ? "any" : "all";
      sound(1, texts[i].replace("#", "[".repeat(8) + inner + "]".repeat(8)));
      fault(5, texts[i].replace("#", "[".repeat(8) + "^[" + inner + "]".repeat(9)));
      fault(5, texts[i].replace("#", "[".repeat(8) + "^["));
    }
    String[] sums = {"gifts # for all;", "likes # of any for all;", "gifts 1 for #<2;", "gifts 1 for 2>#;",
      "gifts 1 for 1=1 and 2+#=3;"};
    for (String text : sums) {
      sound(1, text.replace("#", "(".repeat(8) + "1" + ")".repeat(8)));
      fault(5, text.replace("#", "(".repeat(8) + "^(1" + ")".repeat(9)));
      fault(5, text.replace("#", "(".repeat(8) + "^("));
    }
  }

  /** "together": round and square ones are counted as one; those that were closed are not. */
  private static void openTogether() {
    for (int square = 0; square <= 8; square++) {
      String round = "(".repeat(8 - square) + "1" + ")".repeat(8 - square);
      sound(1, "gifts 1 for " + "[".repeat(square) + round + "=1" + "]".repeat(square) + ";");
      sound(1, "gifts 1 for " + "[".repeat(square) + "1=" + round + "]".repeat(square) + ";");
      fault(5, "gifts 1 for " + "[".repeat(square) + "(".repeat(8 - square) + "^(1");
    }
    fault(5, "gifts 1 for [[[[[[[[1=^(1");
    sound(1, "gifts 1 for [[[[[[[(1)=(1)]]]]]]] and [[[[[[[(1)=1]]]]]]];");
    sound(1, "gifts 1 for [[[[[[[[all]]]]]]]] and [[[[[[[[all]]]]]]]] or ((((((((1))))))))=((((((((1))))))));");
    sound(1, "never [[[[[[[[any]]]]]]]] and [any] for [[[[[[[[all]]]]]]]];");
    sound(2, "gifts ((((((((1)))))))) for all;gifts ((((((((1)))))))) for all;");
    sound(1, "gifts (1)+(1)+(1)+(1)+(1)+(1)+(1)+(1)+(1)+(1) for all;");
    sound(1, "gifts 1 for [all] and [all] and [all] and [all] and [all] and [all] and [all] and [all] and [all];");
    fault(5, "gifts 1 for [[[[[[[[all] or [1=^(1)]]]]]]]];");
    fault(1, "gifts 1 for all^];");
    fault(1, "gifts 1^) for all;");
    fault(1, "never any^] for all;");
    fault(1, "gifts 1 for [all^;");
    fault(1, "gifts (1 ^for all;");
  }

  /** "FAULTS, the first along the text": the first of two is told, whatever their numbers. */
  private static void firstAlongTheText() {
    fault(4, "even ^1001;;");
    fault(1, "even 1^,1001;");
    fault(4, "kind a worth ^0 price 1001 at 201;");
    fault(4, "kind a worth 1 price ^1001 at 201;");
    fault(2, A + "kind ^a worth 0");
    fault(4, A + "kind b worth ^0 price 0 at 0 is a;");
    fault(3, "never ^x for ;");
    fault(1, "never any ^x for all;");
    fault(3, "never [[[[[[[[^x[");
    fault(5, "never [[[[[[[[^[x");
    fault(5, kinds(10) + "^kind a worth 0 price 1001 at 201 is a,a;");
    fault(5, "even 1;".repeat(24) + "^even 1001;");
    fault(5, "even 1;".repeat(24) + "^never x for all;");
    fault(4, "even 1;".repeat(23) + "even ^1001;even 1;");
    fault(1, "even 12345^6 1001;");
    fault(2, "kind a worth 1 price 0 at 0 is ^a,b,c,d,e,f,g,h,i,j;");
  }

  // ---- promises 4 to 7

  /** "-1 with a FAULT (all stays)": of each of the five, with all that an object may have. */
  private static void allStays() {
    String[] faults = {"even", "kind a worth 1 price 0 at 0;kind a", "never x for all;", "even 1001;",
      "even 1;".repeat(25)};
    WinterToys toys = Check.barn(AM + "kind b worth 2 price 1 at 5;even 7;gifts 2 for all;");
    Check.report(toys, "doll", 5, 6, 7, 8, 9);
    toys.gifts(0, 1, 1);
    toys.as(2);
    toys.give();
    toys.spend(0);
    toys.label(0);
    toys.gifts(1, 1, 1);
    for (int i = 0; i < faults.length; i++) {
      Check.due("4: rules()", Check.rules(toys, faults[i]), -1);
      Check.due("5: FAULT", toys.fault(0), i + 1);
      Check.due("4: the tape goes", toys.end(1), false);
      int[] all = {2, 1, 2, 3, 2, 1, 0, 7};
      for (int what = 0; what < all.length; what++) {
        Check.due("4: all(" + what + ")", toys.all(what), all[what]);
      }
      Check.same("4: KIND 1", Check.name(toys, false, 1), "b");
      Check.same("4: MARK 0", Check.name(toys, true, 0), "m");
      Check.due("4: gets", toys.gets(0), 1);
      Check.due("4: spent", toys.spent(), 0);
      Check.due("4: DUE", toys.of(0, 9), 2);
      Check.due("4: at", toys.at(0), 'a');
      Check.same("4: WISH", Check.wish(toys, 0, 0), "doll");
    }
    Check.due("4: ACTS go on", toys.annul(3), 4);
  }

  /** "without one all ACTS go, as() is NONE, and there is no give()": of a text that is empty, too. */
  private static void allGoes() {
    for (String text : new String[] {"", " ", A}) {
      WinterToys toys = Check.barn(AM + "even 7;");
      toys.report(5, 6, 7, 8, 9);
      toys.gifts(0, 1, 1);
      toys.as(1);
      toys.give();
      toys.spend(0);
      int kinds = text.isBlank() ? 0 : 1;
      Check.due("4: rules()", Check.rules(toys, text), kinds);
      Check.due("4: the tape goes", toys.end(1), false);
      int[] all = {kinds, 0, 0, 0, 0, 0, 0, 1000};
      for (int what = 0; what < all.length; what++) {
        Check.due("4: all(" + what + ")", toys.all(what), all[what]);
      }
      Check.due("4: MARKS go", toys.name(true, 0, 0), Check.NONE);
      Check.due("4: child", toys.child(1), Check.NONE);
      Check.due("4: as(1)", toys.as(1), false);
      BoundsGivingTest.noGive("4: behind rules()", toys);
      Check.due("4: ACTS begin anew", toys.report(5, 6, 7, 8, 9), 1);
      Check.due("4: as() is NONE", toys.all(4), 1);
      Check.due("4: all is known", toys.child(1), 0);
    }
  }

  /** An act, and a child, of the same number is another one behind rules(), by other rules. */
  private static void allIsNew() {
    WinterToys toys = Check.barn(AM + "likes 3 of a for all;gifts 3 for all;");
    Check.report(toys, "old", 5, 6, 7, 8, 9);
    Check.due("15: AGE", toys.of(0, 1), 6);
    Check.due("15: DUE", toys.of(0, 9), 3);
    Check.due("18: POINTS", toys.points(0, 0), 3);
    Check.due("4: rules()", Check.rules(toys, "kind b worth 1 price 0 at 0;never b for all;"), 2);
    Check.report(toys, "", 1, 2, 3, 4, 5);
    Check.due("15: AGE", toys.of(0, 1), 2);
    Check.due("15: wishes", toys.of(0, 6), 0);
    Check.due("16: WISH", toys.wish(0, 0, 0), Check.NONE);
    Check.due("15: DUE", toys.of(0, 9), 1);
    Check.due("17: may", toys.may(0, 0), 0);
    Check.due("18: POINTS", toys.points(0, 0), 0);
    Check.due("4: the same once more", Check.rules(toys, "kind b worth 1 price 0 at 0;gifts 2 for all;"), 2);
    toys.report(1, 2, 3, 4, 5);
    Check.due("17: may", toys.may(0, 0), 1);
    Check.due("15: DUE", toys.of(0, 9), 2);
  }

  /** Nothing of a text that was read ahead, sound or not, stays in the rules of a shorter one. */
  private static void nothingStaysBehind() {
    String longer = AM + "kind b worth 1 price 0 at 0 is n;gifts 2 for not not not all or not [wish x];"
        + "likes 9*9 of not a for not all or not 1<2;never not [not b] for all;even 3;";
    String[] shorter = {"gifts 3 for all;", "gifts 3 for 1<2;", A + "likes 3 of a for all;gifts 3 for all;",
      A + "never not a for all;gifts 3 for wish y;"};
    WinterToys toys = new WinterToys();
    for (String text : shorter) {
      for (int round = 0; round < 4; round++) {
        Check.rules(toys, longer + (round < 2 ? "" : ";"));
        Check.rules(toys, text);
        Check.report(toys, "y", 1, 2, 3, 4, 5);
        Check.due("15: DUE by " + text, toys.of(0, 9), 3);
        Check.due("13: MARKS of " + text, toys.all(1), 0);
        Check.due("13: EVEN of " + text, toys.all(7), 1000);
        boolean kinds = text.startsWith(A);
        Check.due("17: may by " + text, toys.may(0, 0), kinds ? 1 : Check.NONE);
        int points = text.contains("likes") ? 3 : 0;
        Check.due("18: POINTS by " + text, toys.points(0, 0), kinds ? points : -2000000000);
      }
    }
  }

  /** "its FAULT (what 0; 0 without, or ahead of any), its place (1; NONE without). NONE for another what." */
  private static void faultsWhat() {
    WinterToys toys = new WinterToys();
    int[] others = {-1, 2, Integer.MIN_VALUE, Integer.MAX_VALUE};
    for (int round = 0; round < 4; round++) {
      for (int what : others) {
        Check.due("5: fault(" + what + ")", toys.fault(what), Check.NONE);
      }
      boolean fault = round == 1 || round == 3;
      Check.due("5: fault(0) in round " + round, toys.fault(0), fault ? 1 : 0);
      Check.due("5: fault(1) in round " + round, toys.fault(1), round == 1 ? 0 : round == 3 ? 4 : Check.NONE);
      String[] texts = {";", "even 5;", "even", ""};
      Check.due("4: rules()", Check.rules(toys, texts[round]), new int[] {-1, 1, -1, 0}[round]);
    }
  }

  /** "Letter k of the NAME of a KIND .., a MARK ..; NONE if there is none such." */
  private static void lettersOfNames() {
    StringBuilder text = new StringBuilder("kind z worth 1 price 0 at 0 is m,abcdefgh,n,o,p,q,r,s;");
    for (int i = 1; i < 9; i++) {
      text.append("kind z").append((char) ('a' + i)).append(" worth 1 price 0 at 0;");
    }
    WinterToys toys = Check.barn(text + "kind stuvwxyz worth 1 price 0 at 0;");
    Check.due("6: KIND 0, letter 0", toys.name(false, 0, 0), 'z');
    Check.due("6: KIND 0, letter 1", toys.name(false, 0, 1), Check.NONE);
    Check.due("6: KIND 0, letter -1", toys.name(false, 0, -1), Check.NONE);
    Check.due("6: KIND 1, letter 1", toys.name(false, 1, 1), 'b');
    Check.due("6: KIND 1, letter 2", toys.name(false, 1, 2), Check.NONE);
    Check.due("6: KIND 9, letter 7", toys.name(false, 9, 7), 'z');
    Check.due("6: KIND 9, letter 8", toys.name(false, 9, 8), Check.NONE);
    Check.due("6: KIND 10", toys.name(false, 10, 0), Check.NONE);
    Check.due("6: KIND -1", toys.name(false, -1, 0), Check.NONE);
    Check.due("6: MARK 0, letter 0", toys.name(true, 0, 0), 'm');
    Check.due("6: MARK 0, letter 1", toys.name(true, 0, 1), Check.NONE);
    Check.due("6: MARK 1, letter 7", toys.name(true, 1, 7), 'h');
    Check.due("6: MARK 1, letter 8", toys.name(true, 1, 8), Check.NONE);
    Check.due("6: MARK 7", toys.name(true, 7, 0), 's');
    Check.due("6: MARK 8", toys.name(true, 8, 0), Check.NONE);
    Check.due("6: MARK -1", toys.name(true, -1, 0), Check.NONE);
    for (int far : new int[] {Integer.MIN_VALUE, Integer.MAX_VALUE, 32, 40, -8}) {
      Check.due("6: KIND " + far, toys.name(false, far, 0), Check.NONE);
      Check.due("6: MARK " + far, toys.name(true, far, 0), Check.NONE);
      Check.due("6: letter " + far, toys.name(false, 9, far), Check.NONE);
      Check.due("6: letter " + far, toys.name(true, 1, far), Check.NONE);
    }
  }

  /** "Whether a KIND has a MARK: 1, 0; NONE if there are none such." */
  private static void markedOrNot() {
    WinterToys toys = Check.barn(A + "kind b worth 1 price 0 at 0 is m,n;");
    int[][] want = {{-1, -1, -1, -1}, {-1, 0, 0, -1}, {-1, 1, 1, -1}, {-1, -1, -1, -1}};
    for (int kind = -1; kind <= 2; kind++) {
      for (int mark = -1; mark <= 2; mark++) {
        Check.due("7: marked(" + kind + ", " + mark + ")", toys.marked(kind, mark), want[kind + 1][mark + 1]);
      }
    }
    for (int far : new int[] {Integer.MIN_VALUE, Integer.MAX_VALUE, 10, 32}) {
      Check.due("7: KIND " + far, toys.marked(far, 0), Check.NONE);
      Check.due("7: MARK " + far, toys.marked(1, far), Check.NONE);
    }
    toys = Check.barn(A);
    Check.due("7: without MARKS", toys.marked(0, 0), Check.NONE);
    toys = Check.barn(kinds(9) + "kind z worth 1 price 0 at 0 is m;");
    Check.due("7: KIND 9", toys.marked(9, 0), 1);
    Check.due("7: KIND 8", toys.marked(8, 0), 0);
    Check.due("7: KIND 10", toys.marked(10, 0), Check.NONE);
  }

  /** A statement may be as long as the tape, and end with its last byte. */
  private static void longestTexts() {
    thousand("never " + "not ".repeat(245), "any for all;");
    thousand("gifts 1 for " + "not ".repeat(245), "all;");
    thousand("gifts 1" + "+1".repeat(490), " for all;");
    thousand("gifts 1 for 1" + "<1 or 1".repeat(140), "<1;");
    thousand("gifts 1 for wish a" + " or wish a".repeat(98), ";");
    thousand("kind a worth 1 price 0 at 0 is m", ";");
    thousand("even 1;".repeat(23), "even 1;");
    fault(1, "kind" + " ".repeat(996) + "^");
  }

  private static void thousand(String head, String tail) {
    String text = head + " ".repeat(1000 - head.length() - tail.length()) + tail;
    WinterToys toys = new WinterToys();
    Check.due("4: rules of " + text, Check.rules(toys, text) > 0, true);
    Check.fault(1, text.substring(0, 999) + "^");
  }

  public static void main(String[] args) {
    lettersOfWords();
    ninthLetterAnywhere();
    lettersAreAToZ();
    digitsOfNumbers();
    sixthDigitAnywhere();
    digitsAreZeroToNine();
    blanksAreTwo();
    blanksWhereOneLikes();
    sideBySide();
    noneOrMany();
    endsTooSoon();
    partsThatLack();
    tenKinds();
    numbersThatCantBe();
    numbersInSums();
    eightMarks();
    unlikeMarks();
    unlikeNames();
    toldAhead();
    wishOfAnyName();
    ownWords();
    twentyFourOthers();
    eightOpen();
    openTogether();
    firstAlongTheText();
    allStays();
    allGoes();
    allIsNew();
    nothingStaysBehind();
    faultsWhat();
    lettersOfNames();
    markedOrNot();
    longestTexts();
    Check.finish("BoundsTextTest");
  }
}

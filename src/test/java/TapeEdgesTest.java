/** The edges of the TAPE and its TOKENS, a method for each sentence of the document (promise 2). */
public final class TapeEdgesTest {
    private static final Check CHECK = new Check("TapeEdgesTest");

    public static void main(String[] args) {
        atMostAThousand();
        beyondAThousand();
        signsThatCount();
        highestFirst();
        howManyThereAre();
        takenByReading();
        behindItsEnd();
        asLongAsCanBe();
        blanks();
        words();
        numbers();
        signs();
        allElse();
        longerOnes();
        CHECK.end();
    }

    private static void atMostAThousand() {
        CHECK.says("The TAPE has at most 1,000 signs");
        SwollenHouse x = new SwollenHouse();
        Check.feed(x, " ".repeat(998));
        CHECK.due("998", x.count(12), 998);
        CHECK.due("one more", x.feed(32, 0, 0), 999);
        CHECK.due("the last one", x.feed(32, 0, 0), 1000);
        CHECK.due("one too many", x.feed(32, 0, 0), 1000);
        CHECK.due("24 too many", x.feed(0x2020202020202020L, 0x2020202020202020L, 0x2020202020202020L), 1000);
        CHECK.due("on the tape", x.count(12), 1000);
        CHECK.due("a full one is read", x.house(), 0);
        CHECK.due("and empty then", x.count(12), 0);
        CHECK.due("a room at the end", CHECK.told(" ".repeat(993) + "room a;").count(0), 1);
        CHECK.fault(" ".repeat(999) + "%", 1, 999);
        CHECK.fault(" ".repeat(995) + "room ", 1, 1000);
    }

    private static void beyondAThousand() {
        CHECK.says("and what is beyond 1,000, are left out");
        CHECK.fault(" ".repeat(994) + "room a;", 1, 1000);
        CHECK.fault(" ".repeat(1000) + "%", 0, 0);
        SwollenHouse x = new SwollenHouse();
        Check.feed(x, " ".repeat(990));
        CHECK.due("ten of 24", x.feed(Check.packed("room a; ", 0), Check.packed("toom b; ", 0), 0), 1000);
        CHECK.due("the first ten", x.house(), 1 + 16 * 998);
        CHECK.due("the rest does not come later", x.house(), 0);
        CHECK.due("no rooms", x.count(0), 0);
        SwollenHouse y = new SwollenHouse();
        Check.feed(y, " ".repeat(1000) + "room a;");
        CHECK.due("left out for ever", y.days(), 0);
        CHECK.due("a new tape", y.feed(Check.packed("room a;", 0), 0, 0), 7);
        CHECK.due("is read alone", y.house(), 0);
        CHECK.due("one room", y.count(0), 1);
    }

    private static void signsThatCount() {
        CHECK.says("10 and 32 .. 126");
        for (long sign = 0; sign < 256; sign++) {
            boolean counts = sign == 10 || sign >= 32 && sign <= 126;
            CHECK.due("highest byte " + sign, new SwollenHouse().feed(sign << 56, 0, 0), counts ? 1 : 0);
            CHECK.due("lowest byte " + sign, new SwollenHouse().feed(0, 0, sign), counts ? 1 : 0);
        }
        CHECK.says("others than 10 and 32 .. 126");
        CHECK.due("all bits", new SwollenHouse().feed(-1, -1, -1), 0);
        CHECK.due("the least longs", new SwollenHouse().feed(Long.MIN_VALUE, Long.MIN_VALUE, Long.MIN_VALUE), 0);
        CHECK.due("the greatest longs", new SwollenHouse().feed(Long.MAX_VALUE, Long.MAX_VALUE, Long.MAX_VALUE), 0);
        for (char sign : new char[] {0, 9, 11, 13, 31, 127, 128, 160, 255}) {
            SwollenHouse x = CHECK.told("ro" + sign + "om a" + sign + ";");
            CHECK.due("sign " + (int) sign + " parts nothing", x.count(0), 1);
        }
    }

    private static void highestFirst() {
        CHECK.says("Up to 24 signs come behind the TAPE: the bytes of a, b, c, of each the highest first");
        SwollenHouse x = new SwollenHouse();
        CHECK.due("none", x.feed(0, 0, 0), 0);
        CHECK.due("24", x.feed(Check.packed("room a;r", 0), Check.packed("oom b;ro", 0), Check.packed("om c; r ", 0)), 24);
        CHECK.due("behind them", x.feed(Check.packed("oom", 0), 0, Check.packed("d", 0)), 28);
        CHECK.due("a word parted by a blank", x.house(), 1 + 16 * 22);
        for (int place = 0; place < 24; place++) {
            String alone = "\0".repeat(place) + "%" + "\0".repeat(23 - place);
            CHECK.due("byte " + place, new SwollenHouse().feed(Check.packed(alone, 0), Check.packed(alone, 8),
                Check.packed(alone, 16)), 1);
            SwollenHouse y = new SwollenHouse();
            Check.feed(y, alone.replace('\0', ' '));
            CHECK.due("its place", y.house(), 1 + 16 * place);
        }
    }

    private static void howManyThereAre() {
        CHECK.says("are left out: how many there are");
        SwollenHouse x = new SwollenHouse();
        CHECK.due("3 of 24", x.feed(0x00090A1F207E7FFFL, 0x80L, -1L), 3);
        CHECK.due("all there are, not those that came", x.feed(0x20, 0, 0), 4);
        CHECK.due("none came", x.feed(0, 0, 0), 4);
        CHECK.due("the same", x.count(12), 4);
    }

    private static void takenByReading() {
        CHECK.says("what reads it takes it: it is empty then");
        SwollenHouse x = new SwollenHouse();
        Check.feed(x, "room a;");
        CHECK.due("a house", x.house(), 0);
        CHECK.due("taken", x.count(12), 0);
        Check.feed(x, "toads");
        CHECK.due("no house", x.house(), 1);
        CHECK.due("taken", x.count(12), 0);
        Check.feed(x, "day;");
        CHECK.due("days", x.days(), 0);
        CHECK.due("taken", x.count(12), 0);
        Check.feed(x, "toads");
        CHECK.due("no days", x.days(), 1);
        CHECK.due("taken", x.count(12), 0);
        CHECK.due("an empty tape is no days", x.days(), 0);
        CHECK.due("lines", x.count(8), 0);
        CHECK.due("an empty tape is an empty house", x.house(), 0);
        CHECK.due("rooms", x.count(0), 0);
        Check.feed(x, "room");
        x.day();
        x.undo();
        x.mark(0, false);
        x.mark(0, true);
        CHECK.due("nothing else takes it", x.count(12), 4);
    }

    private static void behindItsEnd() {
        CHECK.says("it is empty then");
        SwollenHouse x = new SwollenHouse();
        CHECK.due("a longer text", Check.house(x, "damp 12"), 4 + 16 * 5);
        CHECK.due("its last digit is gone", Check.house(x, "damp 1"), 1 + 16 * 6);
        CHECK.due("a longer text", Check.house(x, "roomy"), 1);
        CHECK.due("its last letter is gone", Check.house(x, "room"), 1 + 16 * 4);
        CHECK.due("a longer text", Check.house(x, "room a    %"), 1 + 16 * 10);
        CHECK.due("its last sign is gone", Check.house(x, "room a;   "), 0);
        // The end of a full tape is the end of its room, too.
        CHECK.fault(" ".repeat(994) + "damp 1", 1, 1000);
        CHECK.fault(" ".repeat(996) + "room", 1, 1000);
        CHECK.fault(" ".repeat(994) + "room  ", 1, 1000);
        CHECK.fault(" ".repeat(995) + "swell", 1, 995);
        CHECK.due("days", Check.days(new SwollenHouse(), " ".repeat(993) + "plane 1"), 1 + 16 * 1000);
    }

    private static void asLongAsCanBe() {
        CHECK.says("TOKENS, each as long as can be");
        CHECK.fault("rooma;", 1, 0);
        CHECK.fault("room aroom b;", 1, 11);
        CHECK.fault("roomroom a;", 1, 0);
        CHECK.due("12, not 1 and 2", CHECK.told("room a;room b;door a b oak gap 12;").door(0, 3), 12);
        CHECK.fault("damp 12 3;", 4, 5);
        CHECK.told("swells 1<2and 2=2or 3<4;");
    }

    private static void blanks() {
        CHECK.says("blanks (10, 32) between where one likes");
        CHECK.told("room a;room b;door a b oak gap 0;person p in a;damp 1;swells((1)+2*wet)<3;");
        CHECK.told("\n\n  room\na\n;\n room  b  ; door a\nb oak\ngap 0\n;\nperson p in a ; damp 1\n2 ; swells 1\n+ 2 ;\n\n");
        CHECK.told("room a;room b;door a b oak gap12;damp1 2;swells(1);");
        CHECK.told(" ");
        CHECK.told("\n");
        CHECK.fault("ro om a;", 1, 0);
        CHECK.fault("ro\nom a;", 1, 0);
        CHECK.fault("swells 1 0;", 1, 9);
        CHECK.fault("swells 1\n0;", 1, 9);
        CHECK.due("days", Check.days(new SwollenHouse(), "\nday\n;\n day;plane7;wedge 0 ;\nforce\n3;\n"), 0);
    }

    private static void words() {
        CHECK.says("WORDS (letters a .. z, 8 at most)");
        CHECK.told("room a;room z;room abcdefgh;room zzzzzzzz;room azbycxdw;");
        CHECK.fault("room abcdefghi;", 1, 5);
        CHECK.fault("room `;", 1, 5);
        CHECK.fault("room {;", 1, 5);
        CHECK.fault("room A;", 1, 5);
        CHECK.fault("room Z;", 1, 5);
        CHECK.fault("room aB;", 1, 6);
        CHECK.fault("room a_b;", 1, 6);
        CHECK.fault("room a1;", 1, 6);
        CHECK.fault("ROOM a;", 1, 0);
        CHECK.told("room abcdefgh;room abcdefgg;room bbcdefgh;person hgfedcba in bbcdefgh;");
        CHECK.fault("room abcdefgh;room abcdefgh;", 3, 19);
    }

    private static void numbers() {
        CHECK.says("NUMBERS (1 to 4 digits; a letter may stand right behind)");
        CHECK.told("damp 0 09 009 0009;");
        CHECK.fault("damp 00009;", 1, 5);
        CHECK.told("swells 9999;");
        CHECK.fault("swells 10000;", 1, 7);
        CHECK.fault("swells 00000;", 1, 7);
        CHECK.told("swells 0000;");
        CHECK.fault("damp /;", 1, 5);
        CHECK.fault("damp :;", 1, 5);
        CHECK.fault("damp 1/2;", 1, 6);
        CHECK.told("swells 1and 2or 3and 4;");
        CHECK.told("swells 9999and 1;");
        CHECK.fault("swells 10000and 1;", 1, 7);
        CHECK.fault("damp 1x;", 1, 6);
        CHECK.due("0012 is 12", CHECK.told("room a;room b;door a b oak gap 0012;").door(0, 3), 12);
        CHECK.due("0007 is 7", Check.days(new SwollenHouse(), "plane 0007;"), 0);
    }

    private static void signs() {
        CHECK.says("the signs ( ) < = + - * ;");
        CHECK.told("swells (1);");
        CHECK.told("swells 1<1;");
        CHECK.told("swells 1=1;");
        CHECK.told("swells 1+1;");
        CHECK.told("swells 1-1;");
        CHECK.told("swells 1*1;");
        CHECK.fault(";", 1, 0);
        CHECK.fault("room a;;", 1, 7);
        for (char sign : "()<=+-*".toCharArray()) {
            CHECK.fault("room a;" + sign, 1, 7);
            CHECK.fault("room a" + sign + ";", 1, 6);
        }
        CHECK.fault("swells 1<=1;", 1, 9);
        CHECK.fault("swells 1==1;", 1, 9);
        CHECK.fault("swells 1--1;", 1, 9);
        CHECK.fault("swells 1**1;", 1, 9);
    }

    private static void allElse() {
        CHECK.says("All else");
        for (char sign = 33; sign < 127; sign++) {
            boolean token = sign >= 'a' && sign <= 'z' || sign >= '0' && sign <= '9' || "()<=+-*;".indexOf(sign) >= 0;
            if (!token) {
                CHECK.fault("room a;" + sign, 1, 7);
                CHECK.fault("room a" + sign + ";", 1, 6);
                CHECK.fault("swells 1" + sign + "1;", 1, 8);
                CHECK.due("days by " + sign, Check.days(new SwollenHouse(), "day;day" + sign), 1 + 16 * 7);
            }
        }
    }

    private static void longerOnes() {
        CHECK.says("(a longer WORD or NUMBER, too, at its first sign) is none");
        CHECK.fault("room  abcdefghi;", 1, 6);
        CHECK.fault("roomroomr a;", 1, 0);
        CHECK.fault("room " + "a".repeat(990), 1, 5);
        CHECK.fault("damp " + "0".repeat(990), 1, 5);
        // The last eight letters of these are WORDS of their own.
        CHECK.fault("room aaaaroom;door xaaaaroom", 1, 19);
        CHECK.fault("room aaaaroom;door bbbbbbbbaaaaroom", 1, 19);
        CHECK.fault("room abcdefgh;room zabcdefgh", 1, 19);
        CHECK.fault("damp 4294967297;", 1, 5);
        CHECK.fault("damp 18446744073709551617;", 1, 5);
        CHECK.fault("room a;room b;door a b oak gap 00000;", 1, 31);
        SwollenHouse x = CHECK.told("room a;person p in a;");
        CHECK.due("days", Check.days(x, "walk ppppppppp 0;"), 1 + 16 * 5);
        CHECK.due("days", Check.days(x, "walk p 00000;"), 1 + 16 * 7);
        CHECK.due("days", Check.days(x, "daydayday;"), 1);
    }
}

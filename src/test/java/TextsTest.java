/** Promises 12 feed, 13 text, 14 force, 15 inForce. */
public final class TextsTest {
    private static final String END = " ; pay 0 ;";

    public static void main(String[] args) {
        Check check = new Check("TextsTest");
        feeds(check);
        texts(check);
        faultsOfTokens(check);
        faultsOfPlaces(check);
        faultsOfOpenOnes(check);
        faultsOfBars(check);
        forces(check);
        check.finish();
    }

    private static void feeds(Check check) {
        OrchestraYear x = new OrchestraYear();
        check.due("feed(0, 0)", x.feed(0, 0), OrchestraYear.BAD);
        check.due("feed(9, 0)", x.feed(9, 0), OrchestraYear.BAD);
        check.due("feed(-1, 0)", x.feed(-1, 0), OrchestraYear.BAD);
        check.due("feed(1, 'c' and more)", x.feed(1, 'c' + 256L * 'x'), 1);
        check.due("feed(8, -1)", x.feed(8, -1), 9);
        check.due("the place of the first byte that begins none", x.text(), -10);
        check.due("the tape is empty then", x.count(4), 0);
        for (int i = 1; i <= 37; i++) {
            check.due("eight more", x.feed(8, 0x2020202020202020L), 8 * i);
        }
        check.due("five are too many", x.feed(5, 0x2020202020L), OrchestraYear.FULL);
        check.due("BAD goes ahead of FULL", x.feed(9, 0), OrchestraYear.BAD);
        check.due("FULL changes nothing", x.count(4), 296);
        check.due("four are not", x.feed(4, 0x20202020L), 300);
        check.due("one is", x.feed(1, 32), OrchestraYear.FULL);
        check.due("a text of blanks ends too early", x.text(), -310);
        check.due("an empty one, too", x.text(), -10);
        x.feed(8, 0x736c20746e756f63L);
        check.due("lowest byte first: 'count ls'", x.text(), -16);
    }

    private static void texts(Check check) {
        OrchestraYear x = new OrchestraYear();
        check.due("a text", Check.text(x, "count 1;pay 2;"), 1);
        check.due("blanks around", Check.text(x, "\n count\n1 ;\n\n pay 2 ; \n"), 2);
        check.due("numbers of five digits, words of seven letters", Check.text(x, "count 00099*weekday;pay 99999;"), 3);
        for (int i = 4; i < 10; i++) {
            check.due("text " + i, Check.text(x, "count 1;pay 2;"), i);
        }
        Check.feed(x, "count");
        check.due("an 11th text", x.text(), OrchestraYear.FULL);
        check.due("the tape stays", x.count(4), 5);
        check.due("ten texts", x.count(3), 10);
    }

    private static void fault(Check check, String text, int place) {
        OrchestraYear x = new OrchestraYear();
        check.due("text '" + text + "'", Check.text(x, text), -10 - place);
        check.due("a text with a fault is none", x.count(3), 1);
        check.due("the tape is empty then", x.count(4), 0);
    }

    private static void fine(Check check, String text) {
        check.due("text '" + text + "'", Check.text(new OrchestraYear(), text), 1);
    }

    private static void faultsOfTokens(Check check) {
        fault(check, "count 123456" + END, 6);
        fault(check, "count  weekdays" + END, 7);
        fault(check, "count kinds" + END, 6);
        fault(check, "count Kind" + END, 6);
        fault(check, "count kin" + END, 6);
        fault(check, "count 1\t;pay 1;", 7);
        fault(check, "count 1 > 2" + END, 8);
        fault(check, "count 1 \u00ff" + END, 8);
        fault(check, "count 1 \u0000" + END, 8);
        fault(check, "countlong" + END, 0);
        fault(check, "count 12long" + END, 8);
        fault(check, "count kind2" + END, 10);
        fault(check, "cou nt 1" + END, 0);
        fault(check, "coun", 0);
        fault(check, "count 1 ; pay 123456", 14);
        fine(check, "count 1or 2and 3;pay(1);");
        fine(check, "count-1--1*-1;pay not 1<2;");
    }

    private static void faultsOfPlaces(Check check) {
        fault(check, "pay 1 ; count 1 ;", 0);
        fault(check, "1", 0);
        fault(check, "count 1 ;", 9);
        fault(check, "count 1 ; ", 10);
        fault(check, "count 1", 7);
        fault(check, "count", 5);
        fault(check, "count 1 ; pay 1", 15);
        fault(check, "count 1 ; pay 1 ; ;", 18);
        fault(check, "count 1 ; pay 1 ; pay 1 ;", 18);
        fault(check, "count 1 ; bar 1 ; pay 1 ;", 10);
        fault(check, "count ;", 6);
        fault(check, "count 1 2" + END, 8);
        fault(check, "count 1 +" + END, 10);
        fault(check, "count + 1" + END, 6);
        fault(check, "count 1 * * 2" + END, 10);
        fault(check, "count 1 < 2 < 3" + END, 12);
        fault(check, "count 1 = 2 < 3" + END, 12);
        fine(check, "count (1 = 2) < 3" + END);
        fine(check, "count 1 < 2 and 3 < 4 or 5 = 6" + END);
        fault(check, "count 1 + not 2" + END, 10);
        fault(check, "count 1 < not 2" + END, 10);
        fault(check, "count - not 2" + END, 8);
        fine(check, "count 1 + (not 2)" + END);
        fault(check, "count 1 not 2" + END, 8);
        fault(check, "count (1" + END, 9);
        fault(check, "count 1)" + END, 7);
        fault(check, "count ()" + END, 7);
        fault(check, "count or" + END, 6);
        fault(check, "count 1 and or 2" + END, 12);
        fault(check, "count pay" + END, 6);
        fault(check, "count (1 ; 2)" + END, 9);
    }

    private static void faultsOfOpenOnes(Check check) {
        fine(check, "count ((((((1))))))" + END);
        fault(check, "count (((((((1)))))))" + END, 12);
        fine(check, "count not not not not not not 1" + END);
        fault(check, "count not not not not not not not 1" + END, 30);
        fine(check, "count ------1" + END);
        fault(check, "count -------1" + END, 12);
        fine(check, "count not (-(-(1)))" + END);
        fault(check, "count not (-(-((1))))" + END, 15);
        fault(check, "count ((((((-1))))))" + END, 12);
        fault(check, "count ((((((not 1))))))" + END, 12);
        fine(check, "count ((((((1 - 2 - 3))))))" + END);
        fine(check, "count -1 + ((((((1))))))" + END);
        fine(check, "count -1 * ((((((1))))))" + END);
        fine(check, "count not 1 and ((((((1))))))" + END);
        fine(check, "count not 1 or ((((((1))))))" + END);
        fault(check, "count not 1 < ((((((1))))))" + END, 19);
        fault(check, "count not 1 + ((((((1))))))" + END, 19);
        fine(check, "count ((((((1)))))) + ((((((1))))))" + END);
        fine(check, "count (1) + -1 + (not 1) + ((((((1))))))" + END);
        fault(check, "count -(((((-1)))))" + END, 12);
    }

    private static void faultsOfBars(Check check) {
        String eight = "bar 1;bar 2;bar 3;bar 4;bar 5;bar 6;bar 7;bar 8;";
        fine(check, eight + "count 1;pay 1;");
        fault(check, eight + " bar 9;count 1;pay 1;", 49);
        fault(check, "bar count 1;pay 1;", 4);
        fault(check, "bar bar 1;count 1;pay 1;", 4);
        fault(check, "bar 1;", 6);
    }

    private static void forces(Check check) {
        OrchestraYear x = new OrchestraYear();
        Check.text(x, "count 1;pay 1;");
        Check.text(x, "count 2;pay 2;");
        check.due("force(3, 0)", x.force(3, 0), OrchestraYear.BAD);
        check.due("force(-1, 0)", x.force(-1, 0), OrchestraYear.BAD);
        check.due("force(1, -1)", x.force(1, -1), OrchestraYear.BAD);
        check.due("force(1, 401)", x.force(1, 401), OrchestraYear.BAD);
        check.due("inForce(-1)", x.inForce(-1), OrchestraYear.BAD);
        check.due("inForce(401)", x.inForce(401), OrchestraYear.BAD);
        check.due("never told", x.inForce(400), 0);
        check.due("force(1, 100)", x.force(1, 100), 1);
        check.due("the day ahead", x.inForce(99), 0);
        check.due("from that day", x.inForce(100), 1);
        check.due("on", x.inForce(400), 1);
        check.due("force(2, 50)", x.force(2, 50), 1);
        check.due("ahead of both", x.inForce(49), 0);
        check.due("of 2", x.inForce(50), 2);
        check.due("the one told last, not the later day", x.inForce(100), 2);
        check.due("force(0, 200)", x.force(0, 200), 1);
        check.due("0 from 200 on", x.inForce(200), 0);
        check.due("2 till then", x.inForce(199), 2);
        check.due("0 if there is none", x.inForce(10), 0);
        check.due("force(2, 300)", x.force(2, 300), 1);
        check.due("the new day counts in place of the old", x.inForce(60), 0);
        check.due("1 again from 100", x.inForce(150), 1);
        check.due("0 was told behind 1", x.inForce(250), 0);
        check.due("2 was told last", x.inForce(300), 2);
        check.due("force(1, 400)", x.force(1, 400), 1);
        check.due("1 on the last day", x.inForce(400), 1);
        check.due("2 till then", x.inForce(399), 2);
        check.due("force(1, 0)", x.force(1, 0), 1);
        check.due("told last, from day 0", x.inForce(0), 1);
        check.due("for all days", x.inForce(400), 1);
    }
}

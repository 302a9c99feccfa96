/** Promises 4 and 5: which texts are a HOUSE or a RULE, and the FAULTS of the others. A ^ stands ahead of the place. */
final class FaultsTest {
    private FaultsTest() {
    }

    public static void main(String[] args) {
        goodHouses();
        faultyHouses();
        housesTooLong();
        goodRules();
        faultyRules();
        rulesTooDeep();
        rulesTooLong();
        afterFaults();
        Due.end("FaultsTest");
    }

    private static void goodHouses() {
        Told.isHouse("house 1", 0);
        Told.isHouse("house 20", 0);
        Told.isHouse("  house   00020  ", 0);
        Told.isHouse("house1;heir0 0;heir 99 100", 2);
        Told.isHouse("house 1;thing 9 20 99;song 0;song 0;heir 0 0;hates 0;hates 0;knows 0 0 9 99;knows 0 0 0 1", 1);
        Told.isHouse("house 1 ; heir 1 1 ; heir 1 1 ; cousins 1 0", 2);
    }

    private static void faultyHouses() {
        Told.noHouse("^", 0);
        Told.noHouse("   ^", 0);
        Told.noHouse("house^", 0);
        Told.noHouse("house ^", 0);
        Told.noHouse("house 1;^", 0);
        Told.noHouse("house 1;^;", 0);
        Told.noHouse("^houses 1", 0);
        Told.noHouse("^hous 1", 0);
        Told.noHouse("^housez 1", 0);
        Told.noHouse("^ahouse 1", 0);
        Told.noHouse("^House 1", 0);
        Told.noHouse("^5 1", 0);
        Told.noHouse("house 1^\t", 0);
        Told.noHouse("house 1 ^1", 0);
        Told.noHouse("house 1^house", 0);
        Told.noHouse("house 1^<=", 0);
        Told.noHouse("house ^-1", 0);
        Told.noHouse("house ^0", 1);
        Told.noHouse("house ^21", 1);
        Told.noHouse("house ^000001", 1);
        Told.noHouse("house ^123456", 1);
        Told.noHouse("^thing 0 0 0", 4);
        Told.noHouse("^knows", 4);
        Told.noHouse("^year", 0);
        Told.noHouse("house 1;^fade 1", 0);
        Told.noHouse("house 1;^house 1", 4);
        Told.noHouse("house 1;thing ^10 0 0", 1);
        Told.noHouse("house 1;thing 0 ^21 0", 1);
        Told.noHouse("house 1;thing 0 0 ^100", 1);
        Told.noHouse("house 1;thing 0 0^;", 0);
        Told.noHouse("house 1;song ^0", 1);
        Told.noHouse("house 1;thing 0 0 0;song ^1", 1);
        Told.noHouse("house 1;heir ^100 0", 1);
        Told.noHouse("house 1;heir 0 ^101", 1);
        Told.noHouse("house 1;hates ^0", 1);
        Told.noHouse("house 1;heir 0 0;hates ^1", 1);
        Told.noHouse("house 1;heir 0 0;cousins 0 ^0", 1);
        Told.noHouse("house 1;heir 0 0;cousins 0 ^1", 1);
        Told.noHouse("house 1;heir 0 0;cousins ^1 0", 1);
        Told.noHouse("house 1;heir 0 0;heir 0 0;cousins 0 1;cousins 1 ^0", 1);
        Told.noHouse("house 1;heir 0 0;heir 0 0;cousins 0 1;cousins 0 ^1", 1);
        Told.noHouse("house 1;heir 0 0;knows 0 ^0 0 1", 1);
        Told.noHouse("house 1;thing 0 0 0;knows ^0 0 0 1", 1);
        Told.noHouse("house 1;thing 0 0 0;heir 0 0;knows 0 0 ^10 1", 1);
        Told.noHouse("house 1;thing 0 0 0;heir 0 0;knows 0 0 0 ^0", 1);
        Told.noHouse("house 1;thing 0 0 0;heir 0 0;knows 0 0 0 ^100", 1);
        Told.noHouse("house 1;^" + (char) 200, 0);
        Told.noHouse("house 1^" + (char) 0, 0);
    }

    private static void housesTooLong() {
        String things = "house 1" + ";thing 0 0 0".repeat(7);
        Told.isHouse(things, 0);
        Told.noHouse(things + ";^thing 0 0 0", 4);
        String heirs = "house 1" + ";heir 0 0".repeat(7);
        Told.isHouse(heirs, 7);
        Told.noHouse(heirs + ";  ^heir x", 4);
        StringBuilder cousins = new StringBuilder(heirs);
        for (int i = 1; i < 7; i++) {
            cousins.append(";cousins 0 ").append(i);
        }
        cousins.append(";cousins 1 2;cousins 1 3;cousins 1 4;cousins 1 5");
        Told.isHouse(cousins.toString(), 7);
        Told.noHouse(cousins + ";^cousins 1 6", 4);
        String forty = "house 1;thing 0 0 0" + ";song 0".repeat(38);
        Told.isHouse(forty, 0);
        Told.noHouse(forty + ";^song 0", 4);
        Told.noHouse(forty + ";^song", 4);
        Told.noHouse(forty + ";^sing 0", 0);
        Told.noHouse(forty + ";^", 0);
        Told.noHouse(forty + "^:", 0);
    }

    private static void goodRules() {
        Told.isRule("fade 1");
        Told.isRule(" fade0%0 ");
        Told.isRule("fade 99999;fade as if not 1=1;fade 00000");
        Told.isRule("fade heir+thing-as*right/strength%age+hates if song<burnt and loss<=field or year=same and known>=1");
        Told.isRule("fade 1 if[1>0]and[not[not 1<=0]or 2>=1]");
        Told.isRule("fade 1 if 1 < 2 or 1 > 2 and not not 1 = 2");
    }

    private static void faultyRules() {
        Told.noRule("^", 0);
        Told.noRule("fade^", 0);
        Told.noRule("^fades 1", 0);
        Told.noRule("^house 1", 0);
        Told.noRule("fade ^if", 0);
        Told.noRule("fade ^x", 0);
        Told.noRule("fade ^rights", 0);
        Told.noRule("fade ^-1", 0);
        Told.noRule("fade ^[1]", 0);
        Told.noRule("fade ^not 1", 0);
        Told.noRule("fade ^100000", 1);
        Told.noRule("fade 5 %^", 0);
        Told.noRule("fade 5 + ^+ 1", 0);
        Told.noRule("fade 5 ^5", 0);
        Told.noRule("fade 5 ^= 5", 0);
        Told.noRule("fade 5 ^and 5", 0);
        Told.noRule("fade 1;^", 0);
        Told.noRule("fade 1 if^", 0);
        Told.noRule("fade 1 if 1^", 0);
        Told.noRule("fade 1 if 1 ^if", 0);
        Told.noRule("fade 1 if 1 <^", 0);
        Told.noRule("fade 1 if 1 < ^= 1", 0);
        Told.noRule("fade 1 if 1 =^< 1", 0);
        Told.noRule("fade 1 if 1 =^= 1", 0);
        Told.noRule("fade 1 if 1 <^> 1", 0);
        Told.noRule("fade 1 if 1 ^! 1", 0);
        Told.noRule("fade 1 if 1 = 1 ^= 1", 0);
        Told.noRule("fade 1 if 1 = 1 and^", 0);
        Told.noRule("fade 1 if 1 = 1 or ^;", 0);
        Told.noRule("fade 1 if 1 = 1 ^not", 0);
        Told.noRule("fade 1 if year = 1^]", 0);
        Told.noRule("fade 1 if [year = 1^", 0);
        Told.noRule("fade 1 if [year = 1^;", 0);
        Told.noRule("fade 1 if [1 ^] = 1", 0);
        Told.noRule("fade 1 if ^] = 1", 0);
        Told.noRule("fade 1 if not^", 0);
        Told.noRule("fade 1 if 1 = ^not 1", 0);
        Told.noRule("fade 1 if 1 = 1 ^if 1 = 1", 0);
        Told.noRule("fade 1 if 1 = 1 ^fade 1", 0);
        Told.noRule("fade 1 if 1 = ^123456", 1);
    }

    private static void rulesTooDeep() {
        String[] opens = {"[", "not "};
        for (String open : opens) {
            String close = open.equals("[") ? "]" : "";
            Told.isRule("fade 1 if " + open.repeat(10) + "1 = 1" + close.repeat(10));
            Told.noRule("fade 1 if " + open.repeat(10) + "^" + open + "1 = 1" + close.repeat(11), 2);
        }
        Told.isRule("fade 1 if " + "[not ".repeat(5) + "1 = 1" + "]".repeat(5));
        Told.noRule("fade 1 if " + "[not ".repeat(5) + "^not 1 = 1" + "]".repeat(5), 2);
        Told.noRule("fade 1 if " + "not [".repeat(5) + "^[1 = 1]", 2);
        // What closes is deep no more.
        Told.isRule("fade 1 if " + "[".repeat(9) + "[1=1] and [1=1] or not 1=1" + "]".repeat(9) + " and not [1=1]");
    }

    private static void rulesTooLong() {
        String twelve = "fade 1" + ";fade 1".repeat(11);
        Told.isRule(twelve);
        Told.noRule(twelve + "; ^fade 1", 4);
        Told.noRule(twelve + ";^fade", 4);
        Told.noRule(twelve + ";^fad 1", 0);
        Told.noRule(twelve + ";^", 0);
        String sixty = "fade 1" + "+1".repeat(59);
        Told.isRule(sixty);
        Told.noRule(sixty + "+^1", 3);
        Told.noRule(sixty + "+^year", 3);
        Told.noRule(sixty + "+^yea", 0);
        Told.noRule(sixty + "+^123456", 1);
        Told.noRule(sixty + "+^", 0);
        Told.noRule(sixty + ";fade ^1", 3);
        Told.noRule(sixty + " if ^1 = 1", 3);
        // 58 VALUES, a FACT's first one, its SIGN, and its second one.
        String most = "fade 1" + "+1".repeat(57);
        Told.noRule(most + " if 1 = ^1", 3);
        Told.isRule("fade 1" + "+1".repeat(56) + " if 1 = 1");
        Told.noRule("fade 1" + "+1".repeat(58) + " if 1 ^= 1", 3);
        Told.noRule("fade 1" + "+1".repeat(58) + " if 1 ^! 1", 0);
        Told.noRule("fade 1" + "+1".repeat(58) + " if 1 ^<= x", 3);
        Told.isRule("fade 1 if " + "1=1 or ".repeat(17) + "1=1 and 1+1<1+1");
        Told.noRule("fade 1 if " + "1=1 or ".repeat(17) + "1=1 and 1+1<1+1+^1", 3);
    }

    private static void afterFaults() {
        ForgetHeirs x = Due.with("house 7;thing 1 1 1;heir 3 4");
        x.year();
        Due.due("fault", Due.house(x, "house 1;heir"), Due.fault(12, 0));
        Due.due("the TAPE then", x.count(11), 0);
        Due.due("HEIRS then", x.count(1), 1);
        Due.due("ASKS then", x.count(6), 7);
        Due.due("YEAR then", x.count(5), 1);
        Due.due("UNDO then", x.count(9), 1);
        Due.due("rule fault", Due.rule(x, "fade 1 if"), Due.fault(9, 0));
        Due.due("the TAPE then", x.count(11), 0);
        Due.due("RULES then", x.count(3), 0);
        Due.due("house of nothing", x.house(), Due.fault(0, 0));
        Due.due("rule of nothing", x.rule(), Due.fault(0, 0));
        // Bytes that feed puts behind a text can't stand there.
        x.feed(0x686f7573, 0x65203100, 0, 0, 0);
        Due.due("house with 0 behind", x.house(), Due.fault(7, 0));
    }
}

/** The bounds of the TAPE, and of texts on it. */
final class TapeBounds {
    private static final int NONE = ForgetHeirs.NONE;

    private TapeBounds() {
    }

    static void test() {
        tapeIsFull();
        tapeIsInOrder();
        tapeIsCut();
        textsAre400Bytes();
        blanks();
    }

    private static void due(String call, long got, long want) {
        Due.due(call, got, want);
    }

    /** A new object with a RULE of so many bytes on its TAPE. */
    private static ForgetHeirs taped(int bytes) {
        ForgetHeirs x = new ForgetHeirs();
        Due.type(x, "fade 1" + " ".repeat(bytes - 6));
        return x;
    }

    private static void tapeIsFull() {
        Doc.says(2, "how many it has; NONE, and none comes, if it would have more than 400.");
        ForgetHeirs x = new ForgetHeirs();
        for (int bytes = 20; bytes <= 400; bytes += 20) {
            due("feed to " + bytes, x.feed(-1, 0, 1, Integer.MIN_VALUE, Integer.MAX_VALUE), bytes);
            due("the TAPE then", x.count(11), bytes);
        }
        due("feed of a full TAPE", x.feed(0, 0, 0, 0, 0), NONE);
        due("the TAPE then", x.count(11), 400);
        due("feed from 380 to 400", taped(380).feed(0, 0, 0, 0, 0), 400);
        int[] wrong = {381, 399, 400};
        for (int bytes : wrong) {
            Deep.refuses("feed behind " + bytes, () -> taped(bytes), y -> y.feed(1, 1, 1, 1, 1), NONE);
        }
    }

    private static void tapeIsInOrder() {
        Doc.says(2, "Twenty bytes come behind the TAPE, of each number the highest first:");
        ForgetHeirs x = new ForgetHeirs();
        x.feed(0x20202020, 0x20202020, 0x20202020, 0x20202068, 0x6f757365);
        x.feed(0x20313220, 0x20202020, 0x20202020, 0x20202020, 0x20202020);
        due("house of forty bytes", x.house(), 0);
        due("its ASKS", x.count(6), 12);
        // The highest bit is a byte's, too: 0xe8 is no h.
        x.feed(0xe86f7573, 0x65203120, 0x20202020, 0x20202020, 0x20202020);
        due("a byte above 127", x.house(), Due.fault(0, Told.CAN_NOT_STAND));
    }

    private static void tapeIsCut() {
        Doc.says(3, "The TAPE has its first n bytes alone: n; NONE, and nothing happens, if it has not so many, "
            + "or n is below 0.");
        due("end 0 of an empty TAPE", new ForgetHeirs().end(0), 0);
        Deep.refuses("end 1 of an empty TAPE", ForgetHeirs::new, x -> x.end(1), NONE);
        int[] wrong = {-1, -2, 41, 400, 401, Integer.MIN_VALUE, Integer.MAX_VALUE};
        for (int n : wrong) {
            Deep.refuses("end " + n + " of 40", () -> taped(40), x -> x.end(n), NONE);
        }
        int[] fine = {40, 39, 6, 5, 1, 0};
        int[] rules = {0, 0, 0, Due.fault(5, 0), Due.fault(0, 0), Due.fault(0, 0)};
        for (int i = 0; i < fine.length; i++) {
            ForgetHeirs x = taped(40);
            due("end " + fine[i] + " of 40", x.end(fine[i]), fine[i]);
            due("the TAPE then", x.count(11), fine[i]);
            due("its RULE", x.rule(), rules[i]);
        }
        ForgetHeirs x = taped(400);
        due("end 401 of 400", x.end(401), NONE);
        due("end 400 of 400", x.end(400), 400);
        // What was cut off does not come back.
        x = new ForgetHeirs();
        Due.type(x, "house 12");
        due("end 7", x.end(7), 7);
        due("end 8 then", x.end(8), NONE);
        x.feed(0x20202020, 0x20202020, 0x20202020, 0x20202020, 0x20202020);
        due("house 1", x.house(), 0);
        due("its ASKS", x.count(6), 1);
    }

    private static void textsAre400Bytes() {
        Doc.says(Doc.TERMS, "A HOUSE is a text of at most 400 bytes");
        Doc.says(Doc.TERMS, "RULES 0 to 5: texts likewise");
        ForgetHeirs x = Due.with("house" + " ".repeat(393) + "20");
        due("ASKS told by the last of 400 bytes", x.count(6), 20);
        x = Due.with(" ".repeat(393) + "house 7");
        due("ASKS told behind blanks", x.count(6), 7);
        x = Told.by("house 1;thing 1 0 0;heir 0 0;knows 0 0 1 99", "fade" + " ".repeat(394) + "12");
        x.year();
        due("loss told by the last of 400 bytes", x.knows(0, 0, 1), 87);
        Told.isHouse("house 1" + " ".repeat(393), 0);
        Told.isRule("fade 1" + " ".repeat(394));
    }

    private static void blanks() {
        Doc.says(Doc.TERMS, "Blanks (32) stand between as one likes.");
        Told.isHouse("house1;heir1 1;heir1 1;cousins0 1;hates1", 2);
        Told.isHouse("   house   1  ;   heir   1   1   ;   heir 1 1  ", 2);
        Told.isRule("fade1if1=1and[not2<3or4>=5];fade2");
        Told.isRule("  fade  1  if  1  =  1  and  [  not  2  <  3  or  4  >=  5  ]  ;  fade  2  ");
        // Of what else looks blank, or nearly, none may.
        int[] others = {0, 9, 10, 13, 31, 33, 160, 255};
        for (int other : others) {
            Told.noHouse("house^" + (char) other + "1", Told.CAN_NOT_STAND);
            Told.noHouse("house 1^" + (char) other, Told.CAN_NOT_STAND);
            Told.noRule("fade^" + (char) other + "1", Told.CAN_NOT_STAND);
        }
        // WORDS, NUMBERS and SIGNS of two bytes are not torn.
        Told.noHouse("^hou se 1", Told.CAN_NOT_STAND);
        Told.noHouse("house 1;heir 1 0 ^0", Told.CAN_NOT_STAND);
        Told.noRule("fade 1 if 1 < ^= 1", Told.CAN_NOT_STAND);
        Told.noRule("fade 1 if 1 > ^= 1", Told.CAN_NOT_STAND);
    }
}

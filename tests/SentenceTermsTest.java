import java.io.IOException;
import java.lang.reflect.Field;
import java.lang.reflect.Method;
import java.lang.reflect.Modifier;
import java.nio.file.Files;
import java.nio.file.Path;
import java.util.Arrays;
import java.util.Set;
import java.util.TreeSet;

/**
 * The document from its first line to "Terms", each sentence with a run that would answer otherwise if it did not
 * hold. SentencePromisesTest goes on with promise 1.
 */
public final class SentenceTermsTest {
    private static final Due DUE = new Due();
    private static final String REST = ";harms 1;wakes 1;";
    private static Quotes doc;

    public static void main(String[] args) throws IOException, ReflectiveOperationException {
        doc = new Quotes(DUE, "# UnderTheRoof", "## Promise 1:");
        whatItIs();
        if (doc.isHere()) {
            face();
        }
        places();
        state();
        refusals();
        amounts();
        wheres();
        tape();
        expressions();
        faults();
        whatStandsOpen();
        texts();
        hours();
        day();
        stand();
        rise();
        lead();
        tiles();
        seen();
        drawn();
        image();
        sheets();
        if (doc.isHere()) {
            sections();
        }
        doc.end();
        DUE.end("SentenceTermsTest");
    }

    private static void whatItIs() {
        doc.says("# UnderTheRoof ## What it is");
        doc.says("Buckets under a roof: drips of kinds, that fall by rain, hour by hour, some wander; vessels on the "
            + "places of a floor, so big; by a rule of texts how much each drip falls, what a pint on the floor harms, "
            + "what getting up costs; hours in which one gets up and empties as many as one can carry; a day as it "
            + "goes, how full each is, what is over, when; which vessel beneath which, when to get up, which drip to "
            + "lead elsewhere, how long one can be gone; what a tile is worth, what if drips more come; which drips it "
            + "was, by what was in the vessels, which is new; rain that is drawn; all laid back.",
            "drip(0, 3, 4) = 0", "vessel(10) = 0", "put(0, 4) = -1", "rain: 0 1 1 1 1 1", "day(4) = 4", "day(2) = 10",
            "gone() = 4", "water(0, 3, 0) = 9", "rise(1, 0) = 5", "image() = 1", "fill(0, 9) = 0", "day(2) = 28",
            "back() = 1", "day(2) = 10");
        doc.says("An object is used for at most 512 calls after it has been made; what later calls answer is free.");
        UnderTheRoof x = new UnderTheRoof();
        x.drip(0, 0, 0);
        x.set(0, 0, 1);
        for (int i = 3; i < 512; i++) {
            DUE.is("call " + i + " of 512", x.set(5, 0, i % 10), i == 3 ? 0 : (i - 1) % 10);
        }
        DUE.is("call 512 of 512", x.day(2), 2 * (511 % 10));
    }

    /** The face as the document tells it: no member less, none more that can be seen. */
    private static void face() throws ReflectiveOperationException {
        doc.says("## The public face public final class UnderTheRoof {");
        Set<String> told = new TreeSet<>();
        for (String member : doc.upTo("}").trim().split("; *")) {
            String plain = member.replace("public ", "");
            if (plain.startsWith("static final ")) {
                constants(plain.replace("static final ", ""), told);
            } else {
                told.add(plain.replaceAll(" \\w+([,)])", "$1"));
            }
        }
        Set<String> seen = new TreeSet<>();
        for (Field f : UnderTheRoof.class.getDeclaredFields()) {
            if (!Modifier.isPrivate(f.getModifiers())) {
                seen.add(Modifier.toString(f.getModifiers()) + " " + f.getType() + " " + f.getName());
            }
        }
        for (Method m : UnderTheRoof.class.getDeclaredMethods()) {
            if (!Modifier.isPrivate(m.getModifiers())) {
                DUE.is(m + " is public alone", m.getModifiers(), Modifier.PUBLIC);
                seen.add(m.getReturnType() + " " + m.getName() + Arrays.toString(m.getParameterTypes())
                    .replace('[', '(').replace(']', ')'));
            }
        }
        for (var made : UnderTheRoof.class.getDeclaredConstructors()) {
            seen.add(made.getName() + Arrays.toString(made.getParameterTypes()).replace('[', '(').replace(']', ')'));
        }
        DUE.holds("the document tells " + told + ", the class has " + seen, told.equals(seen) && told.size() > 30);
        DUE.is("public and final", UnderTheRoof.class.getModifiers(), Modifier.PUBLIC | Modifier.FINAL);
    }

    private static void constants(String row, Set<String> told) throws ReflectiveOperationException {
        String type = row.substring(0, row.indexOf(' '));
        for (String one : row.substring(type.length()).split(",")) {
            String name = one.substring(0, one.indexOf('=')).trim();
            long v = Long.parseLong(one.substring(one.indexOf('=') + 1).trim().replace("L", ""));
            told.add("public static final " + type + " " + name);
            DUE.is(name, UnderTheRoof.class.getField(name).getLong(null), v);
        }
    }

    private static void places() {
        doc.says("## Terms ==== 1 RAIN of each of HOURS 0 .. 23 (0 .. 9; 0 at first).", "set(0, 0, 9) = 0",
            "set(0, 23, 9) = 0", "set(0, 11, 1) = 0", "set(0, 24, 0) = -2 !", "set(0, -1, 0) = -2 !",
            "set(0, 0, 10) = -2 !", "set(0, 0, -1) = -2 !", "set(0, 0, 0) = 9", "set(0, 23, 0) = 9");
        doc.says("PLACES 0 .. 7.", "drip(0, 0, 0) = 0", "drip(0, 0, 7) = 1", "drip(0, 0, 8) = -2 !",
            "drip(0, 0, -1) = -2 !", "told(0, 3) = 0", "told(1, 3) = 7");
        doc.says("DRIPS (6 at most, numbered from 0) have a KIND: 0 DRIP, 1 STEADY under DRIP, 2 WANDERING under DRIP, "
            + "3 HIDDEN under STEADY, 4 LED under WANDERING, 5 NEW under STEADY;", "drip(0, 0, 0) = 0",
            "drip(1, 1, 0) = 1", "drip(2, 2, 0) = 2", "drip(3, 3, 0) = 3", "drip(4, 4, 0) = 4", "drip(5, 5, 0) = 5",
            "drip(0, 0, 0) = -4 !", "told(0, 0) = 0", "told(1, 0) = 1", "told(2, 0) = 2", "told(3, 0) = 3",
            "told(4, 0) = 4", "told(5, 0) = 5", "told(6, 0) = -100", "taken(0, 0) = 0", "taken(0, 1) = -13",
            "taken(0, 2) = -13", "taken(1, 0) = 0", "taken(1, 3) = -13", "taken(1, 2) = -13", "taken(2, 0) = 0",
            "taken(2, 1) = -13", "taken(2, 4) = -13", "taken(3, 1) = 0", "taken(3, 0) = 0", "taken(3, 2) = -13",
            "taken(3, 5) = -13", "taken(4, 2) = 0", "taken(4, 0) = 0", "taken(4, 1) = -13", "taken(5, 1) = 0",
            "taken(5, 0) = 0", "taken(5, 2) = -13", "taken(5, 3) = -13");
        doc.also("drip(6, 0, 0) = -2 !", "drip(-1, 0, 0) = -2 !", "count(0) = 0");
        doc.says("a NUMBER (0 .. 9), a RATE (0 .. 9), a PLACE.", "drip(0, 99, 3) = 0", "drip(0, 0, 4) = 1",
            "told(0, 1) = 9", "told(0, 2) = 9", "told(0, 3) = 3", "told(1, 1) = 0", "told(1, 2) = 0", "told(1, 3) = 4",
            "set(4, 1, 9) = 0", "set(4, 1, 10) = -2 !", "set(4, 1, -1) = -2 !", "set(4, 1, 0) = 9", "set(5, 1, 9) = 0",
            "set(5, 1, 10) = -2 !", "set(5, 1, -1) = -2 !");
    }

    private static void state() {
        doc.says("VESSELS (5 at most, numbered from 0) have a SIZE (1 .. 99), stand on a PLACE of their own, or on "
            + "none (NONE, as they come),", "vessel(1) = 0", "vessel(99) = 1", "vessel(0) = -2 !", "vessel(100) = -2 !",
            "told(0, 4) = 1", "told(1, 4) = 99", "told(1, 5) = -1", "put(0, 3) = -1", "put(1, 3) = -3 !",
            "put(1, 7) = -1", "put(1, 8) = -2 !", "put(0, -1) = 3", "put(1, -1) = 7", "vessel(2) = 2", "vessel(3) = 3",
            "vessel(4) = 4", "vessel(5) = -4 !", "told(4, 5) = -1");
        doc.says("and have so much WATER (0 .. SIZE; 0 at first).", "vessel(7) = 0", "vessel(9) = 1", "told(0, 6) = 0",
            "fill(0, 7) = 0", "fill(0, 8) = -2 !", "fill(0, -1) = -2 !", "fill(1, 9) = 0", "fill(1, 10) = -2 !",
            "fill(0, 0) = 7");
        doc.says("UP: HOURS (bits 0 .. 23) in which one gets up (none at first).", "count(2) = 0", "day(1) = 0",
            "set(1, 0, 16777215) = 0", "set(1, 0, 16777216) = -2 !", "set(1, 0, -1) = -2 !", "day(1) = 120",
            "set(1, 0, 8388608) = 16777215", "day(1) = 5", "set(1, 0, 0) = 8388608");
        doc.says("HANDS (1 .. 5; 2 at first), SORT (0 or 1; 0 at first).", "count(3) = 2", "count(4) = 0",
            "set(2, 0, 0) = -2 !", "set(2, 0, 6) = -2 !", "set(2, 0, 5) = 2", "set(2, 0, 1) = 5", "set(3, 0, 2) = -2 !",
            "set(3, 0, -1) = -2 !", "set(3, 0, 1) = 0", "set(3, 0, 0) = 1");
        doc.says("NONE is -1; NO, where a long is answered, -4611686018427387904.", "day(4) = -1",
            "chance(0, 0, 0) = -4611686018427387904");
        DUE.is("NONE", UnderTheRoof.NONE, -1);
        DUE.is("NO", UnderTheRoof.NO, -4611686018427387904L);
        doc.says("Quotients are cut toward 0.", "drip(2, 1, 0) = 0", "rain: 3 2 1", "falls(0, 0, 0) = 1",
            "falls(0, 1, 0) = 1", "falls(0, 2, 0) = 0");
    }

    private static void refusals() {
        doc.says("Refusals, the first that the call's words name; they change nothing:", "vessel(9) = 0",
            "vessel(9) = 1", "put(0, 2) = -1", "put(2, 2) = -2 !", "put(1, 8) = -2 !", "put(1, 2) = -3 !",
            "taken(0, 6) = -2 !", "taken(0, 0) = -11 !", "sheet(0, 0, 41) = -2 !", "sheet(4, 0, -1) = -2 !",
            "sheet(0, 0, -1) = -14 !", "cell(4, -1, 0) = -2 !", "cell(0, -1, 0) = -11 !", "row: 0 1 5",
            "copy(4, 9, 1, 9, 9) = -2 !", "copy(0, 9, 1, 9, 9) = -11 !", "row: 1 2 5", "copy(0, 9, 1, 9, 9) = -13 !",
            "row: 1 1 5", "copy(0, 9, 1, 9, 9) = -12 !");
        doc.says("BAD (-2: a number is none such or not as told), STATE (-3), FULL (-4);", "day(6) = -2 !",
            "back() = -3 !", "tape: " + " ".repeat(160), "feed(32) = -4 !");
        DUE.is("BAD", UnderTheRoof.BAD, -2);
        DUE.is("STATE", UnderTheRoof.STATE, -3);
        DUE.is("FULL", UnderTheRoof.FULL, -4);
        doc.says("the host's: -11 nothing where something is asked, -12 a place outside, -13 a thing of another sort "
            + "or KIND, -14 a size below 0.", "cell(0, 0, 1) = -11 !", "taken(0, 0) = -11 !", "sheet(0, 0, -1) = -14 !",
            "row: 0 0 5 5", "cell(0, 2, 1) = -12 !", "rains(0, 1, 0, 1) = -13 !", "drip(0, 0, 0) = 0",
            "taken(0, 1) = -13 !");
    }

    private static String[] of(int kind, int number, String... lines) {
        String[] setup = {"rule: falls hour*4+rain" + REST, "rain: all 3", "drip(" + kind + ", " + number + "5, 7) = 0"};
        String[] all = Arrays.copyOf(setup, setup.length + lines.length);
        System.arraycopy(lines, 0, all, setup.length, lines.length);
        return all;
    }

    private static void amounts() {
        doc.says("FALLS (pints in HOUR h, in RAIN r, falls telling v): DRIP: v;",
            of(0, 2, "falls(0, 5, 0) = 23", "falls(0, 0, 0) = 3", "falls(0, 23, 0) = 95"));
        doc.says("STEADY: 1 more than a DRIP;", of(1, 2, "falls(0, 5, 0) = 24", "falls(0, 23, 0) = 96"));
        doc.also("rule: falls 99" + REST, "drip(1, 0, 0) = 0", "falls(0, 0, 0) = 100");
        doc.also("drip(1, 0, 0) = 0", "falls(0, 0, 0) = 1");
        doc.says("WANDERING: half (cut) of a DRIP's, if r is above NUMBER, else as a DRIP;",
            of(2, 2, "falls(0, 5, 0) = 11", "falls(0, 0, 0) = 1"));
        doc.also(of(2, 3, "falls(0, 5, 0) = 23"));
        doc.also(of(2, 4, "falls(0, 5, 0) = 23"));
        doc.says("HIDDEN: 0, if h is below NUMBER, else twice a STEADY's;",
            of(3, 5, "falls(0, 4, 0) = 0", "falls(0, 5, 0) = 48", "falls(0, 6, 0) = 56"));
        doc.says("LED: as a WANDERING, but 9 at most;",
            of(4, 2, "falls(0, 1, 0) = 3", "falls(0, 4, 0) = 9", "falls(0, 5, 0) = 9"));
        doc.also(of(4, 3, "falls(0, 1, 0) = 7", "falls(0, 2, 0) = 9"));
        doc.says("NEW: 0, if h is below 12, else as a STEADY.",
            of(5, 2, "falls(0, 11, 0) = 0", "falls(0, 12, 0) = 52", "falls(0, 13, 0) = 56"));
    }

    private static void wheres() {
        doc.says("WHERE (the PLACE on which it falls in RAIN r, its own being p): DRIP: p;",
            of(0, 2, "falls(0, 0, 1) = 7", "set(6, 0, 3) = 7", "falls(0, 0, 1) = 3"));
        doc.says("STEADY as a DRIP;", of(1, 2, "falls(0, 0, 1) = 7", "set(6, 0, 3) = 7", "falls(0, 0, 1) = 3"));
        doc.says("WANDERING: (p and 1) modulo 8, if r is above NUMBER, else as a DRIP;",
            of(2, 2, "falls(0, 0, 1) = 0", "set(6, 0, 3) = 7", "falls(0, 0, 1) = 4", "day(3) = 576",
                "water(4, 0, 1) = 1", "water(3, 0, 1) = 0"));
        doc.also(of(2, 3, "falls(0, 0, 1) = 7", "set(6, 0, 3) = 7", "falls(0, 0, 1) = 3"));
        doc.says("HIDDEN as a STEADY;", of(3, 2, "falls(0, 0, 1) = 7", "falls(0, 9, 1) = 7"));
        doc.says("LED: NUMBER modulo 8;", of(4, 2, "falls(0, 0, 1) = 2", "set(4, 0, 7) = 2", "falls(0, 0, 1) = 7",
            "set(4, 0, 8) = 7", "falls(0, 0, 1) = 0", "set(4, 0, 9) = 8", "falls(0, 0, 1) = 1"));
        doc.says("NEW as a STEADY.", of(5, 2, "falls(0, 0, 1) = 7", "falls(0, 23, 1) = 7"));
    }

    /** A text that is read whole. */
    private static void reads(String tape) {
        doc.also("tape: " + tape, "text() = 1", "count(6) = 0", "count(5) = 2");
    }

    private static void fails(String tape, int place) {
        doc.also("tape: " + tape, "text() = " + (-100 - place), "count(6) = 0", "count(5) = 1");
    }

    /** What an E is, of rain 2, hour 0, place 4, rate 5. */
    private static void tells(String e, int v) {
        doc.also("rule: falls " + e + REST, "rain: 2 9", "drip(0, 35, 4) = 0", "falls(0, 0, 0) = " + v);
    }

    private static void tape() {
        doc.says("A TEXT is read from THE TAPE (160 bytes at most).", "tape: falls 1;harms 1;wakes "
            + "1+".repeat(68), "count(6) = 158", "feed(49) = 159", "feed(43) = 160", "feed(49) = -4 !",
            "text() = -260");
        reads("falls 1;harms 1;wakes 1+" + "1+".repeat(67) + "1;");
        doc.says("TOKENS, each as long as can be:");
        tells("12", 12);
        fails("fallsrain" + REST, 0);
        fails("falls notrain" + REST, 6);
        doc.says("WORDS (a .. z),");
        reads("falls rain*rate" + REST);
        fails("Falls 1" + REST, 0);
        fails("falls Rain" + REST, 6);
        fails("falls rain_" + REST, 10);
        doc.says("NUMBERS (as many digits as stand there, 4 at most),");
        tells("9999-9989", 10);
        tells("0042", 42);
        fails("falls 10000" + REST, 6);
        fails("falls 00000" + REST, 6);
        doc.says("SIGNS ( ) ; + - * < = ;");
        tells("(2+3)*4-6*(1<2)-(3=4)", 14);
        fails("falls 1/1" + REST, 7);
        fails("falls 1>1" + REST, 7);
        doc.says("blanks (32, 10) may stand between.");
        reads("falls\n1 \n + 2 ;harms 1;\n\nwakes 1;");
        reads("falls 1;harms(1)and 1;wakes 1or 1;");
        fails("falls\t1" + REST, 5);
        fails("falls\r1" + REST, 5);
    }

    private static void expressions() {
        doc.says("TEXT: falls E ; harms E ; wakes E ;");
        reads("falls 1;harms 1;wakes 1;");
        fails("falls 1;wakes 1;harms 1;", 8);
        fails("harms 1;falls 1;wakes 1;", 0);
        fails("falls 1;harms 1;wakes 1;falls 1;", 24);
        doc.says("E: AND { or AND }.");
        tells("0 and 0 or 1", 1);
        tells("1 or 0 and 0", 1);
        tells("0 or 0 or 7", 1);
        doc.says("AND: NOT { and NOT }.");
        tells("not 0 and 0", 0);
        tells("1 and 2 and not 3", 0);
        doc.says("NOT: not NOT, or SUM, perhaps < or = and a SUM.");
        tells("not 1 < 2", 0);
        tells("not not 5", 1);
        tells("1 + 1 < 3", 1);
        tells("3 = 1 + 2", 1);
        tells("4 < 4", 0);
        tells("4 = 4", 1);
        fails("falls 1<2<3" + REST, 9);
        fails("falls 1=2<3" + REST, 9);
        fails("falls 1<not 2" + REST, 8);
        doc.says("SUM: TERM { + or - TERM }.");
        tells("9 - 3 - 2", 4);
        tells("9 - 3 + 2", 8);
        doc.says("TERM: ONE { * ONE }.");
        tells("2 + 3 * 4", 14);
        tells("2 * 3 + 4", 10);
        tells("2 * 3 * 4", 24);
        doc.says("ONE: a NUMBER, a NAME, - ONE, ( E ).");
        tells("- 2 + 9", 7);
        tells("9 - - 2", 11);
        tells("- 2 * - 3", 6);
        tells("(2 + 3) * 4", 20);
        tells("-(2 - 9)", 7);
        tells("(0 or 1) * 5", 5);
        fails("falls ()" + REST, 7);
        fails("falls +1" + REST, 6);
        doc.says("NAMES are rain hour place rate size gone;");
        tells("rain*1+hour*7+place*2+rate*4", 30);
        tells("9+size+gone", 9);
        doc.says("falls, harms, wakes, or, and, not are KEYS.");
        for (String key : new String[] {"falls", "harms", "wakes", "or", "and"}) {
            fails("falls " + key + REST, 6);
        }
        fails("falls not" + REST, 9);
        doc.says("An E is an int (32 bits, wrapping): of or, and, not, <, = 1 or 0 (what is not 0 is true).");
        tells("8192*8192*64+7", 7);
        tells("8192*8192*32<0", 1);
        tells("8192*8192*32-1<0", 0);
        tells("(7 and 3)+2*(0 or 8)+4*(not 0)+8*(not 7)+16*(1<2)+32*(2=2)", 55);
        tells("not (0-5)", 0);
        tells("(0-5) and (0-5)", 1);
    }

    private static void faults() {
        doc.says("FAULT: the place of the first byte of the first TOKEN that can't stand there (the text's size, if it "
            + "ends too early),");
        fails("falls 1 1" + REST, 8);
        fails("falls 1;harms wakes 1;", 14);
        fails("falls 1;harms 1;wakes 1;;", 24);
        fails("falls 1)" + REST, 7);
        fails("falls 1;harms 1;wakes 1", 23);
        fails("falls 1 ; ", 10);
        fails("", 0);
        doc.says("also of a byte that begins none,");
        fails("falls 1 ?;", 8);
        fails("falls 1;harms 1;wakes 1;" + (char) 0, 24);
        fails("" + (char) 255, 0);
        doc.says("a WORD that is neither KEY nor NAME,");
        fails("falls rains;", 6);
        fails("falls rain+rai;", 11);
        doc.says("a NUMBER that is too long,");
        fails("falls 2+12345;", 8);
    }

    private static void whatStandsOpen() {
        doc.says("a ( , a not, a - ahead of a ONE while 5 of these are open");
        reads("falls (((((1)))))" + REST);
        fails("falls ((((((1))))))" + REST, 11);
        reads("falls -----1" + REST);
        fails("falls ------1" + REST, 11);
        reads("falls not not not not not 1" + REST);
        fails("falls not not not not not not 1" + REST, 26);
        reads("falls not -(-(1))" + REST);
        fails("falls not -(-(-(1)))" + REST, 14);
        doc.says("(a ( till its ) , not and - till what they belong to ends).");
        reads("falls (1)+(1)*(1)-(1)<(1)+(1) and (1)" + REST);
        fails("falls (1+(1)+(((((1" + REST, 17);
        reads("falls -1-1-1-1-1-1-1" + REST);
        reads("falls (((((2-1)))))" + REST);
        reads("falls -1+-1+-1+-1+-1+-1*-1" + REST);
        reads("falls not 1 and not 1 and not 1 and not 1 and not 1 and not 1" + REST);
        reads("falls not 1<((((1))))" + REST);
        fails("falls not 1<(((((1)))))" + REST, 16);
        reads("falls not 1 and (((((1)))))" + REST);
        reads("falls -1<(((((1)))))" + REST);
        reads("falls -1*(((((1)))))" + REST);
        fails("falls -(((((1)))))" + REST, 11);
    }

    private static void texts() {
        String[] five = new String[10];
        for (int i = 0; i < 5; i++) {
            five[2 * i] = "tape: falls " + i + REST;
            five[2 * i + 1] = "text() = " + (i + 1);
        }
        doc.says("There are 6 TEXTS at most, TEXT 0 with them.", five);
        String[] six = Arrays.copyOf(five, 12);
        six[10] = "text() = -4 !";
        six[11] = "force(5) = 0";
        doc.also(six);
        doc.says("rain, hour: of the HOUR.", "rule: falls rain*10+hour;harms rain*10+hour;wakes rain*10+hour;",
            "rain: 2 3 1 9", "drip(0, 0, 6) = 0", "set(6, 0, 5) = 6", "falls(0, 0, 0) = 20", "falls(0, 1, 0) = 31",
            "set(1, 0, 8) = 0", "day(1) = 93", "day(0) = 426", "falls(0, 23, 0) = 23");
        doc.says("falls (of a DRIP; place: WHERE it falls then; rate: RATE; size, gone 0): how much falls (0 .. 99, else "
            + "the bound).", "rule: falls place*10+rate+1000*size+1000*gone" + REST, "drip(2, 3, 6) = 0", "rain: 0 1",
            "falls(0, 0, 0) = 63", "falls(0, 1, 0) = 36", "falls(0, 9, 0) = 63", "drip(4, 14, 6) = 1",
            "falls(1, 9, 0) = 9", "set(5, 0, 9) = 3", "falls(0, 9, 0) = 69");
        tells("100", 99);
        tells("99", 99);
        tells("-1", 0);
        tells("8192*8192*32", 0);
        doc.says("harms (of a PLACE; place; size: what is OVER there; gone: how many HOURS ahead of this one got by since "
            + "one got up, or since the beginning; rate 0): what that harms (0 .. 999, else the bound).",
            "rule: falls 3*(hour=7);harms place*100+size*10+gone+rate*999;wakes 0;", "drip(0, 9, 4) = 0", "day(0) = 437",
            "set(1, 0, 4) = 0", "day(0) = 435", "set(1, 0, 128) = 4", "day(0) = 430", "set(1, 0, 256) = 128",
            "day(0) = 437", "vessel(1) = 0", "put(0, 4) = -1", "day(0) = 427");
        doc.also("rule: falls 1*(hour=7);harms 1000;wakes 0;", "drip(0, 0, 0) = 0", "day(0) = 999");
        doc.also("rule: falls 1*(hour=7);harms 999;wakes 0;", "drip(0, 0, 0) = 0", "day(0) = 999");
        doc.also("rule: falls 1*(hour=7);harms -1;wakes 0;", "drip(0, 0, 0) = 0", "day(0) = 0");
        doc.says("wakes (gone likewise; place, rate, size 0): what getting up costs (0 .. 999, else the bound).",
            "rule: falls 9;harms 0;wakes gone+100*(place+rate+size);", "drip(0, 9, 4) = 0", "set(1, 0, 40) = 0",
            "day(1) = 5", "set(1, 0, 1) = 40", "day(1) = 0", "set(1, 0, 8388608) = 1", "day(1) = 23",
            "set(1, 0, 7) = 8388608", "day(1) = 2");
        doc.also("rule: falls 0;harms 0;wakes 1000;", "set(1, 0, 2) = 0", "day(1) = 999");
        doc.also("rule: falls 0;harms 0;wakes 999;", "set(1, 0, 2) = 0", "day(1) = 999");
        doc.also("rule: falls 0;harms 0;wakes -1;", "set(1, 0, 2) = 0", "day(1) = 0");
        doc.says("TEXT 0, at first THE RULE, is: falls rate * rain ; harms size * 2 ; wakes 5 ;", "count(5) = 1",
            "count(7) = 0", "drip(0, 7, 0) = 0", "rain: 9", "falls(0, 0, 0) = 63", "day(0) = 126", "set(1, 0, 3) = 0",
            "day(1) = 10", "tape: falls 1;harms 1;wakes 1;", "text() = 1", "force(1) = 0", "day(2) = 26",
            "force(0) = 1", "day(2) = 136");
    }

    private static void hours() {
        doc.says("==== 2 AN HOUR: if it is UP, one gets up (that costs wakes):", "rule: falls 0;harms 0;wakes 7+hour;",
            "day(1) = 0", "set(1, 0, 5) = 0", "day(1) = 16");
        doc.says("as many VESSELS as one has HANDS are emptied (WATER 0), of those that stand on a PLACE and have any "
            + "WATER:", "vessel(9) = 0", "vessel(9) = 1", "vessel(9) = 2", "put(0, 0) = -1", "put(1, 1) = -1",
            "fill(0, 5) = 0", "fill(1, 4) = 0", "fill(2, 9) = 0", "set(1, 0, 1) = 0", "water(0, 0, 0) = 0",
            "water(1, 0, 0) = 0", "water(2, 0, 0) = 9", "set(2, 0, 1) = 2", "water(0, 0, 0) = 0", "water(1, 0, 0) = 4",
            "set(1, 0, 2) = 1", "water(0, 0, 0) = 5", "water(0, 1, 0) = 0");
        doc.also("vessel(1) = 0", "vessel(9) = 1", "put(0, 0) = -1", "put(1, 1) = -1", "fill(1, 5) = 0",
            "set(1, 0, 1) = 0", "set(2, 0, 1) = 2", "set(3, 0, 1) = 0", "water(1, 0, 0) = 0");
        doc.says("by SORT 0 those of most WATER, by 1 those of least room left (SIZE less WATER);", "vessel(6) = 0",
            "vessel(20) = 1", "put(0, 0) = -1", "put(1, 1) = -1", "fill(0, 6) = 0", "fill(1, 8) = 0",
            "set(1, 0, 1) = 0", "set(2, 0, 1) = 2", "water(0, 0, 0) = 6", "water(1, 0, 0) = 0", "set(3, 0, 1) = 0",
            "water(0, 0, 0) = 0", "water(1, 0, 0) = 8");
        doc.says("of like ones the first;", "vessel(9) = 0", "vessel(9) = 1", "put(0, 5) = -1", "put(1, 1) = -1",
            "fill(0, 4) = 0", "fill(1, 4) = 0", "set(1, 0, 1) = 0", "set(2, 0, 1) = 2", "water(0, 0, 0) = 0",
            "water(1, 0, 0) = 4", "set(3, 0, 1) = 0", "water(0, 0, 0) = 0", "water(1, 0, 0) = 4");
        doc.says("gone begins anew (0 in this HOUR).", "rule: falls 1;harms gone+1;wakes 0;", "drip(0, 0, 0) = 0",
            "day(0) = 300", "set(1, 0, 4) = 0", "day(0) = 256");
        doc.says("Then on each PLACE what all DRIPS that fall there FALL, together, goes into the VESSEL that stands "
            + "there, as long as it has room;", "drip(0, 2, 2) = 0", "drip(0, 3, 2) = 1", "drip(0, 4, 5) = 2",
            "vessel(7) = 0", "put(0, 2) = -1", "rain: 1 1", "water(0, 0, 0) = 5", "water(0, 1, 0) = 7",
            "water(2, 0, 1) = 0", "fill(0, 7) = 0", "water(0, 0, 0) = 7", "set(1, 0, 1) = 0", "water(0, 0, 0) = 5");
        doc.says("the rest, all of it where none stands, is OVER there:", "drip(0, 2, 2) = 0", "drip(0, 3, 2) = 1",
            "drip(0, 4, 5) = 2", "vessel(7) = 0", "put(0, 2) = -1", "rain: 1 1", "water(2, 0, 1) = 0",
            "water(2, 1, 1) = 3", "water(5, 0, 1) = 4", "water(5, 1, 1) = 4", "water(5, 2, 1) = 0", "day(3) = 11");
        doc.says("what harms tells comes to HARM, if any is OVER.", "rule: falls rate*rain;harms 7;wakes 0;",
            "drip(0, 1, 0) = 0", "vessel(1) = 0", "put(0, 0) = -1", "rain: 1", "day(0) = 0", "rain: 1 1", "day(0) = 7",
            "drip(0, 9, 0) = 1", "drip(0, 1, 1) = 2", "day(0) = 28");
    }

    private static void day() {
        doc.says("THE DAY, in thought: HOURS 0 to 23, from WATER as it is, gone 0:", "drip(0, 1, 0) = 0",
            "vessel(9) = 0", "put(0, 0) = -1", "fill(0, 4) = 0", "rain: all 1", "day(3) = 19 ?", "water(0, 0, 0) = 5 ?",
            "water(0, 23, 0) = 9 ?", "fill(0, 0) = 4", "day(3) = 15", "day(5) = 24");
        doc.also("rule: falls 1*(hour=0);harms 50+gone;wakes 50+gone;", "drip(0, 0, 0) = 0", "day(0) = 50",
            "set(1, 0, 1) = 0", "day(1) = 50");
        doc.says("HARM; WAKES (what getting up costs); COST: both together; OVER of all PLACES and HOURS; FIRST: the "
            + "first HOUR in which any is OVER; NONE; FALLEN: all that FALLS.", "drip(0, 1, 0) = 0",
            "drip(0, 2, 1) = 1", "vessel(3) = 0", "put(0, 1) = -1", "rain: 0 1 1", "set(1, 0, 1) = 0", "day(0) = 6",
            "day(1) = 5", "day(2) = 11", "day(3) = 3", "day(4) = 1", "day(5) = 6", "rain: 0 0 0", "day(4) = -1");
    }

    private static void stand() {
        String[] two = {"drip(0, 5, 3) = 0", "rain: 1", "vessel(3) = 0", "vessel(4) = 1"};
        doc.says("STAND: of all ways to put all VESSELS on PLACES (each on one of its own) that of least COST;",
            two[0], two[1], two[2], two[3], "stand(-1) = 2 ?", "stand(0) = 0", "stand(1) = 3", "fill(1, 4) = 0",
            "stand(-1) = 4", "stand(0) = 3", "stand(1) = 0");
        doc.also("drip(0, 5, 3) = 0", "rain: 1", "vessel(4) = 0", "vessel(4) = 1", "stand(0) = 0", "stand(1) = 3",
            "drip(0, 5, 7) = 1", "stand(0) = 3", "stand(1) = 7", "stand(-1) = 4");
        doc.also("drip(0, 9, 7) = 0", "drip(0, 8, 6) = 1", "drip(0, 7, 5) = 2", "drip(0, 6, 4) = 3", "drip(0, 5, 2) = 4",
            "rain: 1", "vessel(9) = 0", "vessel(8) = 1", "vessel(7) = 2", "vessel(6) = 3", "vessel(5) = 4", "stand(-1) = 0",
            "stand(0) = 7", "stand(1) = 6", "stand(2) = 5", "stand(3) = 4", "stand(4) = 2");
        doc.says("of like ones the first (by VESSEL 0's PLACE, then VESSEL 1's, ..).", "drip(0, 5, 3) = 0", "rain: 1",
            "vessel(9) = 0", "vessel(9) = 1", "vessel(9) = 2", "stand(0) = 0", "stand(1) = 1", "stand(2) = 3",
            "stand(-1) = 0");
        doc.also("vessel(9) = 0", "vessel(9) = 1", "vessel(9) = 2", "put(0, 7) = -1", "put(2, 0) = -1", "stand(0) = 0",
            "stand(1) = 1", "stand(2) = 2");
    }

    private static void rise() {
        doc.says("RISE (k: 0 .. 3): of all sets of k HOURS that by which, were they UP, COST would be least;",
            "drip(0, 5, 3) = 0", "vessel(5) = 0", "put(0, 3) = -1", "rain: 1 0 1 1", "rise(0, 0) = 20",
            "rise(0, 1) = 0", "rise(1, 0) = 15", "rise(2, 0) = 10", "rise(2, 1) = 10", "rise(3, 0) = 15",
            "set(1, 0, 16777215) = 0", "rise(0, 0) = 20 ?", "rise(2, 1) = 10 ?", "rise(4, 0) = -2 !",
            "rise(-1, 0) = -2 !");
        doc.also("rule: falls 5*(hour<2)+5*(21<hour);harms size;wakes hour=0;", "drip(0, 0, 3) = 0", "vessel(5) = 0",
            "put(0, 3) = -1", "rise(1, 0) = 10", "rise(2, 0) = 5", "rise(2, 1) = 6", "rise(3, 0) = 0", "rise(3, 1) = 8388614");
        doc.says("of like ones the least as bits.", "drip(0, 5, 3) = 0", "vessel(5) = 0", "put(0, 3) = -1",
            "rain: 1 0 1 1", "rise(1, 1) = 2", "rise(3, 1) = 11");
        doc.also("rise(1, 1) = 1", "rise(2, 1) = 3", "rise(3, 1) = 7", "rise(3, 0) = 15");
    }

    private static void lead() {
        doc.says("LEAD: of all DRIPS and PLACES those by which, fell that DRIP on that PLACE all day (as much as it "
            + "FALLS; falls told for that PLACE), COST would be least, if less than now;", "drip(0, 3, 5) = 0",
            "drip(0, 5, 6) = 1", "rain: 1", "vessel(9) = 0", "put(0, 3) = -1", "lead(0) = 13 ?", "lead(1) = 6 ?",
            "put(0, 5) = 3", "lead(0) = 15", "lead(1) = 0");
        doc.also("rule: falls 9-place;harms size;wakes 0;", "drip(0, 0, 5) = 0", "lead(0) = 7", "lead(1) = 48");
        doc.also("rule: falls 2;harms size;wakes 0;", "rain: all 5", "drip(2, 0, 5) = 0", "vessel(12) = 0",
            "vessel(12) = 1", "put(0, 2) = -1", "lead(0) = 2", "lead(1) = 12");
        doc.says("of like ones the first DRIP, then the first PLACE; NONE.", "drip(0, 5, 5) = 0", "drip(0, 5, 6) = 1",
            "rain: 1", "lead(0) = -1", "lead(1) = 20", "vessel(5) = 0", "vessel(5) = 1", "put(0, 4) = -1",
            "put(1, 3) = -1", "lead(0) = 3", "lead(1) = 10", "put(1, 0) = 3", "lead(0) = 0");
        doc.also("lead(0) = -1", "lead(1) = 0");
        doc.says("GONE: FIRST, were no HOUR UP; 24: there is none.", "gone() = 24", "drip(0, 5, 3) = 0", "vessel(5) = 0",
            "put(0, 3) = -1", "rain: 0 1 0 1", "gone() = 3", "set(1, 0, 8) = 0", "day(4) = -1", "gone() = 3 ?",
            "rain: 0 1 0 0", "gone() = 24");
    }

    private static void tiles() {
        String[] two = {"drip(0, 5, 3) = 0", "drip(0, 1, 3) = 1", "vessel(4) = 0", "put(0, 3) = -1", "rain: 1",
            "set(1, 0, 1) = 0"};
        doc.says("TILE of a DRIP: COST less what it would be without that DRIP.", two[0], two[1], two[2], two[3], two[4],
            two[5], "day(2) = 9", "tile(0) = 4 ?", "tile(1) = 2 ?");
        doc.says("MORE of a DRIP, n (1 .. 9): what COST would be, were there n DRIPS more like that one, less COST.",
            two[0], two[1], two[2], two[3], two[4], two[5], "more(0, 1) = 10 ?", "more(0, 9) = 90 ?", "more(1, 3) = 6",
            "more(0, 0) = -100000 !", "more(0, 10) = -100000 !", "set(6, 1, 2) = 3", "more(1, 2) = 4", "fill(0, 4) = 0",
            "set(1, 0, 0) = 1", "more(0, 1) = 10");
        String[] sorts = {"vessel(10) = 0", "vessel(4) = 1", "put(0, 0) = -1", "put(1, 1) = -1", "fill(0, 6) = 0",
            "fill(1, 4) = 0", "drip(0, 5, 0) = 0", "drip(0, 3, 1) = 1", "rain: 1", "set(1, 0, 1) = 0"};
        String[] sorted = Arrays.copyOf(sorts, 16);
        sorted[10] = "set(2, 0, 1) = 2";
        sorted[11] = "day(2) = 11";
        sorted[12] = "sorted(0) = -4 ?";
        sorted[13] = "set(3, 0, 1) = 0";
        sorted[14] = "day(2) = 7";
        sorted[15] = "sorted(0) = 4 ?";
        doc.says("SORTED: COST by the SORT that isn't now, less COST.", sorted);
        String[] carry = Arrays.copyOf(sorts, 15);
        carry[10] = "sorted(1) = 2 ?";
        carry[11] = "fill(1, 0) = 4";
        carry[12] = "sorted(1) = 1 ?";
        carry[13] = "set(2, 0, 5) = 2";
        carry[14] = "sorted(1) = 1";
        doc.says("CARRY: the least HANDS (1 .. 5) by which COST would be no more than by 5.", carry);
        doc.also("vessel(1) = 0", "vessel(1) = 1", "vessel(1) = 2", "vessel(1) = 3", "vessel(1) = 4", "put(0, 0) = -1",
            "put(1, 1) = -1", "put(2, 2) = -1", "put(3, 3) = -1", "put(4, 4) = -1", "fill(0, 1) = 0", "fill(1, 1) = 0",
            "fill(2, 1) = 0", "fill(3, 1) = 0", "fill(4, 1) = 0", "set(1, 0, 1) = 0", "drip(0, 1, 4) = 0", "rain: 1",
            "sorted(1) = 5");
    }

    private static void seen() {
        String[] three = {"drip(0, 2, 3) = 0", "drip(0, 2, 3) = 1", "drip(0, 5, 4) = 2", "rain: 1 1", "vessel(9) = 0",
            "put(0, 3) = -1"};
        String[] most = Arrays.copyOf(three, 20);
        String[] runs = {"row: 1 0 2", "seen(1, 0, 0) = 4 ?", "seen(1, 0, 1) = 1 ?", "seen(1, 1, 0) = 0",
            "seen(1, 1, 1) = -1", "row: 1 1 0", "seen(1, 0, 0) = 2", "seen(1, 0, 1) = 0", "row: 1 2 4",
            "seen(1, 0, 0) = 2", "seen(1, 0, 1) = 3", "seen(1, 1, 0) = 4", "seen(1, 1, 1) = 1", "seen(1, 23, 0) = 4"};
        System.arraycopy(runs, 0, most, three.length, runs.length);
        doc.says("SEEN: a SHEET tells WATER of VESSELS behind an HOUR of THE DAY: sets of DRIPS (none, too) by which, were "
            + "just these there, it would be so: how many; the least as bits (NONE).", most);
        String[] strange = Arrays.copyOf(three, 15);
        String[] which = {"row: 1 0 2", "strange(1, 0) = 0 ?", "row: 1 0 4", "strange(1, 0) = 2 ?", "strange(1, 1) = 0",
            "row: 1 0 0", "strange(1, 0) = -1", "row: 1 0 7", "strange(1, 0) = -1"};
        System.arraycopy(which, 0, strange, three.length, which.length);
        doc.says("STRANGE: the first DRIP without which alone it would be so; NONE.", strange);
    }

    /** By the sentence's own z: RAIN by SEED 0 is 4 9 7 4 .. (110 in all), by 1: 7 6, by -1: 8, by MIN: 8 5. */
    private static void drawn() {
        doc.says("DRAWN by a SEED: RAIN of each HOUR, in thought: z = z * 1103515245 + 12345 (an int; SEED at first): "
            + "(z >>> 9) % 10: COST.", "rule: falls rain*(hour=0);harms size;wakes 0;", "drip(0, 0, 0) = 0",
            "drawn(0) = 4 ?", "drawn(1) = 7 ?", "drawn(-1) = 8 ?", "drawn(MIN) = 8 ?", "drawn(MAX) = 4 ?");
        doc.also("rule: falls rain*(hour=1);harms size;wakes 0;", "drip(0, 0, 0) = 0", "drawn(0) = 9", "drawn(1) = 6",
            "drawn(-1) = 4", "drawn(MIN) = 5");
        doc.also("rule: falls rain*(hour=23);harms size;wakes 0;", "drip(0, 0, 0) = 0", "drawn(0) = 1", "drawn(-1) = 8");
        doc.also("rule: falls 1;harms rain;wakes rain*100;", "drip(0, 0, 0) = 0", "set(1, 0, 1) = 0", "drawn(0) = 510",
            "day(2) = 0");
        doc.says("DRY: of n seeds (1 .. 20), SEED and each 1 more (an int), those by which nothing is OVER.",
            "rule: falls rain*(hour=0);harms 0;wakes 0;", "drip(0, 0, 0) = 0", "chance(0, 20, 0) = 1 ?",
            "chance(0, 20, 1) = 10", "chance(0, 3, 0) = 1", "chance(0, 3, 1) = 3", "chance(2, 1, 0) = 1",
            "chance(2, 1, 1) = 1", "chance(0, 2, 0) = 0", "chance(0, 2, 1) = 1", "vessel(99) = 0", "put(0, 0) = -1",
            "chance(0, 20, 0) = 1", "chance(0, 20, 1) = 1");
        doc.also("rule: falls (hour=0)*(not rain=1);harms 1;wakes 1;", "drip(0, 0, 0) = 0", "chance(MAX, 2, 0) = 0",
            "chance(MAX, 3, 0) = 1", "chance(MAX, 3, 1) = 3");
    }

    private static void image() {
        doc.says("AN IMAGE keeps RAIN, NUMBERS, RATES, PLACES of DRIPS and VESSELS, WATER, UP, HANDS, SORT, THE RULE (DRIPS, "
            + "VESSELS that came since go).", "drip(0, 12, 3) = 0", "vessel(9) = 0", "put(0, 4) = -1", "fill(0, 5) = 0",
            "rain: 1 0 3", "set(1, 0, 6) = 0", "set(2, 0, 4) = 2", "set(3, 0, 1) = 0", "rule: falls 1;harms 1;wakes 1;",
            "image() = 1", "rain: 9 9 9", "set(4, 0, 7) = 1", "set(5, 0, 8) = 2", "set(6, 0, 0) = 3", "put(0, 1) = 4",
            "fill(0, 9) = 5", "set(1, 0, 1) = 6", "set(2, 0, 1) = 4", "set(3, 0, 0) = 1", "force(0) = 1",
            "drip(5, 55, 5) = 1", "vessel(8) = 1", "put(1, 4) = -1", "back() = 1", "told(0, 0) = 0", "told(0, 1) = 1",
            "told(0, 2) = 2", "told(0, 3) = 3", "told(0, 4) = 9", "told(0, 5) = 4", "told(0, 6) = 5", "told(1, 0) = -100",
            "told(1, 4) = -100", "count(0) = 1", "count(1) = 1", "count(2) = 6", "count(3) = 4", "count(4) = 1",
            "count(7) = 1", "set(0, 0, 0) = 1", "set(0, 1, 0) = 0", "set(0, 2, 0) = 3", "put(0, -1) = 4",
            "vessel(7) = 1", "told(1, 5) = -1", "told(1, 6) = 0");
    }

    private static void sheets() {
        doc.says("==== 3 SHEETS 0 .. 3 are rows of numbers, or missing (as all are at first):", "cell(0, 0, 0) = -11 !",
            "cell(1, 0, 0) = -11 !", "cell(2, 0, 0) = -11 !", "cell(3, 0, 0) = -11 !", "cell(4, 0, 0) = -2 !",
            "cell(-1, 0, 0) = -2 !", "row: 0 0 1", "row: 3 0 1", "cell(0, 0, 5) = 1", "cell(3, 0, 5) = 1",
            "cell(1, 0, 5) = -11 !");
        String[] water = {"vessel(99) = 0", "fill(0, 1) = 0"};
        doc.says("of sort 0 bytes, 1 shorts, 2 ints.", water[0], water[1], "row: 0 0 257", "seen(0, 0, 0) = 1",
            "row: 0 1 257", "seen(0, 0, 0) = 0", "row: 0 1 65537", "seen(0, 0, 0) = 1", "row: 0 2 65537",
            "seen(0, 0, 0) = 0", "sheet(0, 3, 1) = -2 !", "sheet(0, -2, 1) = -2 !");
    }

    /** The class has the calls under the headings that the document names, in its order. */
    private static void sections() throws IOException {
        String source = Files.readString(Path.of("src/main/java/UnderTheRoof.java"));
        String ahead = "";
        for (int section = 0; section < 7; section++) {
            doc.says("Ahead of the calls");
            String[] names = doc.upTo(" the interface says: ").replaceAll("[`,]", "").trim().split(" +");
            String title = doc.upTo(".").trim();
            int at = source.indexOf("\n    // " + title + "\n");
            DUE.holds(title + " stands behind " + ahead, at > source.indexOf(ahead));
            int end = source.indexOf("\n    // ----", at + 1);
            for (String name : names) {
                int call = source.indexOf(" " + name + "(", at);
                DUE.holds(name + " stands under " + title, names.length > 0 && call > at && call < end);
            }
            ahead = title;
        }
    }
}

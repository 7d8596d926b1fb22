import java.util.Arrays;

/** For each promise of the document: ordinary inputs, the edges that it names, wrong inputs; answers reckoned by hand. */
public final class PromisesTest {
    private static final int NONE = -1, UNKNOWN = -2, OUTSIDE = -3, NOT = -4, FULL = -5;
    private static final int KISS = 0, WEEP = 1, SMASH = 2, ASK = 3, NIGHT = 4;
    private static final int[] WILD = {-1, -2, 6, 100, Integer.MAX_VALUE, Integer.MIN_VALUE};

    private static int checks = 0;
    private static int wrong = 0;

    private PromisesTest() {
    }

    public static void main(String[] args) {
        newObject();
        write();
        erase();
        fault();
        faultInLines();
        faultOfTokens();
        faultOfSpells();
        land();
        landAgain();
        person();
        spell();
        term();
        as();
        laidBy();
        can();
        act();
        actInOrder();
        actUntilFull();
        undo();
        keepAndBack();
        fewest();
        way();
        helpers();
        nights();
        never();
        ahead();
        props();
        gone();
        many();
        farthest();
        row();
        burn();
        judge();
        prince();
        dismiss();
        inLine();
        tried();
        forget();
        mayBe();
        next();
        count();
        System.out.println(checks + " checks of promises, " + wrong + " wrong");
        if (wrong != 0) {
            System.exit(1);
        }
    }

    private static void due(String what, int got, int want) {
        checks++;
        if (got != want) {
            wrong++;
            System.out.println(what + " answered " + got + ", due is " + want);
        }
    }

    private static void type(SevenSpells x, String text) {
        for (int i = 0; i < text.length(); i++) {
            x.write(text.charAt(i));
        }
    }

    private static SevenSpells told(String text) {
        SevenSpells x = new SevenSpells();
        tell(x, text);
        return x;
    }

    private static void tell(SevenSpells x, String text) {
        type(x, text);
        int lines = text.split(";").length;
        due("land() of " + text, x.land(), lines);
    }

    private static int faultOf(String text) {
        SevenSpells x = new SevenSpells();
        type(x, text);
        return x.fault();
    }

    private static int[] counts(SevenSpells x) {
        int[] all = new int[13];
        for (int i = 0; i < all.length; i++) {
            all[i] = x.count(i);
        }
        return all;
    }

    private static void dueCounts(String what, SevenSpells x, int... want) {
        checks++;
        if (!Arrays.equals(counts(x), want)) {
            wrong++;
            System.out.println(what + " has counts " + Arrays.toString(counts(x)) + ", due is " + Arrays.toString(want));
        }
    }

    private static void newObject() {
        dueCounts("1 a new object", new SevenSpells(), 2, 0, 0, 0, 0, 0, 0, 0, 0, 0, 0, 0, 0);
        due("1 NONE", SevenSpells.NONE, NONE);
        due("1 UNKNOWN", SevenSpells.UNKNOWN, UNKNOWN);
        due("1 OUTSIDE", SevenSpells.OUTSIDE, OUTSIDE);
        due("1 NOT", SevenSpells.NOT, NOT);
        due("1 FULL", SevenSpells.FULL, FULL);
        due("1 person 1", new SevenSpells().person(1, 0), 0);
        due("1 person 2", new SevenSpells().person(2, 0), UNKNOWN);
    }

    private static void write() {
        SevenSpells x = new SevenSpells();
        due("2 write(-1)", x.write(-1), OUTSIDE);
        due("2 write(256)", x.write(256), OUTSIDE);
        due("2 write(0)", x.write(0), 1);
        due("2 write(255)", x.write(255), 2);
        for (int i = 2; i < 240; i++) {
            due("2 write", x.write('a'), i + 1);
        }
        due("2 write of the 241st", x.write('a'), FULL);
        due("2 OUTSIDE ahead of FULL", x.write(256), OUTSIDE);
        due("2 letters", x.count(12), 240);
    }

    private static void erase() {
        SevenSpells x = new SevenSpells();
        due("3 erase of nothing", x.erase(), 0);
        type(x, "land");
        due("3 erase", x.erase(), 4);
        due("3 erased", x.count(12), 0);
        due("3 erase again", x.erase(), 0);
        type(x, "bare");
        due("3 behind it", x.fault(), NONE);
    }

    private static void fault() {
        due("4 nothing", faultOf(""), 0);
        due("4 blanks alone", faultOf("   "), 3);
        due("4 bare", faultOf("bare"), NONE);
        due("4 blanks round it", faultOf("  bare  "), NONE);
        due("4 bare 1", faultOf("bare 1"), 5);
        due("4 no such word", faultOf("  king 1"), 2);
        due("4 a word too long", faultOf("bares"), 0);
        due("4 a word too short", faultOf("bar"), 0);
        due("4 a number first", faultOf("3"), 0);
        due("4 land", faultOf("land"), 4);
        due("4 land and blanks", faultOf("land  "), 6);
        due("4 land 0", faultOf("land 0"), 5);
        due("4 land 1", faultOf("land 1"), NONE);
        due("4 land 3", faultOf("land 3"), NONE);
        due("4 land 4", faultOf("land 4"), 5);
        due("4 land 02", faultOf("land 02"), 5);
        due("4 land x", faultOf("land x"), 5);
        due("4 land 2 2", faultOf("land 2 2"), 7);
        due("4 day 6", faultOf("day 6"), NONE);
        due("4 day 7", faultOf("day 7"), 4);
        due("4 broken 1", faultOf("broken 1"), NONE);
        due("4 broken 2", faultOf("broken 2"), 7);
        due("4 whole is no line", faultOf("whole 1"), 0);
        due("4 kiss is no line", faultOf("kiss 1"), 0);
        SevenSpells x = told("land 3;sleep 2 if kiss 0");
        type(x, "frog 2 if holds 0");
        due("4 people and spells of texts ahead", x.fault(), NONE);
        due("4 nothing changes", x.count(1), 1);
        due("4 the same again", x.fault(), NONE);
    }

    private static void faultInLines() {
        due("4 ; alone", faultOf(";"), 0);
        due("4 ; instead of people", faultOf("land;bare"), 4);
        due("4 ; instead of a day", faultOf("day ;bare"), 4);
        due("4 a ; at the end", faultOf("bare;"), 5);
        due("4 ; and blanks at the end", faultOf("bare; "), 6);
        due("4 ;;", faultOf("bare;;bare"), 5);
        due("4 12 lines", faultOf("bare;bare;bare;bare;bare;bare;bare;bare;bare;bare;bare;bare"), NONE);
        due("4 13 lines", faultOf("bare;bare;bare;bare;bare;bare;bare;bare;bare;bare;bare;bare;bare"), 59);
        due("4 no ; between", faultOf("bare bare"), 5);
        due("4 people of lines ahead", faultOf("land 1;sleep 1 if day 0"), 13);
        due("4 people of lines ahead, three", faultOf("land 3;sleep 2 if kiss 2"), NONE);
        due("4 people of lines behind", faultOf("sleep 2 if day 0;land 3"), 6);
        due("4 spells gone with bare", faultOf("sleep 0 if day 1;bare;sleep 0 if gone 1"), 38);
        due("4 spells gone with land", faultOf("sleep 0 if day 1;land 2;bind 0 if day 1"), 29);
    }

    private static void faultOfTokens() {
        due("4 no blanks", faultOf("land2;sleep0if kiss1and day2wakes0"), NONE);
        due("4 great letters", faultOf("Land 2"), 0);
        due("4 a great letter inside", faultOf("laNd 2"), 0);
        due("4 a point", faultOf("land 2."), 6);
        due("4 letter 255", faultOf("land " + (char) 255), 5);
        due("4 letter 9 is no blank", faultOf("land\t2"), 4);
        due("4 letter 0 is no blank", faultOf("land 2" + (char) 0), 6);
        due("4 a row of digits", faultOf("day 11"), 4);
        due("4 digits with a blank", faultOf("day 1 1"), 6);
        due("4 a minus", faultOf("day -1"), 4);
        due("4 letters up to z are of the word", faultOf("landz 2"), 0);
        due("4 letters from a are of the word", faultOf("landa 2"), 0);
        due("4 digits up to 9 are of the number", faultOf("land 29"), 5);
        due("4 digits from 0 are of the number", faultOf("land 20"), 5);
    }

    private static void faultOfSpells() {
        due("4 sleep without if", faultOf("sleep 0 kiss 1"), 8);
        due("4 no term", faultOf("sleep 0 if and day 1"), 11);
        due("4 no such term", faultOf("sleep 0 if land 1"), 11);
        due("4 wakes instead of a term", faultOf("sleep 0 if wakes 0"), 11);
        due("4 ; instead of a term", faultOf("sleep 0 if;bare"), 10);
        due("4 ; instead of if", faultOf("sleep 0;bare"), 7);
        due("4 ; instead of a number", faultOf("sleep;bare"), 5);
        due("4 ; instead of a term's number", faultOf("sleep 0 if day;bare"), 14);
        due("4 ; behind and", faultOf("sleep 0 if day 1 and;bare"), 20);
        due("4 ; behind wakes", faultOf("sleep 0 if day 1 wakes;bare"), 22);
        due("4 mute 1", faultOf("mute 1 if weep 1"), NONE);
        due("4 weep 2", faultOf("mute 1 if weep 2"), 15);
        due("4 whole 2", faultOf("frog 1 if whole 2"), 16);
        due("4 asked 0", faultOf("frog 1 if asked 0"), 16);
        due("4 asked 1", faultOf("frog 1 if asked 1"), NONE);
        due("4 asked 7", faultOf("frog 1 if asked 7"), NONE);
        due("4 asked 8", faultOf("frog 1 if asked 8"), 16);
        due("4 holds itself", faultOf("frog 1 if holds 0"), NONE);
        due("4 gone one that comes later", faultOf("frog 1 if gone 1;frog 1 if day 1"), 15);
        due("4 wakes itself", faultOf("frog 1 if day 1 wakes 0"), NONE);
        due("4 wakes one that is not", faultOf("frog 1 if day 1 wakes 1"), 22);
        due("4 wakes and nothing", faultOf("frog 1 if day 1 wakes"), 21);
        due("4 wakes twice", faultOf("frog 1 if day 1 wakes 0 wakes 0"), 24);
        due("4 and behind wakes", faultOf("frog 1 if day 1 wakes 0 and day 1"), 24);
        due("4 bind itself", faultOf("frog 1 if day 1;bind 1 if day 1"), 21);
        due("4 bind another", faultOf("frog 1 if day 1;bind 0 if day 1"), NONE);
        due("4 bind holds itself", faultOf("frog 1 if day 1;bind 0 if holds 1 wakes 1"), NONE);
        due("4 three terms", faultOf("frog 1 if day 1 and day 2 and day 3"), NONE);
        due("4 four terms", faultOf("frog 1 if day 1 and day 2 and day 3 and day 4"), 36);
        due("4 and at the end", faultOf("frog 1 if day 1 and"), 19);
        String five = "mute 0 if day 1;mute 0 if day 1;mute 0 if day 1;mute 0 if day 1;mute 0 if day 1";
        due("4 five spells", faultOf(five), NONE);
        due("4 a sixth", faultOf(five + ";mute 9"), 80);
        due("4 a sixth behind bare", faultOf(five + ";bare;mute 0 if day 1"), NONE);
        SevenSpells x = told(five);
        type(x, "bare;frog 0 if day 1;sleep 1 if gone 2");
        due("4 spells of the draft", x.fault(), 37);
    }

    private static void land() {
        SevenSpells x = new SevenSpells();
        due("5 land of nothing", x.land(), NOT);
        type(x, "day 7");
        due("5 land of a fault", x.land(), NOT);
        due("5 nothing changes", x.count(12), 5);
        x.erase();
        type(x, "land 3 ; day 4 ; broken 1; sleep 0 if kiss 1");
        due("5 land", x.land(), 4);
        dueCounts("5 what it told", x, 3, 1, 1, 2, 0, 4, 0, 0, 0, 0, 0, 0, 0);
        tell(x, "day 2;broken 0;day 3");
        dueCounts("5 more of it", x, 3, 1, 1, 3, 0, 3, 0, 0, 0, 0, 0, 0, 0);
        tell(x, "land 1");
        dueCounts("5 land N", x, 1, 0, 0, 0, 0, 0, 0, 0, 0, 0, 0, 0, 0);
    }

    private static void landAgain() {
        SevenSpells x = told("land 3;day 2;broken 0;sleep 0 if weep 1;mute 2 if day 6");
        x.act(1, WEEP, 0);
        x.act(1, SMASH, 1);
        x.act(1, ASK, 0);
        x.act(1, NIGHT, 0);
        x.act(2, WEEP, 0);
        x.keep(1);
        x.row(0, NIGHT, 0);
        x.prince(0, 1, 2);
        x.tried(NONE, 0, 0, 0, 0);
        dueCounts("5 ahead of the text", x, 3, 2, 2, 3, 4, 3, 1, 5, 5, 1, 1, 1, 0);
        tell(x, "frog 1 if day 0");
        dueCounts("5 behind it", x, 3, 3, 7, 1, 0, 2, 0, 0, 0, 0, 0, 0, 0);
        due("5 nothing is kept", x.back(1), NOT);
        due("5 nothing is undone", x.undo(), NOT);
        tell(x, "bare");
        dueCounts("5 bare", x, 3, 0, 0, 1, 0, 2, 0, 0, 0, 0, 0, 0, 0);
    }

    private static void person() {
        SevenSpells x = told("land 3;sleep 0 if weep 1;frog 1 if day 1;mute 2 if asked 1;bind 0 if day 4");
        int[][] due = {{1, 0, 0, 0}, {0, 1, 0, 0}, {0, 0, 1, 0}};
        for (int p = 0; p < 3; p++) {
            for (int what = 0; what < 4; what++) {
                due("6 person(" + p + ", " + what + ")", x.person(p, what), due[p][what]);
            }
        }
        x.act(2, WEEP, 0);
        due("6 weeps", x.person(2, 3), 1);
        due("6 another does not", x.person(1, 3), 0);
        x.act(0, NIGHT, 0);
        due("6 no frog any more", x.person(1, 1), 0);
        due("6 weeps no more", x.person(2, 3), 0);
        due("6 no such one", x.person(3, 0), UNKNOWN);
        due("6 no such one, below", x.person(-1, 0), UNKNOWN);
        due("6 what", x.person(0, 4), OUTSIDE);
        due("6 what below", x.person(0, -1), OUTSIDE);
        due("6 both", x.person(3, 4), UNKNOWN);
    }

    private static void spell() {
        SevenSpells x = told("land 3;sleep 2 if weep 1 and day 1 and whole 0;frog 1 if day 1;mute 0 if asked 1 wakes 0;"
                + "bind 0 if day 2 and gone 1 wakes 3");
        int[][] due = {{0, 2, 1, 1, 3, NONE}, {1, 1, 1, 0, 1, NONE}, {2, 0, 1, 0, 1, 0}, {3, 0, 1, 0, 2, 3}};
        for (int s = 0; s < 4; s++) {
            for (int what = 0; what < 6; what++) {
                due("7 spell(" + s + ", " + what + ")", x.spell(s, what), due[s][what]);
            }
        }
        x.act(0, NIGHT, 0);
        due("7 holds no more", x.spell(1, 2), 0);
        due("7 no such one", x.spell(4, 0), UNKNOWN);
        due("7 what", x.spell(3, 6), OUTSIDE);
        due("7 what below", x.spell(3, -1), OUTSIDE);
        for (int s : WILD) {
            due("7 spell " + s, x.spell(s, 9), UNKNOWN);
        }
        SevenSpells y = told("sleep 1 if day 3;bind 0 if asked 1");
        due("7 bound", y.spell(0, 3), 1);
        y.act(0, ASK, 0);
        due("7 bound no more", y.spell(0, 3), 0);
    }

    private static void term() {
        SevenSpells x = told("land 3;sleep 2 if kiss 1 and weep 0 and day 1;frog 2 if holds 1 and gone 0 and broken 1;"
                + "mute 2 if whole 1 and asked 2");
        int[][] sorts = {{0, 1, 2}, {3, 4, 5}, {6, 7}};
        int[][] numbers = {{1, 0, 1}, {1, 0, 1}, {1, 2}};
        int[][] so = {{0, 0, 0}, {1, 0, 0}, {1, 0}};
        for (int s = 0; s < 3; s++) {
            for (int i = 0; i < sorts[s].length; i++) {
                due("8 sort", x.term(s, i, 0), sorts[s][i]);
                due("8 number", x.term(s, i, 1), numbers[s][i]);
                due("8 so " + s + " " + i, x.term(s, i, 2), so[s][i]);
            }
        }
        x.act(0, NIGHT, 0);
        x.act(0, WEEP, 0);
        x.act(0, ASK, 0);
        due("8 asked once", x.term(2, 1, 2), 0);
        x.act(0, SMASH, 1);
        x.act(0, ASK, 0);
        due("8 asked", x.term(2, 1, 2), 1);
        due("8 weep", x.term(0, 1, 2), 1);
        due("8 day", x.term(0, 2, 2), 1);
        due("8 broken", x.term(1, 2, 2), 1);
        due("8 whole", x.term(2, 0, 2), 0);
        x.act(1, KISS, 2);
        due("8 lifted by the kiss", x.spell(0, 2), 0);
        due("8 a kiss is never so", x.term(0, 0, 2), 0);
        due("8 gone lifted the frog as well", x.spell(1, 2), 0);
        due("8 gone", x.term(1, 1, 2), 1);
        due("8 holds itself no more", x.term(1, 0, 2), 0);
        due("8 no such spell", x.term(3, 0, 0), UNKNOWN);
        due("8 no such term", x.term(2, 2, 0), UNKNOWN);
        due("8 no such term, below", x.term(2, -1, 3), UNKNOWN);
        due("8 what", x.term(2, 1, 3), OUTSIDE);
        due("8 what below", x.term(2, 1, -1), OUTSIDE);
    }

    private static void as() {
        SevenSpells x = told("sleep 0 if day 0 and whole 0 and kiss 1;frog 0 if day 1;mute 0 if day 0 and day 1;"
                + "bind 0 if whole 1 and whole 0");
        int[][] due = {{2, 2, 2, NOT, NOT, NOT}, {0, 0, NOT, 0, NOT, NOT}, {1, 1, NOT, NOT, 1, NOT},
            {2, NOT, NOT, NOT, NOT, 2}};
        for (int s = 0; s < 4; s++) {
            for (int kind = 0; kind < 6; kind++) {
                due("9 as(" + s + ", " + kind + ")", x.as(s, kind), due[s][kind]);
            }
        }
        due("9 no such spell", x.as(4, 6), UNKNOWN);
        due("9 no such kind", x.as(0, 6), OUTSIDE);
        due("9 no such kind, below", x.as(0, -1), OUTSIDE);
    }

    private static void laidBy() {
        SevenSpells x = told("sleep 0 if kiss 1 and day 2;sleep 0 if holds 0 and asked 1;sleep 0 if gone 0 and whole 1 and "
                + "kiss 1;sleep 0 if asked 1 and day 1 and weep 0;sleep 0 if weep 1 and day 1 and broken 0");
        int[] due = {0, 1, 2, 1, 0};
        for (int s = 0; s < 5; s++) {
            due("10 laidBy(" + s + ")", x.laidBy(s), due[s]);
        }
        due("10 no such one", x.laidBy(5), UNKNOWN);
        due("10 no such one, below", x.laidBy(-1), UNKNOWN);
        due("10 broken", told("mute 1 if broken 1").laidBy(0), 2);
    }

    private static void can() {
        SevenSpells x = told("land 3;sleep 0 if day 6;frog 1 if day 6;mute 2 if day 6;broken 1");
        due("11 one asleep kisses", x.can(0, KISS, 1), 0);
        due("11 one asleep weeps", x.can(0, WEEP, 1), 0);
        due("11 one asleep smashes", x.can(0, SMASH, 0), 0);
        due("11 one asleep asks", x.can(0, ASK, 0), 0);
        due("11 night", x.can(0, NIGHT, -7), 1);
        due("11 a frog kisses", x.can(1, KISS, 0), 1);
        due("11 a frog weeps", x.can(1, WEEP, 99), 1);
        due("11 a frog smashes", x.can(1, SMASH, 0), 0);
        due("11 a frog asks", x.can(1, ASK, -99), 1);
        due("11 one mute smashes", x.can(2, SMASH, 0), 1);
        due("11 what is broken", x.can(2, SMASH, 1), 0);
        due("11 one mute asks", x.can(2, ASK, 0), 0);
        due("11 one mute weeps", x.can(2, WEEP, 0), 1);
        x.act(2, WEEP, 0);
        due("11 who weeps", x.can(2, WEEP, 0), 0);
        due("11 himself", x.can(1, KISS, 1), UNKNOWN);
        due("11 whom", x.can(1, KISS, 3), UNKNOWN);
        due("11 whom below", x.can(1, KISS, -1), UNKNOWN);
        due("11 gift", x.can(1, SMASH, 2), UNKNOWN);
        due("11 gift below", x.can(1, SMASH, -1), UNKNOWN);
        due("11 one", x.can(3, 9, 0), UNKNOWN);
        due("11 one of a night", x.can(-1, NIGHT, 0), UNKNOWN);
        due("11 sort", x.can(0, 5, 0), OUTSIDE);
        due("11 sort below", x.can(0, -1, 0), OUTSIDE);
        SevenSpells alone = told("land 1");
        due("11 nobody to kiss", alone.can(0, KISS, 1), UNKNOWN);
        for (int i = 0; i < 7; i++) {
            due("11 asks", alone.can(0, ASK, 0), 1);
            alone.act(0, ASK, 0);
        }
        due("11 asks no eighth time", alone.can(0, ASK, 0), 0);
    }

    private static void act() {
        SevenSpells x = told("land 3;sleep 0 if kiss 1 and weep 2;frog 0 if kiss 2;mute 0 if kiss 0;bind 1 if kiss 2 and day 0");
        due("12 a kiss without tears", x.act(1, KISS, 0), 0);
        due("12 tears", x.act(2, WEEP, 0), 0);
        due("12 a kiss by another; the frog is bound", x.act(2, KISS, 0), 0);
        due("12 a kiss of another", x.act(1, KISS, 2), 0);
        due("12 the kiss", x.act(1, KISS, 0), 1);
        due("12 deeds", x.count(7), 5);
        due("12 not again", x.act(1, KISS, 0), 0);
        due("12 can not be", x.act(2, WEEP, 0), NOT);
        due("12 one", x.act(3, 7, 0), UNKNOWN);
        due("12 whom", x.act(1, KISS, 1), UNKNOWN);
        due("12 gift", x.act(1, SMASH, 2), UNKNOWN);
        due("12 sort", x.act(1, 5, 0), OUTSIDE);
        due("12 refused deeds are none", x.count(7), 6);
        due("12 smash", x.act(1, SMASH, 1), 0);
        due("12 smashed", x.count(3), 2);
        due("12 ask", x.act(1, ASK, 5), 0);
        due("12 asked", x.count(6), 1);
        for (int day = 1; day < 9; day++) {
            due("12 night", x.act(0, NIGHT, 8), 0);
            due("12 day", x.count(5), day % 7);
            due("12 nobody weeps", x.count(4), 0);
        }
        SevenSpells y = told("day 6;sleep 0 if day 0;sleep 1 if day 0");
        due("12 a night lifts, of one asleep", y.act(1, NIGHT, 0), 3);
        due("12 again whole", y.act(0, SMASH, 0), 0);
    }

    private static void actInOrder() {
        SevenSpells x = told("sleep 0 if gone 0;sleep 0 if asked 1;mute 0 if gone 1;frog 0 if gone 3");
        due("12 as all is by then", x.act(1, ASK, 0), 6);
        SevenSpells y = told("mute 0 if gone 0;mute 1 if day 1;bind 1 if asked 1");
        due("12 bound", y.act(0, NIGHT, 0), 0);
        due("12 mute", y.act(1, ASK, 0), NOT);
        SevenSpells z = told("mute 0 if asked 1;frog 0 if gone 0;bind 1 if gone 0");
        due("12 the bond goes behind it", z.act(1, ASK, 0), 5);
        due("12 once only", z.count(2), 2);
        due("12 with the next deed", z.act(1, KISS, 0), 2);
        SevenSpells w = told("mute 0 if asked 1;frog 0 if gone 0 wakes 0;sleep 0 if gone 1 wakes 1");
        due("12 one wakes one ahead, one wakes the waker", w.act(1, ASK, 0), 7);
        due("12 hold", w.count(2), 3);
        due("12 again", w.act(1, KISS, 0), 3);
        due("12 then", w.count(2), 1);
        SevenSpells v = told("mute 0 if asked 1 wakes 0;frog 0 if gone 0");
        due("12 itself: it holds on", v.act(1, ASK, 0), 1);
        due("12 holds on", v.count(2), 3);
        due("12 lifted each time", v.act(1, WEEP, 0), 1);
        SevenSpells u = told("mute 0 if weep 1;mute 1 if weep 1;frog 1 if day 1 wakes 0");
        due("12 two at once", u.act(1, WEEP, 0), 3);
        due("12 wakes one that is gone", u.act(0, NIGHT, 0), 4);
        due("12 it holds again", u.person(0, 2), 1);
        due("12 and is lifted again", u.act(1, WEEP, 0), 1);
        SevenSpells t = told("sleep 1 if kiss 0;bind 0 if kiss 0");
        due("12 nobody kisses a spell", t.act(0, KISS, 1), 0);
        SevenSpells r = told("land 3;sleep 1 if kiss 0 and kiss 2;frog 1 if kiss 1;mute 1 if day 0 and day 1");
        due("12 two kisses", r.act(0, KISS, 1), 0);
        due("12 two kisses, the other", r.act(2, KISS, 1), 0);
        due("12 two days", r.act(2, NIGHT, 1), 0);
        due("12 none of them ever", r.never(), 7);
    }

    private static void actUntilFull() {
        SevenSpells x = new SevenSpells();
        for (int i = 0; i < 9999; i++) {
            if (x.act(0, KISS, 1) != 0) {
                due("12 deed " + i, NOT, 0);
            }
        }
        due("12 9999", x.count(7), 9999);
        due("12 full", x.act(0, KISS, 1), FULL);
        x.act(0, NIGHT, 1);
        due("12 not even a night", x.count(5), 0);
        due("12 undone", x.undo(), 7);
        due("12 one more", x.act(0, WEEP, 1), 0);
        due("12 NOT ahead of FULL", x.act(0, WEEP, 1), NOT);
    }

    private static void undo() {
        SevenSpells x = told("sleep 0 if weep 1 wakes 0;frog 0 if weep 1;mute 0 if gone 1 wakes 1");
        due("13 none", x.undo(), NOT);
        due("13 a deed", x.act(1, WEEP, 0), 7);
        due("13 waked", x.count(2), 3);
        due("13 undone", x.undo(), 0);
        due("13 all hold", x.count(2), 7);
        due("13 nobody weeps", x.count(4), 0);
        due("13 no deeds", x.count(7), 0);
        due("13 none left", x.undo(), NOT);
        for (int i = 1; i <= 10; i++) {
            x.act(1, NIGHT, 0);
            due("13 can be undone", x.count(8), Math.min(i, 8));
        }
        for (int i = 7; i >= 0; i--) {
            due("13 undo", x.undo(), i);
            due("13 the day", x.count(5), (i + 2) % 7);
            due("13 deeds", x.count(7), i + 2);
        }
        due("13 no ninth", x.undo(), NOT);
        due("13 a refused deed", x.act(0, WEEP, 0), NOT);
        due("13 is not undone", x.undo(), NOT);
    }

    private static void keepAndBack() {
        SevenSpells x = told("sleep 0 if weep 1");
        due("14 no such", x.keep(2), UNKNOWN);
        due("14 no such, below", x.keep(-1), UNKNOWN);
        due("15 no such", x.back(2), UNKNOWN);
        due("15 no such, below", x.back(-1), UNKNOWN);
        due("15 nothing kept", x.back(0), NOT);
        due("14 keep", x.keep(0), 0);
        due("15 the other not", x.back(1), NOT);
        x.act(1, WEEP, 0);
        x.act(1, SMASH, 0);
        x.act(0, ASK, 0);
        due("14 keep the other", x.keep(1), 3);
        x.act(1, NIGHT, 0);
        x.row(0, ASK, 0);
        x.prince(0, 1, 1);
        x.tried(0, 0, 0, 0, 0);
        due("15 back", x.back(1), 3);
        dueCounts("15 as it was kept", x, 2, 1, 0, 1, 2, 0, 1, 3, 0, 1, 1, 1, 0);
        due("15 nothing can be undone", x.undo(), NOT);
        due("15 back to the first", x.back(0), 0);
        dueCounts("15 as at first", x, 2, 1, 1, 0, 0, 0, 0, 0, 0, 1, 1, 1, 0);
        due("15 and again", x.back(1), 3);
        x.act(1, NIGHT, 0);
        due("14 kept anew", x.keep(0), 4);
        due("15 back to that", x.back(0), 4);
        due("15 day", x.count(5), 1);
        type(x, "day 7");
        x.land();
        due("15 a text that fails", x.back(0), 4);
        due("15 it is of no land yet", x.count(12), 5);
        x.erase();
        tell(x, "day 3");
        due("15 a text", x.back(0), NOT);
    }

    private static void fewest() {
        SevenSpells x = told("land 3;sleep 0 if kiss 1 and weep 2 and day 2;frog 1 if broken 0;mute 2 if asked 2 and gone 0;"
                + "bind 0 if asked 1");
        due("16 nothing", x.fewest(0), 0);
        due("16 a gift", x.fewest(2), 1);
        due("16 nights, tears, a kiss, a question", x.fewest(1), 5);
        due("16 a question", x.fewest(8), 1);
        due("16 two questions, and all that", x.fewest(4), 6);
        due("16 all", x.fewest(15), 7);
        due("16 no such", x.fewest(16), UNKNOWN);
        due("16 no such, with one that is", x.fewest(17), UNKNOWN);
        due("16 below", x.fewest(-1), UNKNOWN);
        x.act(2, SMASH, 0);
        due("16 gone already", x.fewest(2), 0);
        due("16 the state is as it was", x.count(5), 0);
        SevenSpells y = told("sleep 0 if day 1;sleep 1 if day 1 wakes 0");
        due("16 one wakes the other, which goes with the next deed", y.fewest(3), 2);
        SevenSpells z = told("sleep 0 if kiss 1;sleep 1 if kiss 0");
        due("16 never", z.fewest(1), NONE);
        due("16 one of them never", z.fewest(3), NONE);
    }

    private static void dueWay(String what, SevenSpells x, int set, int[][] deeds) {
        for (int i = 0; i < deeds.length; i++) {
            for (int w = 0; w < 3; w++) {
                due(what + ", deed " + i + ", " + w, x.way(set, i, w), deeds[i][w]);
            }
        }
        for (int w = 0; w < 3; w++) {
            due(what + ", behind it", x.way(set, deeds.length, w), NONE);
        }
    }

    private static void way() {
        SevenSpells x = told("land 3;sleep 0 if kiss 1 and weep 2 and day 2;frog 1 if broken 0;mute 2 if asked 2 and gone 0;"
                + "bind 0 if asked 1");
        dueWay("17 no way", x, 0, new int[][] {});
        dueWay("17 a gift, by the frog not", x, 2, new int[][] {{2, SMASH, 0}});
        dueWay("17 the first", x, 1, new int[][] {{1, ASK, 0}, {NONE, NIGHT, 0}, {NONE, NIGHT, 0}, {2, WEEP, 0}, {1, KISS, 0}});
        SevenSpells y = told("land 3;mute 1 if weep 0 and weep 1 and weep 2;frog 1 if kiss 0;sleep 0 if kiss 2");
        dueWay("17 in the order of people", y, 7, new int[][] {{1, WEEP, 0}, {2, KISS, 0}, {0, KISS, 1}, {0, WEEP, 0},
            {2, WEEP, 0}});
        SevenSpells z = told("sleep 0 if gone 0;frog 1 if broken 1 and weep 1");
        dueWay("17 a frog breaks nothing", z, 2, new int[][] {});
        due("17 never", z.way(1, 0, 0), NONE);
        due("17 no such", z.way(4, -1, 3), UNKNOWN);
        due("17 below 0", z.way(1, -1, 0), OUTSIDE);
        due("17 what", z.way(1, 0, 3), OUTSIDE);
        due("17 what below", z.way(1, 0, -1), OUTSIDE);
        due("17 far behind", z.way(0, Integer.MAX_VALUE, 0), NONE);
        SevenSpells w = told("mute 0 if gone 0;mute 1 if day 0 and asked 1");
        dueWay("17 nobody asks", w, 2, new int[][] {});
        SevenSpells v = told("mute 0 if holds 0");
        dueWay("17 whatever is done: the first", v, 1, new int[][] {{0, KISS, 1}});
    }

    private static void helpers() {
        SevenSpells x = told("land 3;sleep 0 if kiss 1 and weep 2;mute 1 if day 2;frog 2 if broken 0;mute 2 if kiss 1");
        due("18 nobody: how many", x.helpers(0, 0), 0);
        due("18 nobody: who", x.helpers(0, 1), 0);
        due("18 nights alone", x.helpers(2, 0), 0);
        due("18 nights alone: who", x.helpers(2, 1), 0);
        due("18 two", x.helpers(1, 0), 2);
        due("18 who", x.helpers(1, 1), 6);
        due("18 of 0 asleep, 2 a frog: 1", x.helpers(4, 1), 2);
        due("18 that one", x.helpers(8, 1), 2);
        due("18 all", x.helpers(15, 0), 2);
        due("18 all: who", x.helpers(15, 1), 6);
        SevenSpells y = told("land 3;mute 2 if asked 1");
        due("18 the least of several", y.helpers(1, 1), 1);
        due("18 how many", y.helpers(1, 0), 1);
        SevenSpells z = told("land 3;mute 0 if weep 1 and asked 1");
        due("18 he alone, though 0 comes first", z.helpers(1, 1), 2);
        SevenSpells w = told("land 3;mute 0 if weep 0 and weep 1 and weep 2");
        due("18 three", w.helpers(1, 0), 3);
        due("18 three: who", w.helpers(1, 1), 7);
        SevenSpells u = told("land 3;mute 1 if kiss 0");
        due("18 one who kisses", u.helpers(1, 0), 1);
        due("18 one who kisses: who", u.helpers(1, 1), 1);
        SevenSpells v = told("mute 0 if gone 0");
        due("18 never", v.helpers(1, 0), NONE);
        due("18 never: who", v.helpers(1, 1), NONE);
        due("18 no such", v.helpers(2, 2), UNKNOWN);
        due("18 what", v.helpers(1, 2), OUTSIDE);
        due("18 what below", v.helpers(1, -1), OUTSIDE);
    }

    private static void nights() {
        SevenSpells x = told("land 3;day 5;sleep 0 if day 1;frog 1 if weep 1;mute 2 if gone 0 and day 0");
        due("19 none needed", x.nights(0), 0);
        due("19 no night", x.nights(2), 0);
        due("19 three", x.nights(1), 3);
        due("19 a week and two", x.nights(4), 9);
        due("19 all", x.nights(7), 9);
        due("19 no such", x.nights(8), UNKNOWN);
        due("19 below", x.nights(-1), UNKNOWN);
        due("19 never", told("mute 0 if gone 0").nights(1), NONE);
        SevenSpells y = told("mute 0 if day 1;frog 0 if asked 7;bind 0 if gone 1");
        due("19 fewest nights, not fewest deeds", y.nights(1), 1);
        SevenSpells z = told("mute 0 if asked 7 and day 0;sleep 1 if day 1");
        due("19 mute and asleep on the first day", z.nights(1), 7);
        SevenSpells w = told("mute 0 if day 1;mute 0 if asked 3;mute 0 if day 1;bind 0 if gone 2");
        due("19 with a night more", w.nights(1), 1);
        due("19 the set", w.nights(7), 1);
    }

    private static void never() {
        due("20 no spells", new SevenSpells().never(), 0);
        SevenSpells x = told("land 3;sleep 0 if gone 0;mute 1 if day 1 and day 2;frog 1 if asked 1 wakes 2;"
                + "frog 2 if kiss 0;mute 2 if kiss 1");
        due("20 never", x.never(), 15);
        SevenSpells y = told("sleep 0 if asked 2;sleep 1 if asked 1");
        due("20 all asleep", y.never(), 3);
        SevenSpells z = told("mute 0 if day 0;frog 0 if gone 0 wakes 0");
        due("20 it may be gone", z.never(), 0);
        z.act(1, WEEP, 0);
        due("20 waked again", z.count(2), 1);
        SevenSpells w = told("mute 1 if whole 0;mute 1 if broken 0 and whole 0 and day 0;mute 0 if whole 1 and broken 0");
        due("20 whole", w.never(), 2);
        w.act(0, SMASH, 1);
        due("20 broken for ever", w.never(), 6);
        w.undo();
        due("20 undone", w.never(), 2);
        SevenSpells v = told("land 1;mute 0 if asked 1;frog 0 if asked 1;bind 1 if gone 0");
        due("20 mute", v.never(), 7);
    }

    private static void ahead() {
        SevenSpells x = told("land 3;sleep 0 if kiss 1;mute 0 if asked 1;frog 0 if weep 0 and gone 1;bind 2 if day 2;"
                + "frog 1 if gone 4");
        due("21 nothing", x.ahead(0), 0);
        due("21 of another one", x.ahead(1), 0);
        due("21 sleep, mute, bind", x.ahead(2), 11);
        due("21 of the bond", x.ahead(3), 0);
        due("21 of never", x.ahead(4), NOT);
        due("21 no such one", x.ahead(5), UNKNOWN);
        due("21 no such one, below", x.ahead(-1), UNKNOWN);
        x.act(1, KISS, 0);
        due("21 holds no more", x.ahead(0), NOT);
        due("21 less ahead", x.ahead(2), 10);
        SevenSpells y = told("mute 0 if weep 0;frog 1 if weep 0");
        due("21 by one deed: both", y.ahead(0), 2);
        due("21 by one deed: both again", y.ahead(1), 1);
        SevenSpells z = told("mute 0 if holds 0 wakes 0;frog 1 if weep 0");
        due("21 each deed lifts it, it holds on", z.ahead(1), 1);
        SevenSpells w = told("mute 0 if asked 1;frog 0 if weep 1 wakes 0;frog 1 if gone 0 and gone 1");
        due("21 a question", w.act(1, ASK, 0), 1);
        due("21 one that does not hold now is none, though it must go again", w.ahead(2), 2);
    }

    private static void props() {
        due("22 no spells", new SevenSpells().props(), 0);
        SevenSpells x = told("sleep 0 if gone 0;sleep 1 if gone 0");
        due("22 itself not, the other", x.props(), 2);
        SevenSpells y = told("mute 0 if gone 0;mute 1 if gone 0 and day 0;frog 1 if gone 0 and day 1;frog 0 if gone 1 and whole 0");
        due("22 one alone is not so", y.props(), 10);
        y.act(0, NIGHT, 0);
        due("22 the next day", y.props(), 12);
        SevenSpells z = told("mute 0 if gone 0;mute 1 if gone 0 and gone 0;frog 1 if kiss 0 and gone 0;frog 0 if whole 0 and gone 3");
        due("22 twice, a kiss, itself", z.props(), 0);
        SevenSpells w = told("land 3;mute 0 if asked 1;mute 1 if gone 0");
        due("22 none of never", w.props(), 0);
        SevenSpells v = told("mute 0 if broken 0 and whole 0;mute 1 if gone 0;bind 1 if asked 1");
        due("22 bound or not", v.props(), 2);
        SevenSpells u = told("sleep 0 if whole 0;mute 1 if gone 0;frog 0 if day 1 wakes 0");
        due("22 both go", u.act(1, ASK, 0), NOT);
        due("22 both go with tears", u.act(1, WEEP, 0), 3);
        due("22 a gift", u.act(1, SMASH, 0), 0);
        due("22 one wakes for ever", u.act(1, NIGHT, 0), 4);
        due("22 never", u.never(), 1);
        due("22 one that does not hold is no prop", u.props(), 0);
    }

    private static void gone() {
        SevenSpells x = told("sleep 0 if kiss 1;sleep 1 if kiss 0;mute 0 if weep 0;bind 2 if day 3");
        due("23 of both asleep: one would wake", x.gone(4, 0), 0);
        due("23 fewest then", x.gone(4, 1), 4);
        due("23 of 0: the other", x.gone(1, 0), 1);
        due("23 of 0: then", x.gone(1, 1), 1);
        due("23 of all", x.gone(15, 0), NONE);
        due("23 of all: fewest", x.gone(15, 1), NONE);
        due("23 of nothing", x.gone(0, 0), NONE);
        due("23 no such", x.gone(16, 2), UNKNOWN);
        due("23 what", x.gone(1, 2), OUTSIDE);
        due("23 what below", x.gone(1, -1), OUTSIDE);
        SevenSpells y = told("frog 0 if day 3;mute 0 if asked 3 and gone 0;frog 1 if day 5;bind 1 if day 6");
        due("23 none makes it fewer", y.gone(1, 0), NONE);
        due("23 none: then", y.gone(1, 1), NONE);
        due("23 now", y.fewest(2), 9);
        due("23 fewer than now", y.gone(2, 0), 3);
        due("23 fewer than now: then", y.gone(2, 1), 6);
        due("23 of two", y.gone(3, 0), 3);
        due("23 nothing is gone", y.count(2), 15);
        SevenSpells z = told("sleep 0 if gone 0;sleep 1 if gone 1;mute 0 if broken 0");
        due("23 the least of several", z.gone(4, 0), 0);
        due("23 then", z.gone(4, 1), 1);
        SevenSpells w = told("mute 0 if kiss 1;bind 0 if day 1;sleep 1 if kiss 0 and asked 7 wakes 1");
        due("23 a night", w.act(0, NIGHT, 0), 2);
        due("23 never by deeds", w.fewest(1), NONE);
        due("23 gone", w.gone(1, 0), 2);
        due("23 gone, not lifted: it wakes none", w.gone(1, 1), 1);
    }

    private static void many() {
        SevenSpells x = told("land 1");
        due("24 now", x.many(0), 1);
        due("24 weep, two gifts, ask, night", x.many(1), 5);
        due("24 far away", x.many(1000), 0);
        due("24 farther", x.many(Integer.MAX_VALUE), 0);
        due("24 below 0", x.many(-1), OUTSIDE);
        int all = 0;
        for (int n = 0; n < 40; n++) {
            all += x.many(n);
        }
        due("24 all: gifts, tears, days, questions", all, 4 * 2 * 7 * 8);
        SevenSpells y = told("land 1;sleep 0 if gone 0;broken 0;broken 1");
        for (int n = 0; n < 7; n++) {
            due("24 nights alone", y.many(n), 1);
        }
        due("24 a week", y.many(7), 0);
    }

    private static void farthest() {
        due("25 nights alone", told("land 1;sleep 0 if gone 0").farthest(), 6);
        due("25 seven questions, two gifts, six nights, tears", told("land 1").farthest(), 16);
        due("25 three who weep", told("land 3").farthest(), 18);
        due("25 a frog and mute", told("land 1;frog 0 if gone 0;mute 0 if gone 0").farthest(), 7);
        SevenSpells x = told("land 1;sleep 0 if day 6");
        due("25 awake on the last day", x.farthest(), 6 + 7 + 2 + 1 + 6);
    }

    private static void row() {
        SevenSpells x = told("land 2;sleep 0 if gone 0");
        for (int i = 1; i <= 12; i++) {
            due("26 row", x.row(0, i % 5, 1), i);
        }
        due("26 full", x.row(0, WEEP, 0), FULL);
        due("26 one, though full", x.row(2, WEEP, 0), UNKNOWN);
        due("26 whom", x.row(0, KISS, 0), UNKNOWN);
        due("26 gift", x.row(0, SMASH, 2), UNKNOWN);
        due("26 sort", x.row(0, 5, 2), OUTSIDE);
        due("26 how many", x.count(9), 12);
        due("26 one of a night", new SevenSpells().row(2, NIGHT, 0), UNKNOWN);
    }

    private static void burn() {
        SevenSpells x = new SevenSpells();
        due("27 none", x.burn(), 0);
        x.row(0, WEEP, 0);
        x.row(0, WEEP, 0);
        due("27 two", x.burn(), 2);
        due("27 burnt", x.count(9), 0);
        due("27 nothing to judge", x.judge(0), NONE);
        due("27 anew", x.row(1, ASK, 0), 1);
    }

    private static void judge() {
        SevenSpells x = told("land 3;sleep 0 if kiss 1;frog 1 if weep 1;mute 2 if broken 0;mute 1 if gone 0");
        due("28 no row", x.judge(0), NONE);
        due("28 no row: hold", x.judge(1), 4);
        x.row(1, KISS, 0);
        due("28 the kiss", x.judge(0), NONE);
        due("28 the kiss: hold", x.judge(1), 2);
        x.row(0, SMASH, 0);
        x.row(1, SMASH, 1);
        x.row(2, NIGHT, 0);
        due("28 a frog smashes nothing", x.judge(0), 2);
        due("28 hold behind those ahead", x.judge(1), 1);
        due("28 nothing is done", x.count(7), 0);
        x.act(1, WEEP, 0);
        due("28 from now", x.judge(0), NONE);
        due("28 from now: hold", x.judge(1), 0);
        x.act(2, SMASH, 1);
        due("28 a broken one", x.judge(0), 2);
        x.burn();
        x.row(0, WEEP, 0);
        due("28 the first one", x.judge(0), 0);
        due("28 hold now", x.judge(1), 3);
        due("28 what", x.judge(2), OUTSIDE);
        due("28 what below", x.judge(-1), OUTSIDE);
    }

    private static void prince() {
        SevenSpells x = told("land 3");
        for (int i = 1; i <= 5; i++) {
            due("29 prince", x.prince(i % 3, i, (i + 1) % 3), i);
        }
        due("29 full", x.prince(0, 6, 1), FULL);
        due("29 the day, though full", x.prince(0, 7, 1), OUTSIDE);
        due("29 the day below", x.prince(0, -1, 1), OUTSIDE);
        due("29 himself, ahead of the day", x.prince(0, 7, 0), UNKNOWN);
        due("29 whom", x.prince(0, 0, 3), UNKNOWN);
        due("29 whom below", x.prince(0, 0, -1), UNKNOWN);
        due("29 who", x.prince(3, 0, 0), UNKNOWN);
        due("29 who below", x.prince(-1, 0, 0), UNKNOWN);
        due("29 how many", x.count(10), 5);
    }

    private static void dismiss() {
        SevenSpells x = new SevenSpells();
        due("30 none", x.dismiss(), 0);
        x.prince(0, 0, 1);
        x.prince(1, 3, 0);
        due("30 two", x.dismiss(), 2);
        due("30 gone", x.count(10), 0);
        due("30 nobody waits", x.inLine(1), 0);
        due("30 anew", x.prince(0, 0, 1), 1);
    }

    private static void inLine() {
        SevenSpells x = told("land 3;day 5;sleep 0 if kiss 1 and day 1;frog 0 if kiss 2;mute 2 if day 6");
        due("31 nobody: lifted", x.inLine(0), 0);
        due("31 nobody: nights", x.inLine(1), 0);
        x.prince(0, 6, 1);
        due("31 asleep; the night lifts one", x.inLine(0), 1);
        due("31 a night", x.inLine(1), 1);
        x.prince(1, 1, 0);
        due("31 the kiss", x.inLine(0), 2);
        due("31 three nights", x.inLine(1), 3);
        x.prince(2, 1, 0);
        due("31 on the same day", x.inLine(0), 3);
        due("31 no night more", x.inLine(1), 3);
        x.prince(0, 0, 1);
        due("31 six more", x.inLine(1), 9);
        due("31 nothing is done", x.count(7), 0);
        due("31 what", x.inLine(2), OUTSIDE);
        due("31 what below", x.inLine(-1), OUTSIDE);
        x.act(0, NIGHT, 0);
        due("31 from now: lifted", x.inLine(0), 2);
        due("31 from now: nights", x.inLine(1), 8);
        SevenSpells y = told("land 3;sleep 2 if day 1;mute 0 if kiss 2;mute 1 if kiss 0");
        y.prince(2, 0, 0);
        y.prince(2, 1, 0);
        y.prince(0, 1, 1);
        due("31 asleep first, awake then", y.inLine(0), 3);
        due("31 a night for it", y.inLine(1), 1);
        SevenSpells z = told("mute 0 if holds 0 wakes 0");
        z.prince(0, 2, 1);
        due("31 lifted with each deed", z.inLine(0), 3);
    }

    private static void tried() {
        SevenSpells x = told("land 3");
        due("32 tried", x.tried(NONE, 0, 0, 0, 0), 1);
        due("32 tried all", x.tried(2, 7, 6, 3, 1), 2);
        due("32 who kissed", x.tried(3, 0, 0, 0, 0), UNKNOWN);
        due("32 who kissed, below", x.tried(-2, 0, 0, 0, 0), UNKNOWN);
        due("32 who wept", x.tried(0, 8, 0, 0, 0), UNKNOWN);
        due("32 who wept, below", x.tried(0, -1, 0, 0, 0), UNKNOWN);
        due("32 gifts", x.tried(0, 0, 9, 4, 0), UNKNOWN);
        due("32 gifts below", x.tried(0, 0, 0, -1, 0), UNKNOWN);
        due("32 the day", x.tried(0, 0, 7, 0, 0), OUTSIDE);
        due("32 the day below", x.tried(0, 0, -1, 0, 0), OUTSIDE);
        due("32 lifted", x.tried(0, 0, 0, 0, 2), OUTSIDE);
        due("32 lifted below", x.tried(0, 0, 0, 0, -1), OUTSIDE);
        for (int i = 3; i <= 8; i++) {
            due("32 tried more", x.tried(0, 0, i - 2, 0, 0), i);
        }
        due("32 full", x.tried(0, 0, 0, 0, 0), FULL);
        due("32 OUTSIDE ahead of FULL", x.tried(0, 0, 7, 0, 0), OUTSIDE);
        due("32 how many", x.count(11), 8);
    }

    private static void forget() {
        SevenSpells x = new SevenSpells();
        due("33 none", x.forget(), 0);
        x.tried(0, 0, 0, 0, 1);
        x.tried(0, 0, 0, 0, 0);
        due("34 none may be", x.mayBe(0), 0);
        due("33 two", x.forget(), 2);
        due("33 forgotten", x.count(11), 0);
        due("33 all may be", x.mayBe(0), 120);
    }

    private static void mayBe() {
        due("34 three people: 17 terms", told("land 3").mayBe(0), 17 + 17 * 16 / 2);
        due("34 one: 13 terms", told("land 1").mayBe(0), 13 + 13 * 12 / 2);
        SevenSpells x = new SevenSpells();
        x.tried(1, 2, 4, 1, 1);
        due("34 KISS 1, WEEP 1, DAY 4, BROKEN 0, WHOLE 1", x.mayBe(0), 15);
        dueMayBe("34 the first", x, 0, 1, NONE, NONE);
        x.tried(1, 0, 4, 1, 0);
        due("34 those with WEEP 1", x.mayBe(0), 5);
        dueMayBe("34 one term is ahead of two", x, 1, 1, NONE, NONE);
        x.tried(0, 2, 4, 1, 0);
        due("34 KISS 1 and WEEP 1", x.mayBe(0), 1);
        dueMayBe("34 two terms", x, 0, 1, 1, 1);
        x.tried(NONE, 0, 0, 0, 1);
        due("34 none", x.mayBe(0), 0);
        for (int what = 1; what < 5; what++) {
            due("34 none: first", x.mayBe(what), NOT);
        }
        due("34 what", x.mayBe(5), OUTSIDE);
        due("34 what below", x.mayBe(-1), OUTSIDE);
        SevenSpells y = new SevenSpells();
        y.tried(NONE, 0, 3, 2, 1);
        y.tried(NONE, 0, 3, 0, 0);
        y.tried(NONE, 0, 2, 2, 1);
        due("34 BROKEN 1, alone or with WHOLE 0", y.mayBe(0), 2);
        dueMayBe("34 BROKEN 1", y, 5, 1, NONE, NONE);
        y.tried(NONE, 0, 2, 3, 0);
        dueMayBe("34 BROKEN 1 and WHOLE 0", y, 5, 1, 6, 0);
        SevenSpells w = new SevenSpells();
        w.tried(NONE, 1, 3, 0, 1);
        w.tried(NONE, 0, 3, 0, 0);
        due("34 WEEP 0, alone or with DAY 3, WHOLE 0, WHOLE 1", w.mayBe(0), 4);
        dueMayBe("34 WEEP 0", w, 1, 0, NONE, NONE);
        SevenSpells v = new SevenSpells();
        v.tried(0, 2, 3, 0, 1);
        dueMayBe("34 KISS 0", v, 0, 0, NONE, NONE);
        v.tried(0, 2, 4, 0, 0);
        dueMayBe("34 DAY 3 alone is ahead of KISS 0 and DAY 3", v, 2, 3, NONE, NONE);
        v.tried(1, 2, 3, 0, 0);
        dueMayBe("34 KISS 0 and DAY 3", v, 0, 0, 2, 3);
        SevenSpells z = told("land 1");
        z.tried(NONE, 0, 3, 0, 1);
        z.tried(NONE, 0, 4, 0, 0);
        z.tried(NONE, 0, 3, 1, 0);
        dueMayBe("34 DAY 3 and WHOLE 0", z, 2, 3, 6, 0);
    }

    private static void dueMayBe(String what, SevenSpells x, int... want) {
        for (int i = 0; i < 4; i++) {
            due(what + " (" + (i + 1) + ")", x.mayBe(i + 1), want[i]);
        }
    }

    private static void next() {
        SevenSpells x = new SevenSpells();
        due("35 all may be", x.next(), 0);
        x.tried(NONE, 0, 3, 3, 1);
        x.tried(NONE, 0, 4, 0, 0);
        due("35 DAY 3 and others", x.mayBe(0), 6);
        due("35 the day on which fewest", x.next(), 3);
        SevenSpells y = new SevenSpells();
        y.tried(0, 0, 5, 0, 1);
        y.tried(NONE, 0, 1, 3, 0);
        y.tried(0, 0, 4, 0, 0);
        due("35 DAY 5, or with KISS 0, WHOLE 0, WHOLE 1", y.mayBe(0), 4);
        due("35 next", y.next(), 5);
        y.tried(0, 0, 5, 0, 0);
        due("35 none may be", y.next(), NONE);
        due("35 none may be: how many", y.mayBe(0), 0);
    }

    private static void count() {
        SevenSpells x = told("land 3;day 4;broken 1;mute 0 if day 5;frog 1 if gone 1;sleep 2 if weep 0");
        x.act(0, WEEP, 0);
        x.act(1, ASK, 0);
        x.act(1, ASK, 0);
        x.row(0, WEEP, 0);
        x.prince(0, 4, 1);
        x.prince(0, 4, 1);
        x.tried(0, 0, 0, 0, 0);
        x.tried(0, 0, 0, 0, 0);
        x.tried(0, 0, 0, 0, 0);
        type(x, "four");
        dueCounts("36 count", x, 3, 3, 3, 2, 1, 4, 2, 3, 3, 1, 2, 3, 4);
        due("36 above", x.count(13), OUTSIDE);
        due("36 below", x.count(-1), OUTSIDE);
        due("36 far above", x.count(Integer.MAX_VALUE), OUTSIDE);
    }
}

/**
 * Each sentence of the document that names a bound, or what is empty, full, goes round or is refused, told by its
 * promise's number, with the answer that is due there, as runs of calls (Runs says how to read them).
 */
public final class EdgesTest {
    private static final Runs RUNS = new Runs();

    private EdgesTest() {
    }

    public static void main(String[] args) {
        newObject();
        write();
        erase();
        faultOfEmptiness();
        faultOfNumbers();
        faultOfLines();
        faultOfSpells();
        faultOfTokens();
        land();
        person();
        spell();
        term();
        as();
        laidBy();
        can();
        act();
        actAndDays();
        undo();
        keep();
        back();
        fewest();
        way();
        helpers();
        nights();
        never();
        ahead();
        props();
        gone();
        many();
        farthest();
        row();
        burn();
        judge();
        prince();
        dismiss();
        inLine();
        tried();
        forget();
        mayBe();
        next();
        count();
        RUNS.end("edges");
    }

    private static void run(String sentence, String rows) {
        RUNS.run(sentence, rows);
    }

    // ---- what is told

    private static void newObject() {
        run("1 two people, no spells, all else of nothing", """
            count(0..12) = 2 0 0 0 0 0 0 0 0 0 0 0 0
            person(0..1, 0..3) = 0
            person(-1|2, 0) = UNKNOWN
            spell(-1|0, 0) = UNKNOWN
            can(0..1, 2, 0..1) = 1               # both gifts are whole
            undo() = NOT
            back(0..1) = NOT
            land() = NOT
            """);
    }

    private static void write() {
        run("2 the number of a letter is 0 .. 255", """
            write(-1|256|max|min) = OUTSIDE
            count(12) = 0
            write(0) = 1
            write(255) = 2
            write(-1|256) = OUTSIDE
            count(12) = 2
            """);
        run("2 240 letters at most", """
            239 times write(32)
            count(12) = 239
            write(255) = 240
            write(0|32|255) = FULL
            write(-1|256|max|min) = OUTSIDE      # ahead of FULL
            count(12) = 240
            """);
        run("2 the last of 240 letters is read", "text '" + " ".repeat(236) + "bare'\n" + """
            write(59) = FULL
            fault() = NONE
            land() = 1
            count(12) = 0
            write(98) = 1
            """);
        run("2 the last of 240 letters may be the fault", "text 'bare" + " ".repeat(235) + ";'\nfault() = 240\nland() = NOT\n");
        run("2 the last of 240 letters belongs to a word", "text '" + " ".repeat(237) + "bar'\n" + """
            write(101) = FULL
            fault() = 237
            """);
    }

    private static void erase() {
        run("3 of nothing, of one letter, of 240", """
            erase() = 0
            write(98) = 1
            erase() = 1
            erase() = 0
            count(12) = 0
            """);
        run("3 of a full text, which can be written anew", "text '" + ";".repeat(240) + "'\n" + """
            write(59) = FULL
            erase() = 240
            fault() = 0
            write(59) = 1
            """);
        run("3 of the text alone", """
            told land 3;day 6;broken 1;sleep 0 if weep 1
            act(1, 1, 0) = 1
            keep(0) = 1
            row(0, 1, 0) = 1
            prince(0, 6, 1) = 1
            tried(NONE, 0, 0, 0, 0) = 1
            text 'day'
            erase() = 3
            count(0..12) = 3 1 0 2 2 6 0 1 1 1 1 1 0
            back(0) = 1
            """);
    }

    private static void faultOfEmptiness() {
        run("4 the end comes too soon: at the length", """
            fault() = 0
            reads '' = 0
            reads ' ' = 1
            reads 'land' = 4
            reads 'land ' = 5
            reads 'day' = 3
            reads 'broken' = 6
            reads 'sleep' = 5
            reads 'frog 0' = 6
            reads 'mute 0 if' = 9
            reads 'mute 0 if ' = 10
            reads 'frog 0 if kiss' = 14
            reads 'frog 0 if day 1 and' = 19
            reads 'frog 0 if day 1 and weep' = 24
            reads 'frog 0 if day 1 wakes' = 21
            reads 'bare;' = 5
            reads 'bare; ' = 6
            """);
        run("4 the end does not come too soon", """
            reads 'bare' = NONE
            reads ' bare ' = NONE
            reads 'land 1' = NONE
            reads 'frog 0 if day 1' = NONE
            reads 'frog 0 if day 1 and day 1' = NONE
            reads 'frog 0 if day 1 wakes 0' = NONE
            """);
        run("4 nothing between two ;", """
            reads ';' = 0
            reads ' ; ' = 1
            reads ';bare' = 0
            reads 'bare;;bare' = 5
            reads 'bare; ;bare' = 6
            """);
    }

    private static void faultOfNumbers() {
        run("4 people 1 .. 3", """
            reads 'land 0' = 5
            reads 'land 1' = NONE
            reads 'land 3' = NONE
            reads 'land 4' = 5
            reads 'land 9' = 5
            """);
        run("4 days 0 .. 6, of a line and of a term", """
            reads 'day 0' = NONE
            reads 'day 6' = NONE
            reads 'day 7' = 4
            reads 'frog 0 if day 0' = NONE
            reads 'frog 0 if day 6' = NONE
            reads 'frog 0 if day 7' = 14
            """);
        run("4 gifts 0, 1, of a line and of terms", """
            reads 'broken 0' = NONE
            reads 'broken 1' = NONE
            reads 'broken 2' = 7
            reads 'frog 0 if broken 0 and whole 0' = NONE
            reads 'frog 0 if broken 1 and whole 1' = NONE
            reads 'frog 0 if broken 2' = 17
            reads 'frog 0 if whole 2' = 16
            """);
        run("4 asked 1 .. 7", """
            reads 'frog 0 if asked 0' = 16
            reads 'frog 0 if asked 1' = NONE
            reads 'frog 0 if asked 7' = NONE
            reads 'frog 0 if asked 8' = 16
            reads 'frog 0 if asked 9' = 16
            """);
        for (int people = 1; people <= 3; people++) {
            run("4 people of a land of " + people, "told land " + people + "\n" + """
                reads 'sleep LAST if kiss LAST' = NONE
                reads 'frog LAST if weep LAST' = NONE
                reads 'mute LAST if day 0' = NONE
                reads 'sleep MORE if day 0' = 6
                reads 'frog MORE if day 0' = 5
                reads 'mute MORE if day 0' = 5
                reads 'frog LAST if kiss MORE' = 15
                reads 'frog LAST if weep MORE' = 15
                """.replace("LAST", "" + (people - 1)).replace("MORE", "" + people));
        }
        run("4 numbers of one digit", """
            reads 'land 02' = 5
            reads 'land 20' = 5
            reads 'land 29' = 5
            reads 'land 92' = 5
            reads 'day 00' = 4
            reads 'day 0 0' = 6
            reads 'broken 01' = 7
            reads 'frog 00 if day 0' = 5
            reads 'frog 0 if asked 07' = 16
            reads 'frog 0 if day 1 wakes 00' = 22
            reads 'day 123456789012345678901234567890' = 4
            """);
    }

    private static void faultOfLines() {
        String twelve = "bare" + ";bare".repeat(11);
        run("4 12 lines at most", """
            reads 'TWELVE' = NONE
            reads 'TWELVE ' = NONE
            reads 'TWELVE;bare' = 59
            reads 'TWELVE;' = 59
            reads 'TWELVE ;' = 60
            """.replace("TWELVE", twelve));
        run("4 a fault in the twelfth line is its own", "reads '" + twelve.substring(0, 55) + "day 7;bare' = 59\n");
        run("4 people of the lines ahead", """
            reads 'land 1;mute 1 if day 0' = 12
            reads 'land 3;mute 2 if kiss 2' = NONE
            reads 'mute 2 if day 0;land 3' = 5
            reads 'land 3;land 1;mute 1 if day 0' = 19
            """);
        run("4 what may begin a line", """
            reads 'kiss 0' = 0
            reads 'weep 0' = 0
            reads 'holds 0' = 0
            reads 'gone 0' = 0
            reads 'whole 0' = 0
            reads 'asked 1' = 0
            reads 'if day 0' = 0
            reads 'and day 0' = 0
            reads 'wakes 0' = 0
            reads '0' = 0
            """);
        run("4 what may end a line", """
            reads 'bare 0' = 5
            reads 'bare9bare' = 4
            reads 'bare bare' = 5
            reads 'bare if' = 5
            reads 'land 2 2' = 7
            reads 'day 1 and day 2' = 6
            reads 'broken 1 wakes 0' = 9
            reads 'frog 0 if day 1 day 2' = 16
            reads 'frog 0 if day 1 if day 2' = 16
            """);
    }

    private static void faultOfSpells() {
        run("4 1 to 3 terms", """
            reads 'frog 0 if' = 9
            reads 'frog 0 if;bare' = 9
            reads 'frog 0 if wakes 0' = 10
            reads 'frog 0 if and day 1' = 10
            reads 'frog 0 if day 1' = NONE
            reads 'frog 0 if day 1 and day 1 and day 1' = NONE
            reads 'frog 0 if day 1 and day 1 and day 1 wakes 0' = NONE
            reads 'frog 0 if day 1 and day 1 and day 1 and day 1' = 36
            reads 'frog 0 if day 1 and wakes 0' = 20
            reads 'frog 0 if day 1 wakes 0 and day 1' = 24
            reads 'frog 0 if day 1 wakes 0 wakes 0' = 24
            """);
        run("4 the first spell: itself there is, no other, and none behind bind", """
            reads 'frog 0 if holds 0' = NONE
            reads 'frog 0 if gone 0' = NONE
            reads 'frog 0 if day 0 wakes 0' = NONE
            reads 'frog 0 if holds 1' = 16
            reads 'frog 0 if gone 1' = 15
            reads 'frog 0 if day 0 wakes 1' = 22
            reads 'bind 0 if day 0' = 5
            """);
        run("4 the fifth spell: itself there is, no other, and the fourth behind bind", """
            told mute 0 if day 1;mute 0 if day 1;mute 0 if day 1;mute 0 if day 1
            reads 'frog 0 if holds 4' = NONE
            reads 'frog 0 if gone 4' = NONE
            reads 'frog 0 if day 0 wakes 4' = NONE
            reads 'frog 0 if holds 5' = 16
            reads 'frog 0 if gone 5' = 15
            reads 'frog 0 if day 0 wakes 5' = 22
            reads 'bind 3 if day 0' = NONE
            reads 'bind 4 if day 0' = 5
            """);
        run("4 a sixth, at its word, whatever is behind it", """
            told mute 0 if day 1;mute 0 if day 1;mute 0 if day 1;mute 0 if day 1
            reads 'mute 0 if day 1' = NONE
            reads 'mute 0 if day 1;mute 0 if day 1' = 16
            reads 'mute 0 if day 1; sleep 9' = 17
            reads 'mute 0 if day 1;frog' = 16
            reads 'mute 0 if day 1;bind 0 if day 1' = 16
            reads 'mute 0 if day 1;bare;mute 0 if day 1' = NONE
            reads 'mute 0 if day 1;land 1;mute 0 if day 1' = NONE
            """);
        run("4 a sixth of a later text", """
            told mute 0 if day 1;mute 0 if day 1;mute 0 if day 1;mute 0 if day 1;mute 0 if day 1
            reads 'sleep 0 if day 1' = 0
            reads 'day 1;frog 0 if day 1' = 6
            reads 'bare;mute 0 if gone 0' = NONE
            reads 'bare;mute 0 if gone 1' = 20
            reads 'land 2;bind 0 if day 1' = 12
            """);
    }

    private static void faultOfTokens() {
        run("4 letters beside a .. z, beside 0 .. 9", """
            reads 'land 2`' = 6
            reads 'land 2{' = 6
            reads 'land 2/' = 6
            reads 'land 2:' = 6
            reads '`land 2' = 0
            reads '{land 2' = 0
            reads 'land /' = 5
            reads 'land :' = 5
            reads 'landa 2' = 0
            reads 'landz 2' = 0
            reads 'Land 2' = 0
            reads 'lanD 2' = 0
            """);
        run("4 letters 0, 31, 33 and 255 are no blanks", """
            text 'bare'
            write(0) = 5
            fault() = 4
            erase() = 5
            text 'bare'
            write(31) = 5
            fault() = 4
            erase() = 5
            text 'bare'
            write(33) = 5
            fault() = 4
            erase() = 5
            text 'bare'
            write(255) = 5
            fault() = 4
            """);
        run("4 a word is a whole row of letters", """
            reads 'bar' = 0
            reads 'bares' = 0
            reads 'barebare' = 0
            reads 'b are' = 0
            reads 'frog 0 iff day 0' = 7
            reads 'frog 0 if days 0' = 10
            """);
    }

    private static void land() {
        run("5 not of an empty text, not of blanks", """
            land() = NOT
            text '  '
            land() = NOT
            count(12) = 2
            """);
        run("5 a fault at the very end: no line is done", """
            text 'land 3;day 4;broken 1;sleep 0 if kiss 1;'
            land() = NOT
            count(0..12) = 2 0 0 0 0 0 0 0 0 0 0 0 40
            text 'bare'
            land() = 5
            count(0..12) = 3 0 0 2 0 4 0 0 0 0 0 0 0
            """);
        run("5 a refused text leaves what was told, done, kept", """
            told land 3;sleep 0 if weep 1
            act(1, 1, 0) = 1
            keep(1) = 1
            row(0, 1, 0) = 1
            prince(0, 6, 1) = 1
            tried(NONE, 0, 0, 0, 0) = 1
            text 'land 1;day 7'
            land() = NOT
            count(0..12) = 3 1 0 0 2 0 0 1 1 1 1 1 12
            back(1) = 1
            """);
        run("5 one line, twelve lines", """
            text 'bare'
            land() = 1
            text 'TWELVE'
            land() = 12
            count(12) = 0
            """.replace("TWELVE", "bare" + ";bare".repeat(11)));
        run("5 lines are done in their order: land makes all whole, the day 0, the spells none", """
            told day 6;broken 0;broken 1;mute 1 if day 0;land 3
            count(0..5) = 3 0 0 0 0 0
            told land 3;day 6;broken 0;broken 1;mute 1 if day 0
            count(0..5) = 3 1 1 3 0 6
            told day 3;day 5
            count(5) = 5
            told bare
            count(0..5) = 3 0 0 3 0 5
            told land 1
            count(0..5) = 1 0 0 0 0 0
            """);
        run("5 behind it all begins anew, day and gifts as told last", """
            told land 3;day 2;broken 0;sleep 0 if weep 1
            act(1, 1, 0) = 1
            act(1, 2, 1) = 0
            act(1, 3, 0) = 0
            act(0, 4, 0) = 0
            keep(0..1) = 4
            row(0, 1, 0) = 1
            prince(0, 6, 1) = 1
            tried(NONE, 0, 0, 0, 0) = 1
            count(0..12) = 3 1 0 3 0 3 1 4 4 1 1 1 0
            told mute 2 if day 0
            count(0..12) = 3 2 3 1 0 2 0 0 0 0 0 0 0
            back(0..1) = NOT
            undo() = NOT
            """);
        run("5 of spells that were nothing is left: no bond, nothing foretold", """
            told mute 0 if day 1;frog 0 if day 2;bind 0 if gone 2
            ahead(1) = 0
            fewest(1) = NONE
            person(0, 0..2) = 0 1 1
            told bare;mute 1 if weep 1;frog 1 if gone 0 and weep 0;sleep 0 if gone 2
            person(0, 0..2) = 1 0 0
            spell(0, 3) = 0
            fewest(1) = 1
            told land 2;mute 1 if weep 1;frog 1 if gone 0 and weep 0
            ahead(1) = 1
            told land 2;mute 1 if weep 1;frog 1 if weep 0
            ahead(1) = 0
            """);
        run("5 five spells hold as they are told", """
            told land 1;mute 0 if day 0;mute 0 if day 0;mute 0 if day 0;mute 0 if day 0;mute 0 if day 0
            count(1..2) = 5 31
            act(0, 4, 0) = 0
            act(0, 1, 0) = 0
            told day 0
            count(1..5) = 5 31 0 0 0
            act(0, 1, 0) = 31
            """);
    }

    private static void person() {
        run("6 one: no such, what: 0 .. 3", """
            person(-1|2|3|max|min, 0) = UNKNOWN
            person(0..1, -1|4|max|min) = OUTSIDE
            person(-1|2, -1|4) = UNKNOWN         # ahead of OUTSIDE
            person(1, 0..3) = 0
            """);
        run("6 of a land of one", """
            told land 1
            person(0, 0..3) = 0
            person(1, 0) = UNKNOWN
            """);
        run("6 of a land of three", """
            told land 3;sleep 2 if day 1;frog 2 if day 2;mute 2 if day 3
            person(2, 0..3) = 1 1 1 0
            person(3, 0) = UNKNOWN
            act(0, 4, 0) = 1
            person(2, 0..3) = 0 1 1 0
            act(0, 4, 0) = 2
            person(2, 0..3) = 0 0 1 0
            act(2, 1, 0) = 0
            person(2, 0..3) = 0 0 1 1
            act(0, 4, 0) = 4
            person(2, 0..3) = 0
            """);
        run("6 of two spells on him one is enough; one bound is; one on another is not", """
            told sleep 0 if weep 1;sleep 0 if day 1;bind 1 if day 5;bind 0 if day 5
            person(0..1, 0) = 1 0
            told bare;sleep 0 if weep 1;sleep 0 if day 1
            act(1, 1, 0) = 1
            person(0, 0) = 1
            act(1, 4, 0) = 2
            person(0, 0) = 0
            """);
    }

    private static void spell() {
        run("7 of none there is no such", """
            spell(-1|0|max|min, 0) = UNKNOWN
            spell(0, -1|6) = UNKNOWN             # ahead of OUTSIDE
            """);
        run("7 of one: what 0 .. 5", """
            told frog 1 if day 1
            spell(0, 0..5) = 1 1 1 0 1 NONE
            spell(0, -1|6|max|min) = OUTSIDE
            spell(-1|1|max|min, 0) = UNKNOWN
            spell(-1|1, -1|6) = UNKNOWN
            """);
        run("7 of five: the last; its own waker; bound by one of two that holds", """
            told sleep 0 if day 1;mute 1 if asked 1;bind 1 if day 2;bind 1 if day 3;bind 2 if day 1 and day 6 wakes 4
            spell(4, 0..5) = 3 2 1 0 2 4
            spell(5, 0) = UNKNOWN
            spell(0..4, 3) = 0 1 1 0 0
            act(0, 4, 0) = 1
            spell(0, 2) = 0
            act(0, 4, 0) = 0                     # bind 2 is bound by bind 4
            act(0, 4, 0) = 8
            spell(0..4, 3) = 0 1 1 0 0
            spell(0..4, 2) = 0 1 1 0 1
            """);
        run("7 bound no more, though it holds", """
            told mute 1 if day 3;bind 0 if asked 1
            spell(0, 2..3) = 1 1
            act(0, 3, 0) = 2
            spell(0, 2..3) = 1 0
            """);
    }

    private static void term() {
        run("8 of none there is no such", """
            term(0, 0, 0) = UNKNOWN
            term(0, 0, -1|3) = UNKNOWN           # ahead of OUTSIDE
            """);
        run("8 of one term, of three; what 0 .. 2", """
            told frog 1 if day 6;frog 1 if kiss 1 and broken 1 and asked 7
            term(0, 0, 0..2) = 2 6 0
            term(0, -1|1|max|min, 0) = UNKNOWN
            term(0, -1|1, -1|3) = UNKNOWN
            term(0, 0, -1|3|max|min) = OUTSIDE
            term(1, 2, 0..2) = 7 7 0
            term(1, -1|3, 0) = UNKNOWN
            term(1, 0..2, 0) = 0 5 7
            term(-1|2|max|min, 0, 0) = UNKNOWN
            """);
        run("8 asked: k times at least; a day comes again", """
            told frog 0 if asked 1 and kiss 1;frog 0 if asked 7 and kiss 1;frog 0 if day 0 and kiss 1
            term(0..2, 0, 2) = 0 0 1
            act(0, 3, 0) = 0
            term(0..2, 0, 2) = 1 0 1
            5 times act(0, 3, 0) = 0
            term(1, 0, 2) = 0
            act(0, 3, 0) = 0
            term(0..1, 0, 2) = 1
            act(0, 4, 0) = 0
            term(2, 0, 2) = 0
            6 times act(0, 4, 0) = 0
            term(2, 0, 2) = 1
            """);
        run("8 a kiss is never so now, also behind the kiss", """
            told frog 0 if kiss 1 and day 3
            act(1, 0, 0) = 0
            term(0, 0, 2) = 0
            told bare;frog 0 if kiss 1
            act(1, 0, 0) = 1
            term(0, 0, 2) = 0
            """);
        run("8 what is so of a spell that holds, of one that is gone", """
            told frog 0 if weep 0 and holds 0;mute 0 if holds 0 and gone 0 and day 5
            term(0, 0..1, 2) = 0 1
            term(1, 0..1, 2) = 1 0
            act(0, 1, 0) = 1
            term(0, 0..1, 2) = 1 0
            term(1, 0..1, 2) = 0 1
            """);
    }

    private static void as() {
        run("9 of none there is no such", """
            as(0, 0) = UNKNOWN
            as(0, -1|6) = UNKNOWN                # ahead of OUTSIDE
            """);
        run("9 kinds 0 .. 5, as they are over one another", """
            told sleep 0 if day 0;frog 0 if day 0 and day 1;mute 0 if day 1;bind 0 if day 0 and whole 0 and whole 1
            as(0, 0..5) = 1 1 1 NOT NOT NOT
            as(1, 0..5) = 1 1 NOT 1 NOT NOT
            as(2, 0..5) = 0 0 NOT NOT 0 NOT
            as(3, 0..5) = 3 NOT NOT NOT NOT 3
            as(0..3, -1|6|max|min) = OUTSIDE
            as(-1|4|max|min, 0) = UNKNOWN
            as(4, 6) = UNKNOWN
            """);
        run("9 it need not hold", """
            told frog 0 if weep 0
            as(0, 3) = 0
            act(0, 1, 0) = 1
            as(0, 3) = 1
            """);
    }

    private static void laidBy() {
        run("10 of none there is no such", "laidBy(-1|0|max|min) = UNKNOWN\n");
        run("10 each term's witch", """
            told mute 0 if kiss 0;mute 0 if weep 0;mute 0 if day 0;mute 0 if holds 0;mute 0 if gone 0
            laidBy(0..4) = 0 0 1 2 2
            laidBy(-1|5|max|min) = UNKNOWN
            told bare;mute 0 if broken 0;mute 0 if whole 0;mute 0 if asked 1
            laidBy(0..3) = 2 2 1 UNKNOWN
            """);
        run("10 of like ones the least; most, not first", """
            told mute 0 if holds 0 and day 0 and weep 0;mute 0 if gone 0 and asked 1;mute 0 if whole 0 and kiss 0
            laidBy(0..2) = 0 1 0
            told bare;mute 0 if kiss 0 and day 0 and asked 1;mute 0 if kiss 0 and gone 0 and broken 0
            laidBy(0..1) = 1 2
            """);
    }

    // ---- deeds

    private static void can() {
        run("11 one: no such, also of a night; whom, also himself; which gift", """
            can(-1|2|max|min, 0..4, 0) = UNKNOWN
            can(-1|2, -1|5, 0) = UNKNOWN         # ahead of OUTSIDE
            can(0, 0, -1|0|2|max|min) = UNKNOWN
            can(1, 0, -1|1|2|max|min) = UNKNOWN
            can(0, 2, -1|2|max|min) = UNKNOWN
            can(0, -1|5|max|min, 0) = OUTSIDE
            can(0, -1|5, -1|9) = OUTSIDE         # whom or which is of sorts 0 and 2 alone
            can(0, 1|3|4, -1|9|max|min) = 1      # as one likes
            can(0, 0, 1) = 1
            can(0, 2, 0..1) = 1
            """);
        run("11 of a land of one: nobody to kiss", """
            told land 1
            can(0, 0, -1|0|1|2) = UNKNOWN
            can(0, 1..4, 0) = 1
            can(1, 1..4, 0) = UNKNOWN
            """);
        run("11 of a land of three: all others", """
            told land 3
            can(2, 0, 0..3) = 1 1 UNKNOWN UNKNOWN
            can(1, 0, 0..3) = 1 UNKNOWN 1 UNKNOWN
            can(3, 0, 0) = UNKNOWN
            """);
        run("11 who is asleep, a frog, mute; the night is of nobody", """
            told land 3;sleep 0 if day 6;frog 1 if day 6;mute 2 if day 6
            can(0, 0, 1..2) = 0
            can(0, 1..4, 0) = 0 0 0 1
            can(1, 0..4, 0) = 1 1 0 1 1
            can(2, 0..4, 0) = 1 1 1 0 1
            can(0, 0, 0) = UNKNOWN
            can(0, 2, 2) = UNKNOWN
            can(0, 5, 0) = OUTSIDE
            """);
        run("11 who weeps, till the night; a gift that is broken, for ever", """
            act(0, 1, 0) = 0
            can(0..1, 1, 0) = 0 1
            act(0, 2, 1) = 0
            can(0..1, 2, 0) = 1
            can(0..1, 2, 1) = 0
            act(0, 4, 0) = 0
            can(0, 1, 0) = 1
            can(0, 2, 0..1) = 1 0
            """);
        run("11 7 times are asked at most by all together", """
            4 times act(0, 3, 0) = 0
            2 times act(1, 3, 0) = 0
            can(0..1, 3, 0) = 1
            act(1, 3, 0) = 0
            count(6) = 7
            can(0..1, 3, 0) = 0
            act(0, 4, 0) = 0
            can(0..1, 3, 0) = 0
            undo() = 7
            undo() = 6
            can(0..1, 3, 0) = 1
            """);
    }

    private static void act() {
        run("12 refused as can(): UNKNOWN ahead of OUTSIDE, both ahead of NOT", """
            told sleep 0 if gone 0;broken 1
            act(-1|2|max|min, 0..4, 0) = UNKNOWN
            act(-1|2, -1|5, 0) = UNKNOWN
            act(0, 0, -1|0|2|max|min) = UNKNOWN  # though he is asleep
            act(0, 2, -1|2|max|min) = UNKNOWN
            act(0, -1|5|max|min, 7) = OUTSIDE
            act(0, 0, 1) = NOT
            act(0, 1|3, -9|9) = NOT
            act(0, 2, 0..1) = NOT
            act(1, 2, 1) = NOT
            count(0..12) = 2 1 1 2 0 0 0 0 0 0 0 0 0
            """);
        run("12 whom or which of 1, 3, 4 as one likes", """
            act(0, 1, max) = 0
            act(0, 3, min) = 0
            act(0, 4, -1) = 0
            count(2..7) = 0 0 0 1 1 3
            """);
        run("12 an eighth question is not; a second weeping, a second smashing are not", """
            7 times act(1, 3, 0) = 0
            act(1, 3, 0) = NOT
            act(0, 3, 0) = NOT
            count(6..7) = 7 7
            act(0, 1, 0) = 0
            act(0, 1, 0) = NOT
            act(0, 2, 0) = 0
            act(0..1, 2, 0) = NOT
            count(3..7) = 1 1 0 7 9
            """);
        run("12 asked 1, asked 7: with that question, not ahead of it", """
            told frog 0 if asked 1;mute 0 if asked 7
            act(1, 3, 0) = 1
            5 times act(1, 3, 0) = 0
            act(1, 3, 0) = 2
            count(2) = 0
            """);
        run("12 five spells at once, by bits; none; one that is gone is lifted no more", """
            told mute 0 if weep 1;mute 0 if gone 0;mute 0 if gone 1;mute 0 if gone 2;mute 0 if gone 3
            act(1, 3, 0) = 0
            act(1, 1, 0) = 31
            act(1, 3, 0) = 0
            count(2) = 0
            """);
        run("12 gone through once, by their numbers", """
            told mute 0 if gone 0;mute 0 if weep 1 wakes 0;mute 0 if gone 1
            act(1, 1, 0) = 6
            count(2) = 1
            told bare;mute 0 if weep 1;mute 1 if gone 0 wakes 0;mute 1 if holds 0 and gone 1
            act(1, 1, 0) = 7
            count(2) = 1                         # the first is waked behind its turn
            act(0, 0, 1) = 1
            """);
        run("12 it wakes itself: it holds on, and is lifted with each deed", """
            told frog 1 if whole 0 wakes 0
            act(0, 3, 0) = 1
            spell(0, 2) = 1
            act(0, 2, 0) = 0
            act(0, 3, 0) = 0
            """);
        run("12 it wakes one that holds, or one that does not", """
            told mute 0 if day 1;mute 1 if day 2 wakes 0;frog 0 if day 3 wakes 0
            act(0, 4, 0) = 1
            act(0, 4, 0) = 2
            count(2) = 5
            act(0, 4, 0) = 4
            count(2) = 1
            """);
        run("12 bound: not lifted; unbound by the same deed ahead of its turn, or behind it", """
            told frog 0 if weep 0;mute 0 if weep 0;bind 0 if weep 0
            act(0, 1, 0) = 6
            act(1, 3, 0) = 1
            told bare;mute 0 if day 3;bind 0 if weep 0;frog 0 if gone 1
            act(0, 1, 0) = 6
            """);
        run("12 a spell is not kissed, though a person has its number", """
            told frog 1 if kiss 0;bind 0 if kiss 1
            act(1, 0, 0) = 0
            act(0, 0, 1) = 0
            count(2) = 3
            """);
        run("12 a deed is one kiss: never by two; told twice it is one", """
            told land 3;frog 2 if kiss 0 and kiss 1;mute 2 if kiss 0 and kiss 0;frog 0 if kiss 0
            act(0, 0, 2) = 2
            act(1, 0, 2) = 0
            act(1..2, 0, 0) = 0                  # nobody kisses himself
            never() = 5
            """);
        run("12 terms that are never so at once; the same term twice", """
            told mute 0 if day 0 and day 1;mute 0 if holds 1 and gone 1;mute 0 if whole 0 and broken 0;mute 0 if day 1 and day 1
            act(1, 3, 0) = 0
            act(1, 4, 0) = 8
            act(1, 2, 0) = 0
            never() = 7
            told bare;mute 0 if asked 2 and asked 1 and asked 2
            act(1, 3, 0) = 0
            act(1, 3, 0) = 1
            """);
        run("12 a kiss of another one, by another one", """
            told land 3;frog 2 if kiss 1
            act(0, 0, 2) = 0
            act(1, 0, 0) = 0
            act(2, 0, 1) = 0
            act(1, 0, 2) = 1
            """);
    }

    private static void actAndDays() {
        run("12 days are 0 .. 6, again and again", """
            act(0, 4, 0) = 0
            count(5) = 1
            5 times act(0, 4, 0) = 0
            count(5) = 6
            act(0, 4, 0) = 0
            count(5) = 0
            7 times act(0, 4, 0) = 0
            count(5) = 0
            count(7) = 14
            """);
        run("12 from the last day to the first: a spell of that day, nobody weeps", """
            told day 6;frog 0 if day 0;mute 0 if day 6 and asked 1;mute 1 if weep 0
            act(0, 1, 0) = 4
            count(4) = 1
            act(0, 4, 0) = 1
            count(4..5) = 0 0
            """);
        run("12 all asleep: nights come", """
            told sleep 0 if day 2;sleep 1 if gone 0
            act(0..1, 1, 0) = NOT
            act(0, 4, 0) = 0
            act(1, 4, 0) = 3
            """);
    }

    private static void undo() {
        run("13 none", """
            undo() = NOT
            act(0, 5, 0) = OUTSIDE
            undo() = NOT                         # a refused deed is none
            act(0, 1, 0) = 0
            act(0, 1, 0) = NOT
            count(8) = 1
            undo() = 0
            undo() = NOT
            count(4) = 0
            """);
        run("13 the last 8", """
            8 times act(0, 4, 0) = 0
            count(8) = 8
            act(0, 1, 0) = 0
            count(7..8) = 9 8
            undo() = 7
            count(4..5) = 0 1
            undo() = 6
            count(5) = 0                         # back over the week's end
            undo() = 5
            count(5) = 6
            undo() = 4
            undo() = 3
            undo() = 2
            undo() = 1
            undo() = 0
            count(5) = 1
            count(7..8) = 1 0
            undo() = NOT
            count(5) = 1
            """);
        run("13 all of a deed: what it lifted, what it waked, tears, shards, questions", """
            told mute 0 if day 1;frog 0 if day 1;sleep 1 if day 2 wakes 0;bind 1 if day 5
            act(0, 1, 0) = 0
            act(0, 4, 0) = 1
            act(0, 4, 0) = 4
            count(2..6) = 11 0 0 2 0
            undo() = 2
            count(2..6) = 14 0 0 1 0
            undo() = 1
            count(2..6) = 15 0 1 0 0
            undo() = 0
            count(2..6) = 15 0 0 0 0
            """);
        run("13 undone, then done otherwise", """
            act(0, 2, 0) = 0
            act(0, 3, 0) = 0
            undo() = 1
            count(6) = 0
            act(0, 2, 1) = 0
            count(3) = 3
            count(7..8) = 2 2
            undo() = 1
            count(3) = 1
            """);
        run("13 the row, the queue, what was tried, what is written, what is kept stay", """
            act(0, 1, 0) = 0
            keep(0) = 1
            row(0, 1, 0) = 1
            prince(0, 6, 1) = 1
            tried(NONE, 0, 0, 0, 0) = 1
            write(98) = 1
            undo() = 0
            count(9..12) = 1
            back(0) = 1
            count(4) = 1
            """);
    }

    private static void keep() {
        run("14 k 0, 1", """
            keep(-1|2|max|min) = UNKNOWN
            back(0..1) = NOT
            keep(0) = 0
            back(1) = NOT
            keep(1) = 0
            keep(-1|2) = UNKNOWN
            back(0..1) = 0
            """);
        run("14 how many deeds have been; each k of its own; the later one stays", """
            keep(0) = 0
            9 times act(0, 4, 0) = 0
            keep(1) = 9
            back(0) = 0
            count(5) = 0
            back(1) = 9
            count(5) = 2
            act(0, 1, 0) = 0
            keep(0) = 10
            back(1) = 9
            count(4) = 0
            back(0) = 10
            count(4) = 1
            """);
        run("14 what can be undone is as it was behind keep()", """
            act(0, 1, 0) = 0
            keep(0) = 1
            count(8) = 1
            undo() = 0
            """);
    }

    private static void back() {
        run("15 no such k, ahead of NOT; nothing was kept", """
            back(-1|2|max|min) = UNKNOWN
            back(0..1) = NOT
            act(0, 1, 0) = 0
            back(0..1) = NOT
            back(2) = UNKNOWN
            """);
        run("15 all as it was kept; nothing can be undone", """
            told land 3;day 6;mute 0 if asked 1;frog 2 if day 0
            act(1, 1, 0) = 0
            act(1, 2, 1) = 0
            act(2, 3, 0) = 1
            keep(1) = 3
            act(1, 4, 0) = 2
            act(2, 2, 0) = 0
            act(2, 3, 0) = 0
            count(2..8) = 0 3 0 0 2 6 6
            back(1) = 3
            count(2..8) = 2 2 2 6 1 3 0
            undo() = NOT
            back(1) = 3                          # it is kept yet
            act(0, 4, 0) = 2
            undo() = 0
            undo() = NOT
            """);
        run("15 not what was tried, the row, the queue", """
            row(0, 1, 0) = 1
            keep(0) = 0
            row(0, 1, 0) = 2
            prince(0, 6, 1) = 1
            tried(NONE, 0, 0, 0, 0) = 1
            back(0) = 0
            count(9..11) = 2 1 1
            """);
        run("15 since the last text; one that is refused is none", """
            keep(0) = 0
            act(0, 1, 0) = 0
            keep(1) = 1
            text 'day'
            land() = NOT
            back(1) = 1
            text ' 3'
            land() = 1
            back(0..1) = NOT
            count(5) = 3
            """);
    }

    // ---- foretold

    private static void fewest() {
        run("16 of no spells the empty set alone", """
            fewest(0) = 0
            fewest(-1|1|2|32|max|min) = UNKNOWN
            """);
        run("16 of five: 0 .. 31", """
            told land 1;mute 0 if day 1;mute 0 if day 2;mute 0 if day 3;mute 0 if day 4;mute 0 if day 5
            fewest(0) = 0
            fewest(1|2|4|8|16) = 1 2 3 4 5
            fewest(31) = 5
            fewest(-1|32|33|64|max|min) = UNKNOWN
            """);
        run("16 of one: 0, 1", """
            told mute 0 if weep 1
            fewest(0..1) = 0 1
            fewest(2|3) = UNKNOWN
            act(1, 1, 0) = 1
            fewest(1) = 0                        # it is gone already
            """);
        run("16 none: never; with one that may be gone as well", """
            told mute 0 if gone 0;mute 1 if weep 0
            fewest(1|2|3) = NONE 1 NONE
            """);
        run("16 the day is today, tomorrow, was yesterday", """
            told day 6;mute 0 if day 6;mute 0 if day 0;mute 0 if day 5
            fewest(1|2|4) = 1 1 6
            """);
        run("16 seven questions, one of them asked; an eighth there is not", """
            told mute 0 if asked 7;mute 1 if asked 7
            fewest(1) = NONE                     # both are mute
            told bare;frog 0 if asked 7
            fewest(1) = 7
            act(1, 3, 0) = 0
            fewest(1) = 6
            """);
    }

    private static void way() {
        run("17 of no spells: none", """
            way(0, 0|1|max, 0..2) = NONE
            way(0, -1|min, 0) = OUTSIDE
            way(0, 0, -1|3|max|min) = OUTSIDE
            way(-1|1|max|min, 0, 0) = UNKNOWN
            way(1, -1, 3) = UNKNOWN              # ahead of OUTSIDE
            """);
        run("17 the first deed, the last one, none behind it", """
            told day 5;sleep 0 if day 0;frog 1 if gone 0 and kiss 0
            way(3, 0, 0..2) = NONE 4 0
            way(3, 1, 0..2) = NONE 4 0
            way(3, 2, 0..2) = 0 0 1
            way(3, 3|4|max, 0..2) = NONE
            way(3, -1|min, 0..2) = OUTSIDE
            way(3, 0..3, -1|3) = OUTSIDE
            way(4|-1, 0, 0) = UNKNOWN
            """);
        run("17 never; gone already", """
            told mute 0 if gone 0;frog 1 if weep 1
            way(1, 0, 0..2) = NONE
            way(1, -1, 0) = OUTSIDE
            act(1, 1, 0) = 2
            way(2, 0, 0..2) = NONE
            """);
        run("17 by people, then sorts 0 to 3, then whom or what; the night last", """
            told land 3;frog 0 if holds 0
            way(1, 0, 0..2) = 0 0 1              # a kiss of the first other one
            told bare;frog 0 if weep 0 and holds 0;sleep 0 if gone 0
            way(1, 0, 0..2) = NONE               # he sleeps for ever
            told land 3;mute 0 if broken 0;mute 1 if broken 1
            way(1, 0, 0..2) = 0 2 0
            way(2, 0, 0..2) = 0 2 1
            way(3, 0..1, 2) = 0 1
            told land 2;day 1;mute 1 if asked 1;frog 0 if gone 0 and gone 1;sleep 0 if day 1 and holds 0 and gone 2
            way(1, 0, 0..2) = NONE               # 0 sleeps, 1 is mute: nobody asks
            told land 2;frog 1 if day 1 and whole 0
            way(1, 0, 0..2) = NONE 4 0
            """);
        run("17 what 2 is 0 of weeping, asking, nights", """
            told land 3;frog 2 if weep 2 and asked 1 and day 1
            way(1, 0..2, 0) = 0 NONE 2
            way(1, 0..2, 1) = 3 4 1
            way(1, 0..2, 2) = 0
            way(1, 3, 0) = NONE
            """);
    }

    private static void helpers() {
        run("18 of no spells: nobody", """
            helpers(0, 0..1) = 0
            helpers(0, -1|2|max|min) = OUTSIDE
            helpers(-1|1|max|min, 0) = UNKNOWN
            helpers(1, 2) = UNKNOWN              # ahead of OUTSIDE
            """);
        run("18 nobody, one, two, all three, none", """
            told land 3;mute 0 if day 3;mute 0 if kiss 2;mute 0 if weep 1 and weep 2;mute 0 if gone 3
            helpers(1, 0..1) = 0 0
            helpers(2, 0..1) = 1 4
            helpers(4, 0..1) = 2 6
            helpers(8|9|15, 0..1) = NONE
            helpers(16, 0) = UNKNOWN
            helpers(8, 2) = OUTSIDE
            told bare;mute 0 if weep 0 and weep 1 and weep 2
            helpers(1, 0..1) = 3 7
            """);
        run("18 of several sets the least", """
            told land 3;frog 0 if asked 1;frog 1 if broken 0;frog 0 if broken 0 and weep 2
            helpers(1, 1) = 1
            helpers(2|4, 1) = 4                  # 0 and 1 are frogs and break nothing
            """);
        run("18 of two sets of two the least by bits", """
            told land 3;mute 2 if kiss 0 and weep 1;mute 1 if gone 0 and broken 0
            helpers(1, 0..1) = 2 3
            helpers(2, 0..1) = 2 3
            act(0, 1, 0) = 0
            helpers(1, 1) = 3
            """);
        run("18 of a land of one", """
            told land 1;mute 0 if weep 0;frog 0 if day 1
            helpers(1, 0..1) = 1 1
            helpers(2, 0..1) = 0 0
            """);
    }

    private static void nights() {
        run("19 of no spells: none are needed", """
            nights(0) = 0
            nights(-1|1|max|min) = UNKNOWN
            """);
        run("19 none, one, six, a week and more, never", """
            told day 6;mute 0 if weep 0;mute 0 if day 0;mute 0 if day 5;mute 0 if gone 2 and day 6;frog 1 if gone 4
            nights(0) = 0
            nights(1|2|4|8) = 0 1 6 7
            nights(15) = 7
            nights(16|31) = NONE
            nights(-1|32) = UNKNOWN
            """);
        run("19 none: the first deed of all, a kiss by the first; the last ahead of the night, a question by the last", """
            told land 3;mute 1 if kiss 0
            nights(1) = 0
            told land 3;mute 0 if gone 0;mute 1 if gone 1;frog 2 if asked 1
            nights(4) = 0
            """);
        run("19 asked, it spoils nothing that is foretold behind it", """
            told mute 0 if kiss 1;sleep 0 if day 1;frog 1 if asked 3;mute 0 if broken 0 and gone 0
            act(1, 0, 0) = 1
            nights(8) = 0
            fewest(8) = 2
            undo() = 0
            gone(8, 0..1) = 0 2
            """);
        run("19 today's day needs none; gone already neither", """
            told day 3;mute 0 if day 3;mute 1 if day 2
            nights(1) = 0
            act(0, 1, 0) = 1
            nights(1) = 0
            nights(2) = 6
            """);
    }

    private static void never() {
        run("20 of no spells: none", "never() = 0\n");
        run("20 all five; none of five", """
            told mute 0 if gone 0;mute 0 if gone 1;mute 0 if gone 2;mute 0 if gone 3;mute 0 if gone 4
            never() = 31
            told bare;mute 0 if day 0;mute 0 if day 1;mute 0 if day 2;mute 0 if day 3;mute 0 if day 4
            never() = 0
            """);
        run("20 one that is gone now is none, though it holds for ever when it is waked", """
            told mute 0 if weep 0 and whole 0;mute 1 if day 1 wakes 0
            act(0, 1, 0) = 1
            act(0, 2, 0) = 0
            act(0, 4, 0) = 2
            never() = 1
            undo() = 2
            never() = 0
            """);
        run("20 it wakes itself: it holds whatever is done", """
            told mute 0 if day 1 wakes 0
            never() = 1
            act(0, 4, 0) = 1
            never() = 1
            """);
        run("20 when seven times was asked", """
            told frog 0 if asked 7 and weep 0;frog 1 if asked 1 and holds 1
            never() = 0
            7 times act(0, 3, 0)
            never() = 0
            told bare;frog 0 if asked 7 and gone 0;mute 1 if kiss 0
            never() = 1
            """);
    }

    private static void ahead() {
        run("21 of none there is no such", "ahead(-1|0|max|min) = UNKNOWN\n");
        run("21 not: it does not hold, or it is of never", """
            told mute 0 if weep 0;mute 1 if gone 1;frog 0 if day 1
            ahead(0..3) = 0 NOT 0 UNKNOWN
            act(0, 1, 0) = 1
            ahead(-1..3) = UNKNOWN NOT NOT 0 UNKNOWN
            """);
        run("21 none, all four others, those that hold now alone", """
            told mute 0 if day 1;mute 0 if day 2 and gone 0;mute 0 if day 3 and gone 1;mute 0 if day 4 and gone 2;bind 3 if day 3
            ahead(0..4) = 0 1 19 23 7            # no day comes but behind those ahead of it
            ahead(5) = UNKNOWN
            act(0, 4, 0) = 1
            ahead(1..4) = 0 18 22 6
            ahead(0) = NOT
            """);
        run("21 one that does not hold now is none, though it must go again", """
            told mute 0 if asked 1;frog 0 if weep 1 wakes 0;frog 1 if gone 0 and gone 1
            act(1, 3, 0) = 1
            ahead(2) = 2
            """);
        run("21 of five the last behind all others", """
            told mute 0 if day 1;mute 0 if day 2 and gone 0;mute 0 if day 3 and gone 1;mute 0 if day 4 and gone 2;bare
            ahead(0) = UNKNOWN
            told frog 0 if day 1;frog 0 if day 2 and gone 0;frog 0 if day 3 and gone 1;frog 0 if day 4 and gone 2
            told frog 0 if day 5 and gone 3
            ahead(0..5) = 0 1 3 7 15 UNKNOWN
            """);
    }

    private static void props() {
        run("22 of no spells: none", "props() = 0\n");
        run("22 four of five hold one another up; the first itself alone", """
            told mute 0 if gone 0;mute 0 if day 0;mute 0 if gone 0;mute 0 if gone 0 and gone 3;mute 0 if gone 4
            never() = 29
            props() = 4
            told bare;mute 0 if gone 0;mute 0 if gone 0;mute 0 if gone 1;mute 0 if gone 2;mute 0 if gone 3
            never() = 31
            props() = 30
            """);
        run("22 one term alone is not so now: none, one, two are not", """
            told mute 0 if gone 0;mute 0 if gone 0 and day 0 and whole 1;mute 0 if gone 0 and day 1
            props() = 2
            act(0, 4, 0) = 0
            props() = 4
            act(0, 2, 1) = 0
            props() = 4
            act(0, 4, 0) = 0
            props() = 0
            """);
        run("22 one that is gone now is none", """
            told sleep 0 if whole 0;mute 1 if gone 0;frog 0 if day 1 wakes 0
            act(1, 1, 0) = 3
            act(1, 2, 0) = 0
            act(1, 4, 0) = 4                     # the first holds again, for ever
            never() = 1
            props() = 0
            """);
    }

    private static void gone() {
        run("23 gone at once, the others are lifted by deeds yet", """
            told frog 0 if weep 0;mute 0 if gone 0 and day 1;bind 1 if day 5
            fewest(2) = 9
            gone(2, 0..1) = 2 2
            """);
        run("23 of no spells: none", """
            gone(0, 0..1) = NONE
            gone(0, -1|2|max|min) = OUTSIDE
            gone(-1|1|max|min, 0) = UNKNOWN
            gone(1, 2) = UNKNOWN                 # ahead of OUTSIDE
            """);
        run("23 of the set not: of all there is none; the empty set is gone already", """
            told mute 0 if gone 0;mute 0 if day 3
            gone(3, 0..1) = NONE
            gone(0, 0..1) = NONE
            gone(1, 0..1) = NONE                 # never, whatever is gone
            gone(4, 0) = UNKNOWN
            """);
        run("23 fewer than now, not as few; not none, where it was none", """
            told frog 0 if day 6;mute 0 if gone 0;mute 1 if gone 1 and day 1;frog 1 if gone 3
            fewest(2) = 6
            gone(2, 0..1) = 0 1
            fewest(4) = 8
            gone(4, 0..1) = 0 1
            gone(8, 0..1) = NONE
            gone(1, 0..1) = NONE
            """);
        run("23 of several the least", """
            told sleep 0 if gone 0;sleep 1 if gone 1;mute 0 if broken 1
            gone(4, 0..1) = 0 1
            """);
        run("23 one that is gone now helps no more", """
            told mute 0 if weep 0;frog 0 if day 3;bind 1 if gone 0 and day 6
            fewest(2) = 11
            gone(2, 0..1) = 2 3
            act(0, 1, 0) = 1
            gone(2, 0..1) = 2 3
            """);
    }

    private static void many() {
        run("24 n below 0; now; far away", """
            many(-1|min) = OUTSIDE
            many(0) = 1
            many(1) = 6                          # two weep, two gifts, a question, the night
            many(max) = 0
            """);
        run("24 nights alone: the week comes round", """
            told land 1;day 3;sleep 0 if gone 0
            many(0..6) = 1
            many(7|8|max) = 0
            many(-1) = OUTSIDE
            """);
        run("24 nothing but nights is left: kisses make no other state", """
            told broken 0;broken 1;mute 0 if gone 0;mute 1 if gone 0
            many(0..3) = 1 3 4 4
            act(0, 1, 0) = 0
            many(0..2) = 1 2 3
            """);
    }

    private static void farthest() {
        run("25 six nights at least", """
            told land 1;sleep 0 if gone 0
            farthest() = 6
            many(6) = 1
            many(7) = 0
            told land 1;frog 0 if gone 0;mute 0 if gone 0
            farthest() = 7                       # tears behind the nights
            """);
        run("25 of a new object: 7 questions, 2 gifts, 6 nights, 2 weep", """
            farthest() = 17
            many(17) = 1
            many(18) = 0
            7 times act(0, 3, 0) = 0
            farthest() = 10
            act(0, 2, 0) = 0
            farthest() = 9
            """);
    }

    // ---- rows, princes

    private static void row() {
        run("26 refused as can()", """
            row(-1|2|max|min, 0..4, 0) = UNKNOWN
            row(-1|2, -1|5, 0) = UNKNOWN
            row(0, 0, -1|0|2|max|min) = UNKNOWN
            row(0, 2, -1|2|max|min) = UNKNOWN
            row(0, -1|5|max|min, 0) = OUTSIDE
            count(9) = 0
            row(0, 1|3|4, -1|9|max) = 1 2 3 4 5 6 7 8 9
            """);
        run("26 of a land of one", """
            told land 1
            row(0, 0, 0..1) = UNKNOWN
            row(1, 4, 0) = UNKNOWN
            row(0, 4, 0) = 1
            """);
        run("26 12 at most; whatever can not be may stand there", """
            told sleep 0 if gone 0
            row(0, 1, 0) = 1
            row(0, 0, 1) = 2
            row(0, 2, 0..1) = 3 4
            row(1, 4, 0) = 5
            row(1, 0, 0) = 6
            5 times row(1, 3, 0)
            row(1, 3, 0) = 12
            row(1, 3, 0) = FULL
            row(0, 4, 0) = FULL
            row(-1|2, 4, 0) = UNKNOWN            # ahead of FULL
            row(1, 0, 1) = UNKNOWN
            row(1, 2, 2) = UNKNOWN
            row(1, -1|5, 0) = OUTSIDE            # ahead of FULL
            count(9) = 12
            burn() = 12
            row(1, 3, 0) = 1
            """);
    }

    private static void burn() {
        run("27 of none, of one, of none again", """
            burn() = 0
            row(0, 1, 0) = 1
            burn() = 1
            burn() = 0
            count(9) = 0
            judge(0..1) = NONE 0
            """);
        run("27 the row alone", """
            told mute 0 if weep 0
            row(0, 1, 0) = 1
            prince(0, 6, 1) = 1
            tried(NONE, 0, 0, 0, 0) = 1
            judge(0..1) = NONE 0
            burn() = 1
            judge(0..1) = NONE 1
            count(9..11) = 0 1 1
            """);
    }

    private static void judge() {
        run("28 what 0, 1; no row", """
            judge(-1|2|max|min) = OUTSIDE
            judge(0..1) = NONE 0
            row(0, 1, 0) = 1
            judge(-1|2) = OUTSIDE
            """);
        run("28 no row: those that hold now", """
            told mute 0 if weep 0;frog 0 if gone 0;frog 1 if day 1;frog 1 if day 2;frog 1 if day 3
            judge(0..1) = NONE 5
            act(0, 1, 0) = 3
            judge(0..1) = NONE 3
            """);
        run("28 the first can not be, the last of 12 can not be, all can be", """
            told mute 0 if weep 0;frog 0 if day 4
            row(0, 3, 0) = 1
            judge(0..1) = 0 2
            burn() = 1
            row(0, 1, 0) = 1
            3 times row(0, 4, 0)
            7 times row(0, 3, 0)
            judge(0..1) = NONE 1
            row(0, 3, 0) = 12
            judge(0..1) = 11 1
            act(1, 3, 0) = 0
            judge(0..1) = 10 1
            act(0, 4, 0) = 0
            judge(0..1) = 10 0
            undo() = 1
            undo() = 0
            judge(0) = 11
            """);
        run("28 what comes behind the first that can not be counts no more", """
            told frog 0 if day 1;sleep 1 if day 2
            row(1, 1, 0) = 1
            row(0, 4, 0) = 2
            judge(0..1) = 0 2
            act(0, 4, 0) = 1
            act(0, 4, 0) = 2
            judge(0..1) = NONE 0
            """);
        run("28 the twelfth deed is done", """
            told frog 0 if weep 0 and asked 7
            7 times row(1, 3, 0)
            4 times row(1, 0, 0)
            judge(0..1) = NONE 1
            row(0, 1, 0) = 12
            judge(0..1) = NONE 0
            """);
        run("28 asleep when his deed comes; awake when it comes", """
            told sleep 0 if kiss 1
            row(0, 1, 0) = 1
            row(1, 0, 0) = 2
            judge(0..1) = 0 1
            burn() = 2
            row(1, 0, 0) = 1
            row(0, 1, 0) = 2
            judge(0..1) = NONE 0
            """);
    }

    private static void prince() {
        run("29 no such one, also himself, ahead of the day", """
            prince(-1|2|max|min, 0, 0) = UNKNOWN
            prince(0, 0, -1|0|2|max|min) = UNKNOWN
            prince(1, 0, 1) = UNKNOWN
            prince(2, 7, 0) = UNKNOWN
            prince(0, -1|7, 0|2) = UNKNOWN
            prince(0, -1|7|max|min, 1) = OUTSIDE
            count(10) = 0
            prince(0, 0, 1) = 1
            prince(1, 6, 0) = 2
            """);
        run("29 of a land of one: nobody to kiss", """
            told land 1
            prince(0, 0, 0..1) = UNKNOWN
            """);
        run("29 of a land of three", """
            told land 3
            prince(2, 0, 0..3) = 1 2 UNKNOWN UNKNOWN
            prince(3, 0, 0) = UNKNOWN
            """);
        run("29 5 at most", """
            4 times prince(0, 3, 1)
            prince(0, 3, 1) = 5
            prince(0, 3, 1) = FULL
            prince(0, -1|7, 1) = OUTSIDE         # ahead of FULL
            prince(0, 7, 0) = UNKNOWN            # ahead of both
            prince(2, 3, 0) = UNKNOWN
            count(10) = 5
            dismiss() = 5
            prince(0, 3, 1) = 1
            """);
        run("29 one who is asleep may be told", """
            told sleep 0 if gone 0
            prince(0, 0, 1) = 1
            """);
    }

    private static void dismiss() {
        run("30 of none, of one, of none again; the queue alone", """
            dismiss() = 0
            prince(0, 3, 1) = 1
            row(0, 1, 0) = 1
            tried(NONE, 0, 0, 0, 0) = 1
            inLine(1) = 3
            dismiss() = 1
            inLine(0..1) = 0
            count(9..11) = 1 0 1
            dismiss() = 0
            """);
    }

    private static void inLine() {
        run("31 what 0, 1; an empty queue", """
            inLine(-1|2|max|min) = OUTSIDE
            inLine(0..1) = 0
            prince(0, 3, 1) = 1
            inLine(-1|2) = OUTSIDE
            """);
        run("31 on his day he waits for no night; the day ahead of it is six away", """
            told day 6
            prince(0, 6, 1) = 1
            inLine(1) = 0
            prince(0, 0, 1) = 2
            inLine(1) = 1                        # over the week's end
            prince(0, 6, 1) = 3
            inLine(1) = 7
            prince(0, 5, 1) = 4
            inLine(1) = 13
            prince(0, 4, 1) = 5
            inLine(1) = 19
            count(5) = 6
            """);
        run("31 the fifth comes too; what the nights lift counts", """
            told land 3;frog 2 if kiss 1 and day 6;mute 0 if day 3;mute 1 if day 0
            prince(0, 0, 2) = 1
            inLine(0..1) = 1 0                   # with the first kiss it is day 0
            3 times prince(0, 1, 2)
            inLine(0..1) = 1 1
            prince(1, 6, 2) = 5
            inLine(0..1) = 3 6
            """);
        run("31 who is asleep then does nothing, and is waited for", """
            told sleep 0 if gone 0;frog 1 if kiss 0;mute 1 if holds 0
            prince(0, 2, 1) = 1
            inLine(0..1) = 1 2
            act(0, 4, 0) = 4
            inLine(0..1) = 0 1
            """);
        run("31 no kiss, no night: a spell that any deed lifts stays", """
            told sleep 0 if gone 0;mute 1 if holds 0
            prince(0, 0, 1) = 1
            inLine(0..1) = 0
            prince(1, 0, 0) = 2
            inLine(0..1) = 1 0
            """);
        run("31 each in the order in which they were told", """
            told sleep 0 if kiss 1;mute 1 if kiss 0
            prince(0, 0, 1) = 1
            prince(1, 0, 0) = 2
            inLine(0) = 1
            dismiss() = 2
            prince(1, 0, 0) = 1
            prince(0, 0, 1) = 2
            inLine(0) = 2
            """);
    }

    // ---- a secret spell

    private static void tried() {
        run("32 no such one; bits: ahead of OUTSIDE", """
            tried(-2|2|max|min, 0, 0, 0, 0) = UNKNOWN
            tried(NONE, -1|4|max|min, 0, 0, 0) = UNKNOWN
            tried(NONE, 0, 0, -1|4|max|min, 0) = UNKNOWN
            tried(2, 0, 7, 0, 2) = UNKNOWN
            tried(NONE, 4, 7, 0, 0) = UNKNOWN
            tried(NONE, 0, -1, 4, 2) = UNKNOWN
            tried(NONE, 0, -1|7|max|min, 0, 0) = OUTSIDE
            tried(NONE, 0, 0, 0, -1|2|max|min) = OUTSIDE
            count(11) = 0
            tried(NONE, 0, 0, 0, 0) = 1
            tried(1, 3, 6, 3, 1) = 2
            """);
        run("32 people of a land of one, of three", """
            told land 1
            tried(0..1, 0, 0, 0, 0) = 1 UNKNOWN
            tried(0, 1..2, 0, 0, 0) = 2 UNKNOWN
            told land 3
            tried(2..3, 0, 0, 0, 0) = 1 UNKNOWN
            tried(0, 7..8, 0, 0, 0) = 2 UNKNOWN
            """);
        run("32 8 at most", """
            7 times tried(0, 0, 3, 0, 0)
            tried(0, 0, 3, 0, 0) = 8
            tried(0, 0, 3, 0, 0..1) = FULL
            tried(0, 0, 7, 0, 0) = OUTSIDE       # ahead of FULL
            tried(0, 0, 0, 0, 2) = OUTSIDE
            tried(2, 0, 7, 0, 0) = UNKNOWN       # ahead of both
            tried(0, 4, 0, 0, 0) = UNKNOWN
            count(11) = 8
            forget() = 8
            tried(0, 0, 3, 0, 0) = 1
            """);
    }

    private static void forget() {
        run("33 of nothing, of one, of nothing again; what was tried alone", """
            forget() = 0
            tried(0, 0, 0, 0, 1) = 1
            row(0, 1, 0) = 1
            prince(0, 6, 1) = 1
            mayBe(0) = 10
            forget() = 1
            mayBe(0) = 120
            count(9..11) = 1 1 0
            forget() = 0
            """);
        run("33 lifted or not is forgotten with it", """
            8 times tried(0, 0, 0, 0, 1)
            forget() = 8
            tried(0, 0, 0, 0, 0) = 1
            mayBe(0) = 110
            """);
    }

    private static void mayBe() {
        run("34 what 0 .. 4; nothing tried: all ifs of one, two, three people", """
            mayBe(-1|5|max|min) = OUTSIDE
            mayBe(0..4) = 120 0 0 NONE NONE
            told land 1
            mayBe(0..4) = 91 0 0 NONE NONE
            told land 3
            mayBe(0..4) = 153 0 0 NONE NONE
            """);
        run("34 none: not, but how many", """
            tried(0, 0, 0, 0, 1) = 1
            tried(0, 0, 0, 0, 0) = 2
            mayBe(0..4) = 0 NOT NOT NOT NOT
            mayBe(-1|5) = OUTSIDE                # ahead of NOT
            """);
        run("34 none, of a smaller land behind a greater one", """
            told land 3
            tried(NONE, 0, 0, 1, 1) = 1
            tried(NONE, 0, 0, 0, 0) = 2
            mayBe(0..4) = 3 5 0 NONE NONE
            told land 1
            tried(NONE, 0, 0, 0, 1) = 1
            tried(NONE, 0, 0, 0, 0) = 2
            mayBe(0..4) = 0 NOT NOT NOT NOT
            """);
        run("34 the last of all: WHOLE 0 and WHOLE 1", """
            tried(NONE, 0, 0, 0, 1) = 1
            tried(NONE, 0, 1, 0, 1) = 2
            mayBe(0..4) = 3 6 0 NONE NONE
            tried(NONE, 0, 0, 1, 0) = 3
            mayBe(0..4) = 2 6 0 NONE NONE
            tried(NONE, 0, 0, 2, 0) = 4
            mayBe(0..4) = 1 6 0 6 1
            """);
        run("34 the first of two terms: KISS 0 and another", """
            tried(0, 2, 3, 0, 1) = 1
            tried(0, 2, 4, 0, 0) = 2
            tried(1, 2, 3, 0, 0) = 3
            mayBe(0..4) = 1 0 0 2 3
            """);
        run("34 DAY 6, WEEP of the last one, KISS of the last one", """
            told land 3
            tried(NONE, 0, 6, 3, 1) = 1
            tried(NONE, 0, 5, 3, 0) = 2
            mayBe(0..4) = 3 2 6 NONE NONE
            forget() = 2
            tried(NONE, 4, 0, 0, 1) = 1
            tried(NONE, 3, 0, 0, 0) = 2
            mayBe(0..4) = 4 1 2 NONE NONE
            forget() = 2
            tried(2, 0, 0, 0, 1) = 1
            tried(0, 7, 0, 0, 0) = 2
            tried(1, 7, 0, 0, 0) = 3
            mayBe(0..4) = 4 0 2 NONE NONE
            """);
        run("34 the eighth decides", """
            tried(0, 0, 0, 3, 1) = 1
            tried(NONE, 0, 1, 0, 0) = 2
            4 times tried(NONE, 0, 2, 0, 0)
            tried(0, 0, 3, 3, 1) = 7
            mayBe(0..4) = 6 0 0 NONE NONE
            tried(NONE, 0, 0, 3, 0) = 8
            mayBe(0..4) = 3 0 0 NONE NONE
            tried(1, 0, 0, 0, 0) = FULL
            mayBe(0) = 3
            """);
        run("34 two unlike ones; two that can not be so at once may be, if it was never lifted", """
            tried(NONE, 0, 0, 0, 0) = 1
            mayBe(0) = 114
            mayBe(1..4) = 0 0 NONE NONE
            tried(0, 3, 1, 3, 0) = 2
            mayBe(0..4) = 93 0 1 NONE NONE
            """);
    }

    private static void next() {
        run("35 nothing tried: of like days the least", """
            next() = 0
            told land 1
            next() = 0
            told land 3
            next() = 0
            """);
        run("35 the first day, the last day", """
            tried(NONE, 0, 0, 3, 1) = 1
            tried(NONE, 0, 6, 3, 0) = 2
            mayBe(0) = 3
            next() = 0
            forget() = 2
            tried(NONE, 0, 6, 3, 1) = 1
            tried(NONE, 0, 0, 3, 0) = 2
            mayBe(0) = 3
            next() = 6
            """);
        run("35 asked of nothing but next()", """
            tried(NONE, 0, 6, 3, 1) = 1
            tried(NONE, 0, 0, 3, 0) = 2
            next() = 6
            """);
        run("35 a day on which all would be lifted tells less than one on which some would", """
            tried(NONE, 0, 0, 0, 1) = 1
            tried(NONE, 0, 0, 1, 0) = 2
            mayBe(0) = 3                         # WHOLE 0, alone or with DAY 0 or WHOLE 1
            next() = 1                           # on day 0 3 and 0, on others 2 and 1
            """);
        run("35 nobody kissing or weeping, all gifts whole", """
            tried(NONE, 1, 0, 0, 1) = 1
            mayBe(0) = 10                        # WEEP 0, DAY 0, WHOLE 0, WHOLE 1
            next() = 0                           # on it 6 and 4, on others 3 and 7
            forget() = 1
            tried(0, 0, 0, 0, 1) = 1
            mayBe(0) = 10
            next() = 0
            forget() = 1
            tried(NONE, 0, 0, 1, 1) = 1
            mayBe(0) = 6                         # DAY 0, BROKEN 0, WHOLE 1
            next() = 0                           # on it 3 and 3, on others 1 and 5
            """);
        run("35 none may be", """
            tried(NONE, 0, 0, 0, 1) = 1
            tried(NONE, 0, 0, 0, 0) = 2
            next() = NONE
            forget() = 2
            next() = 0
            """);
        run("35 one may be: it would be lifted or not, as few on each day", """
            tried(NONE, 0, 0, 0, 1) = 1
            tried(NONE, 0, 1, 0, 1) = 2
            tried(NONE, 0, 0, 1, 0) = 3
            tried(NONE, 0, 0, 2, 0) = 4
            mayBe(0) = 1
            next() = 0
            """);
        run("35 the more of both: lifted by most is no better than by few", """
            tried(NONE, 0, 3, 0, 1) = 1
            mayBe(0) = 6
            next() = 0
            """);
    }

    private static void count() {
        run("36 what 0 .. 12", """
            count(-1|13|max|min) = OUTSIDE
            count(0..12) = 2 0 0 0 0 0 0 0 0 0 0 0 0
            """);
        run("36 each as great as it can be", """
            told land 3;day 6;mute 0 if gone 0;mute 0 if gone 0;mute 0 if gone 0;mute 0 if gone 0;mute 0 if gone 0
            7 times act(1, 3, 0) = 0
            act(1, 2, 0..1) = 0
            act(0..2, 1, 0) = 0
            12 times row(0, 1, 0)
            5 times prince(0, 0, 1)
            8 times tried(NONE, 0, 0, 0, 0)
            count(0..12) = 3 5 31 3 7 6 7 12 8 12 5 8 0
            count(-1|13) = OUTSIDE
            """);
        run("36 240 letters", "text '" + "a".repeat(240) + "'\nwrite(97) = FULL\ncount(12) = 240\n");
        run("36 of one of the people, all asleep, nothing but days", """
            told land 1;sleep 0 if gone 0
            8 times act(0, 4, 0) = 0
            count(0..12) = 1 1 1 0 0 1 0 8 8 0 0 0 0
            """);
    }
}

import java.io.IOException;
import java.lang.reflect.Method;
import java.lang.reflect.Modifier;
import java.nio.file.Files;
import java.nio.file.Path;
import java.util.Arrays;
import java.util.Set;
import java.util.TreeSet;
import java.util.regex.Matcher;
import java.util.regex.Pattern;

/**
 * The document from its first line to its last, in its own words, each with runs of calls that hold the class against it
 * (Runs says how to read them). The words are compared with those of the document, so that none is left out.
 */
public final class DocumentTest {
    private static final Path DOCUMENT = Path.of("../shared/DOC.md");
    private static final Runs RUNS = new Runs();

    private static String document = "";
    private static int read = 0;

    private DocumentTest() {
    }

    public static void main(String[] args) throws IOException {
        document = plainWords(Files.readString(DOCUMENT));
        whatItIs();
        publicFace();
        peopleGiftsDays();
        spells();
        theText();
        theTextsParts();
        faults();
        behindTheLines();
        deeds();
        terms();
        lifting();
        kinds();
        fewestAndWay();
        helpersAndNights();
        neverAndAhead();
        propsAndGone();
        manyAndFarthest();
        theRow();
        theSecretSpell();
        theQueue();
        laidByWitches();
        refused();
        promisesOfWhatIsTold();
        promisesOfPeopleAndSpells();
        promisesOfDeeds();
        promisesOfUndoneAndKept();
        promisesOfTheForetold();
        promisesOfNeverAndAhead();
        promisesOfRowsAndPrinces();
        promisesOfTheSecretSpell();
        notPromised();
        RUNS.check(read == document.length(), "left out of the document: " + document.substring(read));
        RUNS.end("the document's words");
    }

    /** Without headings and fences, with one blank between words. */
    private static String plainWords(String text) {
        return text.replaceAll("(?m)^(#|```).*$", " ").replaceAll("\\s+", " ").strip();
    }

    /** The document goes on with these words; each of the runs would fail if the class did not keep them. */
    private static void says(String words, String... runs) {
        boolean there = document.startsWith(words, read);
        RUNS.check(there, "the document does not go on with '" + words + "'");
        if (there) {
            read += words.length();
            read += document.startsWith(" ", read) ? 1 : 0;
        }
        for (String rows : runs) {
            RUNS.run(words, rows);
        }
    }

    // ---- what it is, the face

    private static void whatItIs() {
        says("Asleep till the seventh asks: a land under spells, each on one of its people or on another spell, each with its "
            + "own if, lifted by what is done, some of them waking others; told in texts, read to their first fault; deeds "
            + "day by day, what they lift, what they wake; rows of deeds judged; the fewest deeds by which told spells are "
            + "gone, a way, the fewest people that it needs, the fewest nights; which can never be lifted, which must go "
            + "ahead of which, which hold one another up, which one gone at once would help most; all that can come, how "
            + "far; what the if of a secret spell may be, by what was tried, what to try next; a queue of princes; who laid "
            + "a spell, by its words; a land kept, deeds undone.", """
            told land 3;sleep 0 if asked 7
            3 times act(1, 3, 0) = 0
            3 times act(2, 3, 0) = 0
            person(0, 0) = 1
            act(1, 3, 0) = 1                     # the seventh asks
            person(0, 0) = 0
            """);
        says("======== 1 PEOPLE are 0 .. n less 1 (n 1 ..", """
            told land 1
            count(0) = 1
            person(-1|0|1, 0) = UNKNOWN 0 UNKNOWN
            reads 'land 0' = 5
            """);
        says("An object is used for at most 512 calls after it has been made; what later calls answer is free.", """
            511 times act(0, 4, 0) = 0
            undo() = 7
            """);
    }

    /** The face is read from the document, and looked for in the class: all of it, and no more. */
    private static void publicFace() {
        int end = document.indexOf('}', read) + 1;
        String face = document.substring(read, end);
        says(face);
        Set<String> wanted = new TreeSet<>();
        Matcher methods = Pattern.compile("public int (\\w+)\\(([^)]*)\\);").matcher(face);
        while (methods.find()) {
            int parameters = methods.group(2).isEmpty() ? 0 : methods.group(2).split(",").length;
            wanted.add(methods.group(1) + "/" + parameters);
        }
        RUNS.check(wanted.size() == 35, "the document's face has " + wanted.size() + " methods");
        Set<String> there = new TreeSet<>();
        for (Method method : SevenSpells.class.getDeclaredMethods()) {
            if (Modifier.isPublic(method.getModifiers())) {
                there.add(method.getName() + "/" + method.getParameterCount());
            }
        }
        RUNS.check(there.equals(wanted), "the face is " + there + ", the document's " + wanted);
        int[] constants = {SevenSpells.NONE, SevenSpells.UNKNOWN, SevenSpells.OUTSIDE, SevenSpells.NOT, SevenSpells.FULL};
        RUNS.check(Arrays.equals(constants, new int[] {-1, -2, -3, -4, -5}), "the constants are other ones");
        RUNS.check(SevenSpells.class.getFields().length == constants.length, "there are more constants");
    }

    // ---- 1: what is told

    private static void peopleGiftsDays() {
        says("3; 2 at first),", """
            count(0) = 2
            person(-1..2, 0) = UNKNOWN 0 0 UNKNOWN
            reads 'land 4' = 5
            told land 3
            count(0) = 3
            person(-1..3, 0) = UNKNOWN 0 0 0 UNKNOWN
            """);
        says("GIFTS 0, 1 (each whole, or broken; whole at first).", """
            count(3) = 0
            can(0, 2, -1..2) = UNKNOWN 1 1 UNKNOWN
            act(0, 2, 1) = 0
            count(3) = 2
            can(0, 2, 0..1) = 1 0
            act(0, 2, 0) = 0
            count(3) = 3
            """);
        says("DAYS are 0 .. 6, again and again (0 at first).", """
            count(5) = 0
            6 times act(0, 4, 0) = 0
            count(5) = 6
            act(0, 4, 0) = 0
            count(5) = 0
            act(0, 4, 0) = 0
            count(5) = 1
            """);
    }

    private static void spells() {
        says("SPELLS are 0, 1 .. as they come, 5 at most (none at first),", """
            count(1) = 0
            spell(0, 0) = UNKNOWN
            told frog 0 if day 1;mute 1 if day 1
            spell(-1..2, 0) = UNKNOWN 1 2 UNKNOWN
            told sleep 0 if day 1
            spell(2, 0) = 0                      # it comes behind those of the text ahead
            told sleep 1 if day 1;bind 2 if day 1
            count(1) = 5
            spell(0..5, 0) = 1 2 0 0 3 UNKNOWN
            reads 'sleep 0 if day 1' = 0
            """);
        says("each of a KIND: 0 SLEEP, 1 FROG, 2 MUTE (these are on one of PEOPLE), 3 BIND (on another SPELL),", """
            told land 3;sleep 2 if day 1;frog 1 if day 1;mute 0 if day 1;bind 2 if day 1;bind 3 if day 1
            spell(0..4, 0) = 0 1 2 3 3
            spell(0..4, 1) = 2 1 0 2 3
            """);
        says("with an IF of 1 to 3 TERMS,", """
            told mute 0 if day 1;mute 0 if day 1 and day 2;mute 0 if day 1 and day 2 and day 3
            spell(0..2, 4) = 1 2 3
            reads 'mute 0 if' = 9
            reads 'mute 0 if day 1 and day 2 and day 3 and day 4' = 36
            """);
        says("with a SPELL that it WAKES, or none.", """
            told mute 0 if day 1;mute 0 if day 1 wakes 1;mute 0 if day 1 wakes 0
            spell(0..2, 5) = NONE 1 0
            """);
        says("As it is told each HOLDS.", """
            told mute 0 if day 0;mute 0 if whole 0;mute 0 if holds 0
            count(2) = 7                         # though all of their terms are so
            spell(0..2, 2) = 1
            """);
        says("TERMS: 0 KISS p, 1 WEEP p, 2 DAY d, 3 HOLDS s, 4 GONE s, 5 BROKEN g, 6 WHOLE g, 7 ASKED k (k 1 .. 7).", """
            told land 3;mute 0 if kiss 2 and weep 1 and day 6;mute 0 if holds 1 and gone 0 and broken 1
            told mute 0 if whole 1 and asked 1 and asked 7
            term(0..1, 0..2, 0) = 0 1 2 3 4 5
            term(0..1, 0..2, 1) = 2 1 6 1 0 1
            term(2, 0..2, 0) = 6 7 7
            term(2, 0..2, 1) = 1 1 7
            reads 'mute 0 if asked 0' = 16
            reads 'mute 0 if asked 8' = 16
            """);
    }

    private static void theText() {
        says("THE TEXT is a row of letters, 240 at most:", "text '" + " ".repeat(235) + "bare'\n" + """
            count(12) = 239
            write(32) = 240
            write(32) = FULL
            land() = 1
            """);
        says("LINES with ; between, 12 at most;", """
            reads 'bare;bare' = NONE
            reads 'bare bare' = 5
            reads ';bare' = 0
            reads 'bare;' = 5
            text 'TWELVE'
            land() = 12
            text 'TWELVE;bare'
            fault() = 59                         # no line can come, so no ; can stand there
            land() = NOT
            """.replace("TWELVE", "bare" + ";bare".repeat(11)));
        says("each is one of: land N. sleep P if T. frog P if T. mute P if T. bind S if T. day D. broken G. bare.", """
            reads 'land 2' = NONE
            reads 'sleep 1 if day 2' = NONE
            reads 'frog 1 if day 2' = NONE
            reads 'mute 1 if day 2' = NONE
            reads 'mute 1 if day 2;bind 0 if day 2' = NONE
            reads 'day 2' = NONE
            reads 'broken 1' = NONE
            reads 'bare' = NONE
            reads 'whole 1' = 0
            reads 'kiss 1' = 0
            reads 'wakes 0' = 0
            reads 'if day 2' = 0
            """, """
            reads 'sleep if day 2' = 6
            reads 'frog 1 day 2' = 7
            reads 'mute 1 if 2' = 10
            reads 'land if' = 5
            reads 'bare 2' = 5
            """);
        says("Behind T: and T (once or twice), then wakes S, or none.", """
            reads 'mute 1 if day 2 and day 3' = NONE
            reads 'mute 1 if day 2 and day 3 and day 4 wakes 0' = NONE
            reads 'mute 1 if day 2 wakes 0' = NONE
            reads 'mute 1 if day 2 and day 3 and day 4 and day 5' = 36
            reads 'mute 1 if day 2 wakes 0 and day 3' = 24
            reads 'mute 1 if day 2 wakes 0 wakes 0' = 24
            reads 'mute 1 if day 2 and wakes 0' = 20
            reads 'mute 1 if day 2 and' = 19
            """);
        says("T is one of: kiss P. weep P. day D. holds S. gone S. broken G. whole G. asked K.", """
            reads 'mute 1 if kiss 0 and weep 1 and day 6' = NONE
            reads 'mute 1 if holds 0 and gone 0 and broken 1' = NONE
            reads 'mute 1 if whole 0 and asked 7' = NONE
            reads 'mute 1 if land 2' = 10
            reads 'mute 1 if bare' = 10
            reads 'mute 1 if wakes 0' = 10
            """);
    }

    private static void theTextsParts() {
        says("(As written here, without points;", """
            reads 'land 2.' = 6
            reads 'Land 2' = 0
            reads 'lands 2' = 0
            reads 'lan 2' = 0
            """);
        says("land: N PEOPLE, no SPELLS, GIFTS whole, DAY 0;", """
            told land 3;day 4;broken 0;broken 1;mute 2 if day 6
            count(0..5) = 3 1 1 3 0 4
            told land 1
            count(0..5) = 1 0 0 0 0 0
            """);
        says("sleep ..: one more, a sixth cannot stand there (at its word);", """
            told mute 0 if day 1;mute 0 if day 2;mute 0 if day 3;mute 0 if day 4
            reads ' sleep 0 if day 5' = NONE
            reads 'sleep 0 if day 5; frog 9' = 18
            told frog 0 if day 5
            count(1) = 5
            reads 'sleep 0 if day 6' = 0
            reads 'frog 0 if day 6' = 0
            reads 'mute 0 if day 6' = 0
            reads ' bind 0 if day 6' = 1
            """);
        says("S in TERMS, behind bind and wakes: a SPELL that there is behind the LINES ahead, or this one itself (not behind "
            + "bind);", """
            reads 'mute 0 if holds 0' = NONE
            reads 'mute 0 if gone 1' = 15
            reads 'mute 0 if day 1 wakes 1' = 22
            reads 'bind 0 if day 1' = 5
            reads 'mute 0 if day 1;bind 0 if holds 1 and gone 0 wakes 1' = NONE
            reads 'mute 0 if day 1;bind 1 if day 1' = 21
            reads 'mute 0 if day 1;mute 0 if holds 2' = 32
            reads 'mute 0 if gone 1;mute 0 if day 1' = 15
            """, """
            told mute 0 if day 1;mute 0 if day 1
            reads 'bind 1 if gone 0 wakes 2' = NONE
            reads 'bare;mute 0 if gone 1' = 20
            reads 'land 2;bind 0 if day 1' = 12
            """);
        says("bare: no SPELLS;", """
            told land 3;day 4;broken 1;mute 2 if day 6
            told bare
            count(0..5) = 3 0 0 2 0 4
            spell(0, 0) = UNKNOWN
            """);
        says("small letters a .. z, numbers of 1 digit, blanks between.)", """
            reads '  land  2 ;  bare  ' = NONE
            reads 'land 02' = 5
            reads 'LAND 2' = 0
            reads 'la nd 2' = 0
            """);
    }

    private static void faults() {
        says("A FAULT is at the first TOKEN (a row of small letters, a row of digits, any other letter) that cannot stand there "
            + "(a number out of its bounds, of more digits, also), or at the end, if it comes too soon.", """
            reads 'bare lands' = 5
            reads 'day 4321' = 4
            reads 'day 4;!?' = 6
            reads 'day 7' = 4
            reads 'day 00' = 4
            reads 'broken 2' = 7
            reads 'mute 2 if day 1' = 5
            reads 'day' = 3
            reads 'day ' = 4
            fault() = 0
            reads 'king;day 7' = 0
            reads 'day 6;day 7;king' = 10
            """);
        says("LINES are done in their order.", """
            told day 3;day 5;broken 1
            count(3..5) = 2 0 5
            told broken 0;day 1;land 1
            count(0..5) = 1 0 0 0 0 0
            told land 2;land 3;mute 2 if day 1;bare;frog 2 if day 1
            count(0..2) = 3 1 1
            spell(0, 0) = 1
            """);
    }

    private static void behindTheLines() {
        says("Behind them all SPELLS HOLD, nobody weeps, nobody was ASKED, no DEEDS have been, DAY and GIFTS are as the latest "
            + "text told them, no ROW is told, THE QUEUE is empty, nothing was TRIED, nothing is kept or can be undone.", """
            told day 2;broken 0;mute 0 if weep 1
            act(1, 1, 0) = 1
            act(1, 3, 0) = 0
            act(0, 2, 1) = 0
            act(0, 4, 0) = 0
            act(1, 1, 0) = 0
            keep(0..1) = 5
            row(0, 4, 0) = 1
            prince(0, 1, 1) = 1
            tried(NONE, 0, 0, 0, 0) = 1
            count(2..12) = 0 3 2 3 1 5 5 1 1 1 0
            told frog 1 if day 6
            count(0..12) = 2 2 3 1 0 2 0 0 0 0 0 0 0
            back(0..1) = NOT
            undo() = NOT
            """, """
            told day 2;broken 0
            told day 3                           # the latest text that tells of gifts is the first one
            count(3..5) = 1 0 3
            told broken 1
            count(3..5) = 3 0 3
            """);
    }

    // ---- 2: deeds, terms, what is lifted

    private static void deeds() {
        says("======== 2 One of PEOPLE is ASLEEP, a FROG, MUTE, if a SPELL of that KIND that is on him HOLDS.", """
            told mute 0 if day 2;mute 0 if day 1
            act(0, 4, 0) = 2
            person(0, 2) = 1                     # the other one holds yet
            told land 3;sleep 0 if day 1;frog 1 if day 2;mute 2 if day 3;mute 2 if day 4;bind 1 if day 5
            person(0, 0..2) = 1 0 0
            person(1, 0..2) = 0 1 0
            person(2, 0..2) = 0 0 1
            act(0, 4, 0) = 1
            person(0, 0..2) = 0
            act(0, 4, 0) = 0                     # bound, it holds on
            person(1, 1) = 1
            act(0, 4, 0) = 4
            person(2, 2) = 1                     # the other one holds yet
            act(0, 4, 0) = 8
            person(2, 2) = 0
            """);
        says("A DEED of one who is not ASLEEP:", """
            told sleep 0 if day 1
            can(0, 0, 1) = 0
            can(0, 1..3, 0) = 0
            can(1, 0..3, 0) = 1
            act(0, 4, 0) = 1
            can(0, 0, 1) = 1
            can(0, 1..3, 0) = 1
            """);
        says("0 he KISSES another one;", """
            told land 3;frog 0 if day 6;mute 0 if day 6;sleep 1 if kiss 0
            can(0, 0, 0..3) = UNKNOWN 1 1 UNKNOWN
            act(0, 0, 1) = 4                     # one asleep may be kissed, by a frog, who is mute
            act(0, 0, 1) = 0
            count(7) = 2
            """);
        says("1 he WEEPS (who does not yet);", """
            act(0, 1, 0) = 0
            person(0..1, 3) = 1 0
            act(0, 1, 0) = NOT
            can(0..1, 1, 0) = 0 1
            count(4) = 1
            act(1, 1, 0) = 0
            count(4) = 3
            """);
        says("2 he SMASHES a GIFT that is whole (no FROG);", """
            told land 3;frog 0 if day 6;mute 1 if day 6
            can(0..1, 2, 0..1) = 0 0 1 1
            act(1, 2, 0) = 0
            can(1..2, 2, 0..1) = 0 1 0 1
            act(2, 2, 0) = NOT
            count(3) = 1
            """);
        says("3 he ASKS (not MUTE; 7 times have been asked at most by all together);", """
            told land 3;frog 0 if day 6;mute 1 if day 6
            can(0..2, 3, 0) = 1 0 1
            4 times act(0, 3, 0) = 0
            3 times act(2, 3, 0) = 0
            count(6) = 7
            can(0..2, 3, 0) = 0
            act(0|2, 3, 0) = NOT
            """);
        says("4 NIGHT (of nobody): the next DAY comes, nobody WEEPS.", """
            told day 6;sleep 0 if gone 0;sleep 1 if weep 1 and holds 1
            act(0, 4, 0) = 0
            count(5) = 0
            act(1, 4, 0) = 0
            count(5) = 1
            told land 3
            act(0|2, 1, 0) = 0
            count(4) = 5
            act(1, 4, 0) = 0
            count(4..5) = 0 1
            """);
    }

    private static void terms() {
        says("A TERM is so: KISS: the DEED is a KISS by p of the one on whom the SPELL is;", """
            told land 3;frog 2 if kiss 1;bind 0 if day 6 and kiss 1;frog 1 if kiss 2;frog 0 if kiss 0
            act(1, 0, 2) = 0                     # bound, and no spell is kissed
            act(1..2, 0, 0) = 0
            told bare;frog 2 if kiss 1 and kiss 1;mute 2 if kiss 1 and kiss 0
            act(1, 0, 2) = 1
            act(0, 0, 2) = 0                     # no deed is two kisses
            told bare;frog 2 if kiss 1;mute 1 if kiss 0
            act(0, 0, 2) = 0
            act(1, 0, 0) = 0
            act(2, 0, 1) = 0
            act(1, 1, 2) = 0
            act(1, 0, 2) = 1
            act(0, 0, 1) = 2
            """);
        says("WEEP: p weeps;", """
            told frog 0 if weep 1;mute 0 if weep 0
            term(0..1, 0, 2) = 0
            act(1, 1, 0) = 1
            term(0..1, 0, 2) = 1 0
            """);
        says("DAY: it is that;", """
            told day 5;frog 0 if day 6;mute 0 if day 5
            term(0..1, 0, 2) = 0 1
            act(1, 3, 0) = 2
            act(1, 4, 0) = 1
            term(0..1, 0, 2) = 1 0
            """);
        says("HOLDS, GONE: s does, does not;", """
            told frog 0 if day 1;mute 0 if holds 0 and asked 1;mute 1 if gone 0
            term(1, 0, 2) = 1
            term(2, 0, 2) = 0
            act(0, 4, 0) = 5
            term(1, 0, 2) = 0
            term(2, 0, 2) = 1
            act(1, 3, 0) = 0
            """);
        says("BROKEN, WHOLE: g is;", """
            told mute 0 if broken 1;mute 1 if whole 1 and asked 1
            term(0..1, 0, 2) = 0 1
            act(0, 2, 0) = 0
            term(0..1, 0, 2) = 0 1
            act(0, 2, 1) = 1
            term(0..1, 0, 2) = 1 0
            act(0, 3, 0) = 0
            """);
        says("ASKED: k times at least have been asked by all.", """
            told land 3;frog 0 if asked 2;frog 1 if asked 3 and day 1
            act(0, 3, 0) = 0
            act(1, 3, 0) = 1
            term(0..1, 0, 2) = 1 0
            act(2, 3, 0) = 0
            act(2, 3, 0) = 0
            term(0..1, 0, 2) = 1
            act(2, 4, 0) = 2                     # at least
            """);
    }

    private static void lifting() {
        says("Behind a DEED SPELLS are gone through by their numbers, once:", """
            told mute 0 if asked 1;frog 0 if gone 0;bind 1 if gone 0
            act(1, 3, 0) = 5                     # the frog's turn was over when its bond went
            act(1, 1, 0) = 2
            """);
        says("one that HOLDS,", """
            told mute 0 if weep 1
            act(1, 1, 0) = 1
            act(0, 2, 0) = 0                     # so it is yet, but it is gone
            """);
        says("is not BOUND (by no BIND on it that HOLDS)", """
            told mute 0 if asked 1;bind 0 if weep 1;bind 0 if day 1
            spell(0..2, 3) = 1 0 0
            act(1, 3, 0) = 0
            act(1, 1, 0) = 2
            spell(0, 3) = 1                      # by the other one
            act(1, 4, 0) = 4
            spell(0, 3) = 0
            act(1, 2, 0) = 1
            """, """
            told mute 0 if asked 1;bind 0 if day 1;bind 0 if weep 1
            act(1, 3, 0) = 0
            act(1, 1, 0) = 4
            spell(0, 3) = 1
            act(1, 4, 0) = 2
            act(1, 2, 0) = 1
            """, """
            told mute 0 if asked 1;bind 0 if gone 1;bind 1 if day 1
            spell(0..2, 3) = 1 1 0               # a bond that is bound binds yet
            act(1, 3, 0) = 0
            """);
        says("and all of whose TERMS are so (as all is by then) is LIFTED:", """
            told mute 0 if weep 1 and asked 1 and day 0;mute 0 if gone 0 and weep 1;mute 0 if holds 0 and asked 1
            act(1, 1, 0) = 0
            act(1, 3, 0) = 3                     # by then the first holds no more
            count(2) = 4
            """);
        says("it HOLDS no more, and the one that it WAKES HOLDS (itself: it HOLDS on).", """
            told mute 0 if asked 1;frog 0 if weep 1 wakes 0;frog 1 if day 1 wakes 2
            act(1, 3, 0) = 1
            count(2) = 6
            act(1, 1, 0) = 2
            count(2) = 5
            act(1, 4, 0) = 5                     # the waked one is lifted again
            count(2) = 4
            act(1, 2, 0) = NOT                   # a frog yet
            act(0, 1, 0) = 4
            count(2) = 4
            """);
    }

    private static void kinds() {
        says("KINDS are over one another: SPELL (0); CURSE (1) under it; SLEEP (2) is a CURSE; FROG (3) is a CURSE; MUTE (4) is a "
            + "CURSE; BIND (5) is a SPELL.", """
            told sleep 0 if day 0;frog 0 if day 0;mute 0 if day 0;bind 0 if day 0
            as(0, 0..5) = 1 1 1 NOT NOT NOT
            as(1, 0..5) = 1 1 NOT 1 NOT NOT
            as(2, 0..5) = 1 1 NOT NOT 1 NOT
            as(3, 0..5) = 1 NOT NOT NOT NOT 1
            """);
    }

    // ---- 3: foretold

    // One asleep till another one kisses him while the third one weeps; then a frog, if asked twice, bound till day 2.
    private static final String TALE = "told land 3;sleep 0 if kiss 1 and weep 2;frog 0 if asked 2 and gone 0;bind 1 if day 2\n";

    private static void fewestAndWay() {
        says("======== 3 FORETOLD from now (nothing changes).", TALE + """
            fewest(7) = 6
            way(7, 0, 1) = 3
            helpers(7, 0) = 2
            nights(7) = 2
            never() = 0
            ahead(1) = 5
            props() = 0
            gone(2, 0) = 0
            many(1) = 6                          # two weep, two gifts, a question, the night
            farthest()
            count(0..8) = 3 3 7 0 0 0 0 0 0
            """);
        says("By all DEEDS that can be: FEWEST DEEDS behind which none of a set of SPELLS HOLDS; none: never.", TALE + """
            fewest(0|1|4|5) = 0 2 2 4
            fewest(2|3|6|7) = 6
            act(2, 1, 0) = 0
            fewest(1) = 1
            act(1, 0, 0) = 1
            fewest(1) = 0
            fewest(2) = 4
            """, """
            told sleep 0 if weep 1 and weep 0;mute 1 if weep 1
            fewest(1..3) = NONE 1 NONE
            """);
        says("WAY: the first such row (DEED by DEED, by PEOPLE's numbers, then sorts 0 to 3, then whom or what; NIGHT last).", TALE + """
            way(2, 0..6, 0) = 1 1 NONE NONE 2 1 NONE
            way(2, 0..6, 1) = 3 3 4 4 1 0 NONE
            """, """
            told land 3;mute 2 if holds 0
            way(1, 0, 0..2) = 0 0 1              # of all deeds the first
            told bare;sleep 0 if gone 0;mute 2 if holds 1
            way(2, 0, 0..2) = 1 0 0
            told bare;sleep 0 if gone 0;sleep 1 if gone 0;sleep 2 if gone 2;mute 2 if holds 3
            way(8, 0, 0..2) = NONE 4 0
            """, """
            told land 3;mute 2 if broken 1 and weep 0;frog 0 if day 6
            way(1, 0..1, 0) = 0 1                # a frog weeps, the next one smashes
            way(1, 0..1, 1) = 1 2
            way(1, 0..1, 2) = 0 1
            told land 3;mute 2 if asked 1 and broken 1 and broken 0
            way(1, 0..2, 0) = 0
            way(1, 0..2, 1) = 2 2 3
            way(1, 0..2, 2) = 0 1 0
            """);
    }

    private static void helpersAndNights() {
        says("HELPERS: the fewest PEOPLE by whose DEEDS alone (and NIGHTS) that comes about;", TALE + """
            helpers(0|4, 0) = 0                  # nobody is needed, or nights alone
            helpers(1|2|7, 0) = 2
            helpers(1|2|7, 1) = 6
            act(2, 1, 0) = 0
            helpers(1, 0..1) = 1 2
            told bare;mute 0 if weep 0 and weep 1 and weep 2
            helpers(1, 0..1) = 3 7
            """);
        says("of several sets the least (bits);", """
            told land 3;mute 2 if asked 1
            helpers(1, 0..1) = 1 1
            told bare;mute 0 if asked 1
            helpers(1, 0..1) = 1 2
            told bare;mute 0 if asked 1 and weep 0
            helpers(1, 0..1) = 2 3               # with 1 or with 2
            """);
        says("none.", """
            told mute 0 if gone 0
            helpers(1, 0..1) = NONE
            helpers(0, 0..1) = 0
            """);
        says("NIGHTS: the fewest NIGHTS with which it does; none.", TALE + """
            nights(0|1|4|7) = 0 0 2 2
            told land 3;mute 0 if day 0 and asked 7;mute 0 if gone 1
            nights(1) = 0                        # by seven deeds, which are more than a week
            nights(2|3) = NONE
            act(0, 4, 0) = 0
            nights(1) = 6
            """);
    }

    private static void neverAndAhead() {
        says("NEVER: SPELLS that will HOLD whatever is done, by bits.", """
            told mute 0 if gone 0;mute 0 if day 1;frog 0 if gone 0;frog 1 if weep 0 wakes 3
            never() = 13
            act(0, 4, 0) = 2
            never() = 13
            """, """
            told sleep 0 if kiss 1;sleep 1 if kiss 0
            never() = 3
            told bare;sleep 0 if kiss 1
            never() = 0
            """);
        says("AHEAD of a SPELL: all others that HOLD now, of each of which it is so: were no DEED done by which that is LIFTED, "
            + "this one would HOLD whatever is done; by bits.", TALE + """
            ahead(0..2) = 0 5 0
            act(2, 1, 0) = 0
            act(1, 0, 0) = 1
            ahead(1) = 4
            """, """
            told mute 0 if weep 0;mute 1 if weep 0;frog 0 if gone 0
            ahead(0..2) = 6 5 3                  # one deed lifts all three
            """, """
            told mute 0 if asked 1;frog 0 if weep 1 wakes 0;frog 1 if gone 0 and gone 1
            act(1, 3, 0) = 1
            ahead(2) = 2                         # the first must go again, but it does not hold now
            """);
    }

    private static void propsAndGone() {
        says("PROPS: SPELLS of NEVER of whose TERMS one alone is not so now, and that is GONE of another one of NEVER.", """
            told mute 0 if gone 0;mute 1 if gone 0;frog 0 if gone 1 and day 0;frog 1 if gone 2 and day 1;sleep 0 if weep 1
            never() = 15
            props() = 6
            act(0, 4, 0) = 0
            props() = 10
            """, """
            told sleep 0 if kiss 1;sleep 1 if gone 0 and kiss 0
            never() = 3
            props() = 0                          # a kiss alone is not so; two are not so
            told bare;mute 0 if whole 0;mute 1 if gone 0;frog 0 if day 1 wakes 0
            act(1, 1, 0) = 3
            act(1, 2, 0) = 0
            act(1, 4, 0) = 4
            never() = 1
            props() = 0                          # one that is gone is not of NEVER
            told land 2
            told sleep 0 if gone 0;sleep 1 if day 5 and gone 0;frog 0 if day 0
            props() = 0
            """);
        says("GONE BEST for a set: the SPELL of it not that HOLDS and, were it gone at once, makes FEWEST least (fewer than now, "
            + "or not none); of several the least; none.", TALE + """
            gone(2, 0..1) = 0 4                  # as few as without the bond
            gone(1|4|5|7, 0..1) = NONE
            gone(6, 0..1) = 0 4
            gone(3, 0..1) = 2 4
            """, """
            told sleep 0 if gone 0;sleep 1 if gone 1;mute 0 if weep 1
            fewest(4) = NONE
            gone(4, 0..1) = 1 1
            gone(5, 0..1) = NONE
            """);
    }

    private static void manyAndFarthest() {
        says("MANY: how many states of the land (SPELLS, GIFTS, who weeps, DAY, ASKED) are n DEEDS from now, and no fewer;", """
            told land 1;sleep 0 if day 1
            many(0..1) = 1
            many(2) = 5                          # awake on day 1: he weeps, smashes one of two, asks; the night
            """, """
            told land 1;broken 0;broken 1;mute 0 if day 6
            many(0..3) = 1 2 2 2                 # the night; with tears behind it
            many(6) = 2
            """);
        says("FARTHEST: the greatest such n.", """
            told land 1;sleep 0 if gone 0
            farthest() = 6
            told land 1;mute 0 if gone 0;broken 1
            farthest() = 8                       # six nights, tears, the other gift
            many(8..9) = 1 0
            """);
    }

    private static void theRow() {
        says("THE ROW, 12 DEEDS at most:", """
            11 times row(0, 4, 0)
            row(0, 4, 0) = 12
            row(0, 4, 0) = FULL
            count(9) = 12
            """);
        says("JUDGED: the first that can not be; how many SPELLS HOLD behind those ahead.", TALE + """
            judge(0..1) = NONE 3
            row(2, 1, 0) = 1
            row(1, 0, 0) = 2
            row(0, 0, 1) = 3
            judge(0..1) = NONE 2
            row(0, 2, 0) = 4                     # he is a frog yet
            row(0, 4, 0) = 5
            row(0, 4, 0) = 6
            judge(0..1) = 3 2
            act(0, 4, 0) = 0
            act(0, 4, 0) = 4
            judge(0..1) = 3 1
            """);
    }

    private static void theSecretSpell() {
        says("TRIED, 8 at most, with a secret SPELL on one of PEOPLE: the DEED (a KISS of him by one, or none), who wept, the DAY, "
            + "which GIFTS were broken, and whether it was LIFTED.", """
            tried(0, 0, 0, 0, 1) = 1
            mayBe(0) = 10
            forget() = 1
            tried(NONE, 0, 0, 0, 1) = 1          # DAY 0, WHOLE 0, WHOLE 1
            mayBe(0) = 6
            forget() = 1
            tried(NONE, 3, 0, 0, 1) = 1          # and WEEP 0, WEEP 1
            mayBe(0) = 15
            forget() = 1
            tried(NONE, 0, 5, 3, 1) = 1          # DAY 5, BROKEN 0, BROKEN 1
            mayBe(0..2) = 6 2 5
            forget() = 1
            tried(NONE, 0, 5, 3, 0) = 1
            mayBe(0) = 114
            7 times tried(NONE, 0, 5, 3, 0)
            tried(NONE, 0, 5, 3, 0) = FULL
            count(11) = 8
            """);
        says("MAY BE: IFS of one TERM or two unlike ones (KISS, WEEP, DAY, BROKEN, WHOLE; in this order, then by numbers) by which "
            + "all is so: how many; the first: its TERMS.", """
            mayBe(0) = 120                       # 15 terms, 105 of two
            told land 1
            mayBe(0) = 91                        # 13 terms, 78 of two
            told land 3
            mayBe(0) = 153                       # 17 terms, 136 of two
            """, """
            mayBe(1..4) = 0 0 NONE NONE
            tried(0, 3, 2, 1, 0) = 1
            mayBe(1..4) = 0 1 NONE NONE          # KISS 0 is none, KISS 1 is
            tried(1, 3, 3, 2, 1) = 2
            mayBe(0..4) = 18 0 1 NONE NONE
            tried(NONE, 2, 3, 3, 1) = 3
            mayBe(0..4) = 5 2 3 NONE NONE
            tried(NONE, 0, 3, 3, 0) = 4
            mayBe(0..4) = 2 1 1 2 3
            tried(NONE, 0, 3, 3, 1) = 5
            mayBe(0..4) = 0 NOT NOT NOT NOT
            """, """
            tried(0, 1, 2, 0, 1) = 1
            tried(0, 2, 2, 0, 0) = 2
            mayBe(0..4) = 5 1 0 NONE NONE        # WEEP 0, alone or with KISS 0, DAY 2, WHOLE 0, WHOLE 1
            tried(NONE, 1, 2, 0, 0) = 3
            mayBe(0..4) = 1 0 0 1 0
            """);
        says("NEXT: of the DAYS 0 .. 6, nobody kissing or weeping, all GIFTS whole, that on which the more of those that would be "
            + "LIFTED and those that would not are fewest; of several the least; none: none MAY BE.", """
            next() = 0
            tried(NONE, 0, 4, 3, 1) = 1          # DAY 4, BROKEN 0, BROKEN 1
            next() = 4                           # DAY 4 would be lifted, five would not
            tried(NONE, 0, 4, 0, 0) = 2
            next() = 0                           # five with gifts, lifted on no day
            tried(NONE, 0, 3, 0, 1) = 3
            next() = NONE
            """, """
            tried(NONE, 0, 4, 0, 1) = 1          # DAY 4, WHOLE 0, WHOLE 1
            next() = 0                           # on it three and three, on day 4 all six
            tried(NONE, 0, 5, 0, 0) = 2
            next() = 0                           # on day 4 all three, on others none of three
            """);
    }

    private static void theQueue() {
        says("THE QUEUE: PRINCES, 5 at most, each with a DAY on which he comes, and one whom he KISSES: he is one of PEOPLE.", """
            told land 3
            prince(0..2, 6, 1) = 1 UNKNOWN 2
            prince(3|-1, 6, 1) = UNKNOWN
            prince(0, -1|7, 1) = OUTSIDE
            3 times prince(0, 0, 2)
            prince(0, 0, 2) = FULL
            count(10) = 5
            """);
        says("IN LINE: how many SPELLS are LIFTED in all, if they come in the order in which they were told, each waited for by "
            + "NIGHTS till it is his DAY (those who are ASLEEP then do nothing; nobody does anything else).", """
            told land 3;day 5;sleep 0 if kiss 1;frog 2 if kiss 0;mute 1 if day 6;bind 1 if day 0
            prince(0, 5, 2) = 1
            inLine(0..1) = 0 0                   # asleep
            prince(1, 5, 0) = 2
            inLine(0..1) = 1 0
            prince(0, 5, 2) = 3
            inLine(0..1) = 1 0                   # bound
            prince(0, 1, 2) = 4
            inLine(0..1) = 4 3                   # two by nights
            prince(2, 1, 0) = 5
            inLine(0..1) = 4 3
            """);
    }

    private static void laidByWitches() {
        says("LAID BY: WORDS of a SPELL are its TERMS; WITCHES 0, 1, 2 love: 0 KISS and WEEP, 1 DAY and ASKED, 2 all others:", """
            told frog 0 if kiss 1;frog 0 if weep 1;frog 0 if day 1;frog 0 if asked 1;frog 0 if holds 0
            laidBy(0..4) = 0 0 1 1 2
            told bare;frog 0 if gone 0;frog 0 if broken 0;frog 0 if whole 0
            laidBy(0..2) = 2
            """);
        says("the one whose TERMS are most in it; of like ones the least.", """
            told frog 0 if kiss 1 and day 1 and asked 1;frog 0 if whole 0 and gone 0 and weep 0
            told frog 0 if whole 0 and day 1 and weep 0;frog 0 if whole 0 and day 0;frog 0 if whole 0 and kiss 0
            laidBy(0..4) = 1 2 0 1 0
            """);
    }

    private static void refused() {
        says("Refused, and nothing changes: UNKNOWN (no such one of PEOPLE, SPELL, GIFT; a set with such), OUTSIDE (another number "
            + "is not as told), NOT (not now: as told), FULL: the first of these that fits.", TALE + """
            act(2, 1, 0) = 0
            5 times prince(0, 1, 2)
            12 times row(0, 1, 2)
            8 times tried(NONE, 0, 3, 0, 0)
            text 'day'
            person(3, 4) = UNKNOWN
            spell(3, 6) = UNKNOWN
            term(3, 3, 3) = UNKNOWN
            as(3, 6) = UNKNOWN
            act(3, 5, 0) = UNKNOWN
            act(0, 5, 0) = OUTSIDE
            act(0, 1, 0) = NOT
            row(3, 5, 0) = UNKNOWN
            row(0, 5, 0) = OUTSIDE
            row(0, 4, 0) = FULL
            way(8, -1, 3) = UNKNOWN
            gone(-1, 2) = UNKNOWN
            helpers(8, 2) = UNKNOWN
            prince(0, 7, 0) = UNKNOWN
            prince(0, 7, 1) = OUTSIDE
            prince(0, 6, 1) = FULL
            tried(3, 0, 7, 0, 2) = UNKNOWN
            tried(0, 0, 7, 0, 0) = OUTSIDE
            tried(0, 0, 6, 0, 2) = OUTSIDE
            tried(0, 0, 6, 0, 0) = FULL
            land() = NOT
            back(0) = NOT
            back(2) = UNKNOWN
            """);
        says("Ahead of the calls `write`, `erase`, `fault`, `land`, `person`, `spell`, `term`, `as`, `laidBy` the interface says: "
            + "---- what is told.");
        says("Ahead of the calls `can`, `act`, `undo`, `keep`, `back` the interface says: ---- deeds.");
        says("Ahead of the calls `fewest`, `way`, `helpers`, `nights`, `never`, `ahead`, `props`, `gone`, `many`, `farthest` the "
            + "interface says: ---- foretold.");
        says("Ahead of the calls `row`, `burn`, `judge`, `prince`, `dismiss`, `inLine` the interface says: ---- rows, princes.");
        says("Ahead of the calls `tried`, `forget`, `mayBe`, `next`, `count` the interface says: ---- a secret spell.");
    }

    // ---- the promises by their numbers, 1 to 36

    private static void promisesOfWhatIsTold() {
        says("`SevenSpells()`: Two PEOPLE, no SPELLS.", """
            count(0..12) = 2 0 0 0 0 0 0 0 0 0 0 0 0
            """);
        says("`int write(int letter)`: A letter (its number, 0 .. 255) more of THE TEXT: how many it has.", """
            write(0) = 1
            write(255) = 2
            write(98) = 3
            count(12) = 3
            """);
        says("OUTSIDE; FULL.", """
            239 times write(32)
            write(-1|256|max|min) = OUTSIDE
            write(32) = 240
            write(32) = FULL
            write(-1|256) = OUTSIDE
            """);
        says("`int erase()`: THE TEXT is empty: how many letters it had.", """
            erase() = 0
            text 'day 7'
            erase() = 5
            count(12) = 0
            text 'bare'
            fault() = NONE
            """);
        says("`int fault()`: The place of the FAULT (the letter with which the TOKEN begins, or the length); NONE.", """
            reads 'bare;  king' = 7
            reads 'bare;  ' = 7
            reads 'bare  ' = NONE
            """);
        says("`int land()`: THE TEXT's LINES are done, and it is empty then: how many there were.", """
            text 'land 3;day 4; broken 1 ;mute 2 if day 6'
            land() = 4
            count(0..5) = 3 1 1 2 0 4
            count(12) = 0
            """);
        says("NOT: it has a FAULT.", """
            land() = NOT
            text 'land 3;day 7'
            land() = NOT
            count(0) = 2
            count(12) = 12
            """);
    }

    private static void promisesOfPeopleAndSpells() {
        says("`int person(int person, int what)`: Of one of PEOPLE: 1 ASLEEP, 0 (what 0), 1 a FROG, 0 (1), 1 MUTE, 0 (2), 1 weeps, 0 "
            + "(3). UNKNOWN; OUTSIDE.", """
            told land 3;sleep 0 if day 1;frog 1 if day 1;mute 2 if day 1
            act(2, 1, 0) = 0
            person(0, 0..3) = 1 0 0 0
            person(1, 0..3) = 0 1 0 0
            person(2, 0..3) = 0 0 1 1
            person(-1|3|max|min, 0) = UNKNOWN
            person(0, -1|4|max|min) = OUTSIDE
            """);
        says("`int spell(int spell, int what)`: Of a SPELL: KIND (what 0), on whom, or which SPELL it is (1), 1 it HOLDS, 0 (2), 1 "
            + "BOUND, 0 (3), how many TERMS (4), the SPELL that it WAKES (5; NONE). UNKNOWN; OUTSIDE.", """
            told frog 1 if day 5 and day 6;mute 0 if asked 1 wakes 0;bind 0 if day 1 and weep 0 and weep 1 wakes 2
            act(1, 3, 0) = 2
            spell(0, 0..5) = 1 1 1 1 2 NONE
            spell(1, 0..5) = 2 0 0 0 1 0
            spell(2, 0..5) = 3 0 1 0 3 2
            spell(-1|3|max|min, 0) = UNKNOWN
            spell(0, -1|6|max|min) = OUTSIDE
            """);
        says("`int term(int spell, int i, int what)`: Of TERM i of a SPELL: what it is (what 0; 0 .. 7), its number (1), 1 it is so "
            + "now, 0 (2; a KISS never). UNKNOWN (no such TERM); OUTSIDE.", """
            told frog 1 if kiss 0 and whole 1 and asked 3
            term(0, 0..2, 0) = 0 6 7
            term(0, 0..2, 1) = 0 1 3
            term(0, 0..2, 2) = 0 1 0
            3 times act(0, 3, 0) = 0
            act(0, 0, 1) = 1
            term(0, 0..2, 2) = 0 1 1             # the latest deed is that kiss
            term(0, -1|3|max|min, 0) = UNKNOWN
            term(-1|1|max|min, 0, 0) = UNKNOWN
            term(0, 0, -1|3|max|min) = OUTSIDE
            """);
        says("`int as(int spell, int kind)`: A SPELL taken as a KIND (0 .. 5, as they are over one another): how many of its TERMS are "
            + "so now. UNKNOWN; OUTSIDE; NOT: it is none such.", """
            told frog 1 if whole 0 and whole 1 and day 0;bind 0 if kiss 0 and day 1
            as(0, 0..5) = 3 3 NOT 3 NOT NOT
            as(1, 0..5) = 0 NOT NOT NOT NOT 0
            as(0, -1|6|max|min) = OUTSIDE
            as(-1|2|max|min, 0) = UNKNOWN
            told day 1;broken 1
            as(0..1, 0) = 1
            """);
        says("`int laidBy(int spell)`: Which WITCH laid a SPELL. UNKNOWN.", """
            told frog 1 if kiss 0;frog 1 if day 0 and asked 1 and weep 0;frog 1 if whole 0
            laidBy(0..2) = 0 1 2
            laidBy(-1|3|max|min) = UNKNOWN
            """);
    }

    private static void promisesOfDeeds() {
        says("`int can(int person, int sort, int which)`: Whether a DEED can be: one, its sort (0 .. 4), whom or which (of 1, 3, 4 as one "
            + "likes): 1, 0.", """
            told land 3;sleep 0 if day 6;frog 1 if day 6;mute 2 if day 6
            can(0, 0, 1) = 0
            can(0, 1..4, 1) = 0 0 0 1
            can(1, 0..4, 0) = 1 1 0 1 1
            can(2, 0..4, 0) = 1 1 1 0 1
            can(1, 1|3|4, -1|3|max|min) = 1
            """);
        says("UNKNOWN (one, also of a NIGHT; whom, also himself, of 0; which GIFT of 2); OUTSIDE: the sort.", """
            can(-1|2|max|min, 0..4, 0) = UNKNOWN
            can(0, 0, -1|0|2|max|min) = UNKNOWN
            can(0, 2, -1|2|max|min) = UNKNOWN
            can(0, -1|5|max|min, 1) = OUTSIDE
            can(2, 5, 1) = UNKNOWN
            """);
        says("`int act(int person, int sort, int which)`: The DEED is done: SPELLS that were LIFTED by it, by bits.", """
            told mute 0 if weep 1;frog 0 if asked 1;frog 0 if weep 1 wakes 2
            act(1, 1, 0) = 5
            act(1, 3, 0) = 6
            act(1, 2, 1) = 4
            count(2..7) = 4 2 2 0 1 3
            """);
        says("UNKNOWN, OUTSIDE as can(); NOT: it can not be; FULL: 9999 have been.", """
            told sleep 0 if gone 0
            act(-1|2|max|min, 0..4, 0) = UNKNOWN
            act(0, 0, -1|0|2|max|min) = UNKNOWN
            act(0, 2, -1|2|max|min) = UNKNOWN
            act(0, -1|5|max|min, 1) = OUTSIDE
            act(0, 1..3, 1) = NOT
            act(0, 0, 1) = NOT
            count(7) = 0
            """);
        deedsUntilFull();
    }

    /** More calls than a run may have, so what they answer is free; yet no deed may be counted beyond the bound. */
    private static void deedsUntilFull() {
        SevenSpells x = new SevenSpells();
        for (int i = 0; i < 9999; i++) {
            x.act(0, 4, 0);
        }
        RUNS.check(x.act(0, 4, 0) == SevenSpells.FULL && x.count(7) == 9999, "a deed behind the 9999th");
    }

    private static void promisesOfUndoneAndKept() {
        says("`int undo()`: The latest DEED is undone (the last 8 can be): how many can be undone yet. NOT: none.", """
            told mute 0 if weep 1 wakes 0;frog 0 if weep 1
            undo() = NOT
            act(1, 3, 0) = 0
            act(1, 1, 0) = 3
            act(1, 2, 1) = 1
            act(1, 4, 0) = 0
            count(2..8) = 1 2 0 1 1 4 4
            undo() = 3
            count(2..8) = 1 2 2 0 1 3 3
            undo() = 2
            count(2..8) = 1 0 2 0 1 2 2
            undo() = 1
            count(2..8) = 3 0 0 0 1 1 1
            undo() = 0
            count(2..8) = 3 0 0 0 0 0 0
            undo() = NOT
            """, """
            9 times act(0, 4, 0) = 0
            act(0, 1, 0) = 0
            count(4..8) = 1 2 0 10 8
            undo() = 7
            count(4..8) = 0 2 0 9 7
            undo() = 6
            undo() = 5
            undo() = 4
            undo() = 3
            count(5) = 5
            undo() = 2
            undo() = 1
            undo() = 0
            count(4..8) = 0 2 0 2 0
            undo() = NOT
            """);
        says("`int keep(int k)`: All as it is (but what can be undone, what was TRIED, THE ROW, THE QUEUE) is kept (k 0, 1): how many "
            + "DEEDS have been. UNKNOWN: no such k.", """
            told mute 0 if weep 1;frog 0 if day 1
            keep(0) = 0
            act(1, 3, 0) = 0
            act(1, 1, 0) = 1
            act(1, 2, 1) = 0
            keep(1) = 3
            keep(-1|2|max|min) = UNKNOWN
            act(1, 4, 0) = 2
            row(0, 1, 0) = 1
            prince(0, 1, 1) = 1
            tried(NONE, 0, 0, 0, 0) = 1
            back(1) = 3
            count(2..11) = 2 2 2 0 1 3 0 1 1 1
            back(0) = 0
            count(2..11) = 3 0 0 0 0 0 0 1 1 1
            """);
        says("`int back(int k)`: It is as it was kept, nothing can be undone: how many DEEDS had been.", """
            act(0, 1, 0) = 0
            keep(1) = 1
            act(1, 1, 0) = 0
            back(1) = 1
            count(4) = 1
            undo() = NOT
            act(1, 2, 0) = 0
            back(1) = 1                          # as often as one likes
            count(3..4) = 0 1
            """);
        says("UNKNOWN; NOT: nothing was kept since the last text.", """
            back(-1|2|max|min) = UNKNOWN
            back(0..1) = NOT
            keep(0) = 0
            back(0..1) = 0 NOT
            told day 1
            back(0..1) = NOT
            """);
    }

    private static void promisesOfTheForetold() {
        says("`int fewest(int set)`: FEWEST; NONE. UNKNOWN.", """
            told frog 0 if day 3;mute 0 if gone 1;frog 1 if weep 0 and asked 2
            fewest(0..7) = 0 3 NONE NONE 3 6 NONE NONE
            fewest(-1|8|max|min) = UNKNOWN
            """);
        says("`int way(int set, int i, int what)`: WAY: of DEED i (from 0) who (what 0; NONE: NIGHT), its sort (1), whom or which (2; 0 "
            + "of 1, 3, 4); NONE: there are not so many, or none.", """
            told land 3;mute 2 if broken 1 and day 1;frog 0 if kiss 2 and gone 0;sleep 1 if gone 2
            way(3, 0, 0..2) = 2 2 1
            way(3, 1, 0..2) = NONE 4 0
            way(3, 2, 0..2) = 2 0 0
            way(3, 3|max, 0..2) = NONE
            way(4, 0, 0..2) = NONE
            way(0, 0, 0..2) = NONE
            """);
        says("UNKNOWN; OUTSIDE: i below 0, what.", """
            told mute 0 if day 1
            way(-1|2|max|min, 0, 0) = UNKNOWN
            way(1, -1|min, 0) = OUTSIDE
            way(1, 0, -1|3|max|min) = OUTSIDE
            """);
        says("`int helpers(int set, int what)`: HELPERS: how many (what 0), the set (1); NONE. UNKNOWN; OUTSIDE.", """
            told land 3;mute 0 if kiss 2 and weep 0;mute 1 if gone 1;frog 1 if day 1
            helpers(1, 0..1) = 2 5
            helpers(2, 0..1) = NONE
            helpers(4, 0..1) = 0
            helpers(-1|8|max|min, 0) = UNKNOWN
            helpers(1, -1|2|max|min) = OUTSIDE
            """);
        says("`int nights(int set)`: NIGHTS; NONE. UNKNOWN.", """
            told mute 0 if day 4;mute 0 if day 1;frog 0 if gone 0 and day 1;frog 1 if gone 3
            nights(0|1|2|3|4) = 0 4 1 4 8
            nights(8|9) = NONE
            nights(-1|16|max|min) = UNKNOWN
            """);
    }

    private static void promisesOfNeverAndAhead() {
        says("`int never()`: NEVER, by bits.", """
            never() = 0
            told mute 0 if day 0;mute 0 if gone 1;mute 0 if gone 1;mute 0 if gone 0;mute 0 if day 0 and day 1
            never() = 22
            """);
        says("`int ahead(int spell)`: AHEAD, by bits. UNKNOWN; NOT: it does not HOLD, or it is of NEVER.", """
            told frog 0 if weep 0;mute 0 if gone 0 and day 1;bind 1 if broken 0;mute 1 if gone 3
            ahead(0..3) = 0 5 0 NOT
            ahead(-1|4|max|min) = UNKNOWN
            act(0, 1, 0) = 1
            ahead(0..3) = NOT 4 0 NOT
            """);
        says("`int props()`: PROPS, by bits.", """
            props() = 0
            told mute 0 if gone 0;mute 0 if whole 0 and gone 0;mute 0 if gone 1;mute 0 if broken 0 and gone 1
            props() = 6
            act(0, 2, 0) = 0
            props() = 12
            """);
        says("`int gone(int set, int what)`: GONE BEST: which (what 0), FEWEST then (1); NONE. UNKNOWN; OUTSIDE.", """
            told sleep 0 if day 4;sleep 1 if gone 1;frog 0 if weep 1 and holds 1;mute 0 if asked 2
            gone(4, 0..1) = NONE                 # it needs one asleep, and awake
            gone(8, 0..1) = 1 2
            gone(15, 0..1) = NONE
            gone(-1|16|max|min, 0) = UNKNOWN
            gone(1, -1|2|max|min) = OUTSIDE
            """);
        says("`int many(int n)`: MANY. OUTSIDE: n below 0.", """
            told land 1;frog 0 if gone 0;mute 0 if gone 0
            many(0|1|2|6|7|8|max) = 1 2 2 2 1 0 0
            many(-1|min) = OUTSIDE
            """);
        says("`int farthest()`: FARTHEST.", """
            told land 1;frog 0 if gone 0
            farthest() = 14                      # seven questions, six nights, tears
            act(0, 3, 0) = 0
            farthest() = 13
            """);
    }

    private static void promisesOfRowsAndPrinces() {
        says("`int row(int person, int sort, int which)`: A DEED behind THE ROW: how many.", """
            told sleep 0 if gone 0
            row(0, 0, 1) = 1                     # though he can not
            row(1, 0..4, 0) = 2 3 4 5 6
            count(9) = 6
            """);
        says("UNKNOWN, OUTSIDE as can(); FULL.", """
            row(-1|2|max|min, 0..4, 0) = UNKNOWN
            row(0, 0, -1|0|2|max|min) = UNKNOWN
            row(0, 2, -1|2|max|min) = UNKNOWN
            row(0, -1|5|max|min, 1) = OUTSIDE
            12 times row(0, 4, 0)
            row(0, 4, 0) = FULL
            """);
        says("`int burn()`: THE ROW is empty: how many it had.", """
            burn() = 0
            3 times row(0, 4, 0)
            burn() = 3
            count(9) = 0
            burn() = 0
            """);
        says("`int judge(int what)`: JUDGED from now: which (what 0; NONE: all can be), how many SPELLS HOLD behind those ahead (1). "
            + "OUTSIDE.", """
            told mute 0 if day 1;mute 1 if weep 1
            row(1, 1, 0) = 1
            row(1, 3, 0) = 2
            judge(0..1) = NONE 1
            row(0, 3, 0) = 3
            judge(0..1) = 2 1
            act(0, 4, 0) = 1
            judge(0..1) = NONE 0
            judge(-1|2|max|min) = OUTSIDE
            """);
        says("`int prince(int person, int day, int whom)`: A PRINCE behind THE QUEUE: how many.", """
            prince(0, 0, 1) = 1
            prince(1, 6, 0) = 2
            count(10) = 2
            """);
        says("UNKNOWN (also himself); OUTSIDE: the DAY; FULL.", """
            prince(-1|2|max|min, 0, 1) = UNKNOWN
            prince(0, 0, -1|0|2|max|min) = UNKNOWN
            prince(0, -1|7|max|min, 1) = OUTSIDE
            5 times prince(0, 0, 1)
            prince(0, 0, 1) = FULL
            """);
        says("`int dismiss()`: THE QUEUE is empty: how many it had.", """
            dismiss() = 0
            4 times prince(0, 0, 1)
            dismiss() = 4
            count(10) = 0
            dismiss() = 0
            """);
        says("`int inLine(int what)`: IN LINE: how many are LIFTED (what 0), NIGHTS waited (1). OUTSIDE.", """
            told day 6;frog 0 if kiss 1;mute 0 if day 0
            prince(1, 2, 0) = 1
            inLine(0..1) = 2 3
            prince(1, 1, 0) = 2
            inLine(0..1) = 2 9
            inLine(-1|2|max|min) = OUTSIDE
            """);
    }

    private static void promisesOfTheSecretSpell() {
        says("`int tried(int kisser, int weepers, int day, int broken, int lifted)`: TRIED: who kissed (NONE), who wept (bits), the DAY, "
            + "GIFTS that were broken (bits), LIFTED (1, 0): how many.", """
            tried(NONE, 0, 0, 0, 0) = 1
            tried(1, 3, 6, 3, 1) = 2
            count(11) = 2
            """);
        says("UNKNOWN (one; bits); OUTSIDE; FULL.", """
            tried(-2|2|max|min, 0, 0, 0, 0) = UNKNOWN
            tried(0, -1|4|max|min, 0, 0, 0) = UNKNOWN
            tried(0, 0, 0, -1|4|max|min, 0) = UNKNOWN
            tried(0, 0, -1|7|max|min, 0, 0) = OUTSIDE
            tried(0, 0, 0, 0, -1|2|max|min) = OUTSIDE
            8 times tried(0, 0, 0, 0, 0)
            tried(0, 0, 0, 0, 0) = FULL
            """);
        says("`int forget()`: Nothing was TRIED: how many there were.", """
            forget() = 0
            3 times tried(0, 0, 0, 0, 1)
            forget() = 3
            count(11) = 0
            mayBe(0) = 120
            """);
        says("`int mayBe(int what)`: MAY BE: how many (what 0), of the first what its TERMS are: what (1), number (2), what (3; NONE), "
            + "number of its second one (4; NONE).", """
            tried(1, 0, 5, 3, 1) = 1
            tried(0, 0, 5, 3, 0) = 2             # KISS 1, alone or with DAY 5, BROKEN 0, BROKEN 1
            mayBe(0..4) = 4 0 1 NONE NONE
            tried(1, 0, 5, 0, 0) = 3
            mayBe(0..4) = 2 0 1 5 0
            """);
        says("OUTSIDE; NOT: there is none (not of 0).", """
            mayBe(-1|5|max|min) = OUTSIDE
            tried(1, 0, 5, 3, 1) = 1
            tried(1, 0, 5, 3, 0) = 2
            mayBe(0..4) = 0 NOT NOT NOT NOT
            mayBe(-1|5) = OUTSIDE
            """);
        says("`int next()`: NEXT; NONE.", """
            tried(NONE, 0, 2, 3, 1) = 1
            tried(NONE, 0, 3, 3, 0) = 2          # DAY 2, alone or with BROKEN 0, BROKEN 1
            next() = 2
            tried(NONE, 0, 2, 3, 0) = 3
            next() = NONE
            """);
        says("`int count(int what)`: 0 PEOPLE, 1 SPELLS, 2 those that HOLD, by bits, 3 GIFTS broken, by bits, 4 who weeps, by bits, 5 the "
            + "DAY, 6 ASKED, 7 DEEDS, 8 how many can be undone, 9 THE ROW, 10 THE QUEUE, 11 TRIED, 12 letters of THE TEXT. OUTSIDE.", """
            told land 3;day 4;frog 0 if asked 1;frog 1 if day 6;frog 2 if gone 2
            9 times act(0, 0, 1) = 0
            act(1..2, 3, 0) = 1 0
            act(0, 2, 1) = 0
            act(1..2, 1, 0) = 0
            6 times row(0, 1, 2)
            4 times prince(0, 1, 2)
            7 times tried(NONE, 0, 0, 0, 0)
            text 'a text'
            count(0..12) = 3 3 6 2 6 4 2 14 8 6 4 7 6
            count(-1|13|max|min) = OUTSIDE
            """);
    }

    private static void notPromised() {
        says("How the state is held inside the object is free, as are the speed of each call, the text of toString and the behaviour of "
            + "equals and hashCode.");
        says("Use of one object from several threads at once is not promised to be safe.");
        says("Nothing is promised beyond the answers and state changes described above, and nothing about an object after its 512th "
            + "call.");
    }
}

import java.util.ArrayList;
import java.util.List;

/**
 * What each call changes, and that it changes nothing else: in an object with some of everything one
 * call (or a few that belong together) is made, then all is asked that can be asked; the Model hears
 * the same and is to answer alike. Calls that only ask are among them, as they are to change nothing.
 */
public final class EachCallTest {
    /** Some of everything; PERSON 3 is QUARRELLED (a CLASH), 5 too (a GAP), 6 is dead. */
    private static final String WORLD = """
        say to 1 if kids>0
        rule 0 1 3 0 0
        say holds if goods>1
        rule 0 2 5 10 3
        say owed 30 unless age<2
        rule 0 3 2 0 0
        say void
        rule 1 1 1 0 0
        say holds if house=2
        rule 1 1 1 0 0
        say void if oath=1
        rule 5 4 4 0 0
        say to 3 if oath=0
        rule 5 4 4 0 0
        say owed 5 if what=2
        rule 5 5 1 0 0
        district 0 10; district 1 7; district 0 3
        deed 0 8; deed 1 4; deed 2 1535
        days 20
        carried 1 25; carried 2 20; strike 2 30; fall 1; courts 1
        deed 0 0; deed 1 1; deed 2 1535
        heard 0 388 1; heard 0 0 200; heard 1 7 1; heard 1 7 0; heard 2 1535 199
        person 0 -1 3 1 0 350; person 0 0 1 1 0 50; person 0 0 1 0 1 101; person 1 0 0 2 1 7
        person 0 1 0 0 0 3; person 0 0 0 0 0 9; person 1 1 0 0 0 40
        die 3; die 5; die 6
        say holds if oath=1
        way 0 5
        say to 1 if kids>0
        way 0 5
        say holds
        way 3 0
        line 5; line 3; line 2; section; section; section
        like 0 0 -5; like 0 1 3; like 1 1 -4; like 1 2 3; like 2 0 -1; like 2 2 -9
        teach 0 0 4; teach 0 1 10; teach 1 0 2; teach 1 1 9; teach 2 2 0; teach 1 2 2
        sheet 0 1 9; cell 0 0 1; cell 0 1 2; cell 0 3 3; cell 0 4 1; cell 0 5 2; cell 0 6 203
        sheet 1 1 7; cell 1 2 1
        act 7 2 4
        say void if age
        """;

    private static final String CHANGES = """
        days 1
        days 5
        days 400
        feed 0 0
        feed 15664 2
        say =2
        say =1;rule 0 1 9 0 0
        say =1;rule 0 2 3 0 2
        say =1;rule 0 3 0 40 0
        say =1;rule 1 3 1 0 0
        say =1;rule 4 1 0 0 0
        say =1;rule 5 4 9 0 0
        say =1;rule 5 5 1 0 0
        rule 0 1 9 0 0
        rule 0 1 10 0 0
        strike 0 0
        strike 1 20
        strike 3 21
        strike 5 3999
        strike 7 19
        strike 2 0
        fall 1
        fall 1;fall 1
        fall 0
        ruleOf 1 6
        fits 1 1535
        answer 0 8 20 20
        why 0 8 20 20 0
        district 0 1
        district 1 99
        district 4 5
        carried 0 20
        carried 0 30
        carried 1 20
        law 0 8 19 30 20
        law 2 8 19 30 20
        deed 0 8
        deed 2 0
        deedEnd 2 20 20
        lost -1 0
        lost 2 1
        courts 0
        courts 2
        court 0 1 8 20
        unlike 0 5 0
        unlike 0 1 1
        unlike 1 5 2
        wrong 1 0 2
        wrong 5 1 0
        heard 0 0 201
        heard 1 8 0
        heard 2 4 1
        read 0 0 1 0
        read 2 1 1 0
        read 1 0 1 1
        left 0
        form 1 1
        parts 0 0
        parts 2 1
        quarrel 1 0
        quarrel 1 1
        say =1;moves 0 0
        say =1;moves 5 1
        say =1;moves 3 2
        moves 0 0
        person 0 -1 0 0 0 0
        person 1 0 3 2 1 9999
        person 2 6 1 1 1 100
        goes 0 1
        goes 1 2
        goes 2 0
        goes 3 0
        die 0
        die 1
        die 2
        die 4
        die 4;die 1;die 0
        goes 0 1;die 0
        goes 1 2;die 1
        settle 3
        settle 5
        say =1;rule 0 1 9 0 0;settle 5
        strike 4 0;settle 3
        days 5;settle 3
        days 30;settle 3;settle 5
        personOf 0 5
        chest -1
        chest 0
        say =1;way 0 9
        say =1;way 1 4
        say =1;way 3 0
        say =1;way 4 9
        way 0 0
        keeps 0
        keeps 1
        near 0
        near 1
        line 0
        line 99
        section
        like 0 0 9
        like 2 1 -9
        yes 1
        least 0
        least 1
        teach 0 0 12
        teach 2 0 3
        teach 1 1 99
        teach 2 1 1
        teach 1 2 0
        teach 1 2 -1
        teach 2 2 -1
        teach 0 2 2
        waits
        taught 1
        act 5 1 3
        act 1 0 -7
        act 8 0 0
        act 0 3 0
        trace 3
        taken 7 1
        count 5
        sheet 0 1 9
        sheet 0 2 7
        sheet 2 0 40
        sheet 1 -1 0
        sheet 1 1 41
        cell 0 2 2
        cell 0 6 70000
        cell 0 8 0
        cell 1 6 1
        copy 0 0 0 2 7
        copy 0 0 1 0 7
        copy 1 2 0 5 3
        copy 0 2 0 0 7
        copy 0 0 1 1 7
        """;

    private static final List<String> QUESTIONS = new ArrayList<>();

    public static void main(String[] args) throws Exception {
        whatIsThere();
        whatIsLaw();
        whatIsCounted();
        whatComes();
        for (String change : CHANGES.split("\n")) {
            for (int asked = 0; asked < QUESTIONS.size(); ) {
                Both both = new Both(change);
                both.hear(WORLD);
                both.hear(change);
                while (asked < QUESTIONS.size() && both.hasRoomFor(QUESTIONS.get(asked).split(";").length)) {
                    both.hear(QUESTIONS.get(asked));
                    asked++;
                }
            }
        }
        Due.end();
    }

    /** For each number from low to high in place of the "%". */
    private static void each(String question, int low, int high) {
        for (int i = low; i <= high; i++) {
            QUESTIONS.add(question.replace("%", Integer.toString(i)));
        }
    }

    private static void whatIsThere() {
        each("count %", 0, 12);
        each("trace %", 0, 9);
        for (int what = 0; what <= 7; what++) {
            each("ruleOf % " + what, 0, 8);
        }
        for (int what = 0; what <= 5; what++) {
            each("personOf % " + what, 0, 7);
        }
        each("chest %", -1, 3);
        each("fits % 100", 0, 8);
        each("taken % 4", 0, 8);
    }

    private static void whatIsLaw() {
        int[] sorts = {0, 8, 102, 1535};
        String[] days = {"0 0", "19 19", "20 20", "20 19", "25 25", "30 20", "30 60"};
        for (int sort : sorts) {
            for (String day : days) {
                each("answer % " + sort + " " + day, 0, 5);
            }
            each("why 0 " + sort + " 20 20 %", 0, 2);
            each("law % " + sort + " 0 0 0", 0, 3);
            each("law % " + sort + " 20 25 20", 0, 3);
            each("law % " + sort + " 24 30 20", 0, 3);
            each("court 0 % " + sort + " 20", 1, 3);
            each("court % 2 " + sort + " 19", 0, 1);
        }
        each("deedEnd % 20 20", 0, 6);
        each("deedEnd % 40 30", 0, 6);
        each("lost % 0", -1, 3);
        each("lost % 1", -1, 3);
    }

    private static void whatIsCounted() {
        each("unlike 0 1 %", 0, 2);
        each("unlike 0 5 %", 0, 2);
        each("wrong 0 1 %", 0, 2);
        each("wrong 1 0 %", 0, 2);
        each("wrong % 0 0", 0, 5);
        each("wrong % 1 0", 0, 5);
        each("left %", 0, 3);
        each("form 0 %", 0, 6);
        each("parts % 0", 0, 3);
        each("parts % 1", 0, 3);
        each("quarrel % 0", 0, 3);
        each("quarrel % 1", 0, 3);
        each("moves 0 %", 0, 2);
        each("moves 6 %", 0, 2);
        each("keeps %", 0, 5);
        each("keeps %", 64, 66);
        each("near %", 0, 1);
        each("yes %", 0, 8);
        each("least %", 0, 1);
        QUESTIONS.add("waits");
        each("taught %", 0, 3);
    }

    /** These change what they ask of; a few belong together. */
    private static void whatComes() {
        for (int line = 0; line <= 3; line++) {
            each("like % " + line + " 1", 0, 3);
        }
        each("teach % 2 -1;teach % 0 2;teach % 1 7", 0, 3);
        QUESTIONS.add("waits");
        each("taught %", 0, 3);
        for (int sheet = 0; sheet <= 2; sheet++) {
            each("read 0 " + sheet + " % 2;read 0 " + sheet + " % 0;count 2", 0, 2);
            each("copy " + sheet + " % " + sheet + " % 1", 5, 9);
        }
        each("left %", 0, 2);
        each("form 0 %", 0, 30);
        each("quarrel 0 %", 0, 1);
        QUESTIONS.add("heard 0 388 1;heard 0 0 200;heard 0 606 203;quarrel 0 0;heard 0 606 1;quarrel 0 0;quarrel 0 1;heard 1 7 0;quarrel 1 1");
        QUESTIONS.add("heard 2 1535 199;quarrel 2 0;heard 2 1535 0;quarrel 2 0;quarrel 2 1");
        QUESTIONS.add("courts 2");
        QUESTIONS.add("say =3;count 9;moves 4 0;way 2 1;count 9;keeps 0;near 0;near 1");
        QUESTIONS.add("say void;rule 0 1 9 0 0;answer 0 0 20 30;why 0 0 400 400 0;lost 0 0;lost 0 1");
        each("goes % 1;settle %;personOf % 4", 0, 7);
        each("die %;personOf % 2;chest -1", 0, 7);
        each("chest %", 0, 3);
        each("person 0 % 1 1 1 1;deed % 3;heard % 3 0;carried % 3000", 0, 3);
        QUESTIONS.add("line 1;section;district 2 2;district 3 3;act 1 2 3;count 11");
        each("fall %;strike % 3000;ruleOf % 6", 0, 8);
        QUESTIONS.add("days 1;days 400;lost -1 0;wrong 0 1 0;near 0;count 6");
    }
}

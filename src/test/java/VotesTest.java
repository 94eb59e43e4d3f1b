import java.util.ArrayList;
import java.util.List;

/** All the ballots that some jurors can cast over three films, counted by each rule and compared with the model. */
public final class VotesTest {
    private static final int[] STRANGERS = {9, 9, 9, 9, 9};
    private static int wrong = 0;

    private final Juryreel real = new Juryreel();
    private final Model model = new Model();

    public static void main(String[] args) {
        allOf("one juror", 0, 9);
        allOf("three jurors", 0, 9, 9, 9);
        allOf("four jurors", 0, 9, 9, 9, 9);
        allOf("five jurors", 0, STRANGERS);
        allOf("the last three films", 17, 9, 9, 9);
        allOf("jurors of the films' lands", 0, 0, 1, 2);
        allOf("jurors of the films' lands and others", 0, 0, 1, 2, 9, 9);
        allOf("two of a film's land", 0, 0, 0, 1, 9);
        Check.end();
    }

    /** Goes through all ballots of the jurors, who are of these lands; film i is of land i behind the first one. */
    private static void allOf(String what, int first, int... lands) {
        List<int[][]> choices = new ArrayList<>();
        int many = 1;
        for (int land : lands) {
            int[][] ballots = ballotsOf(first, land);
            choices.add(ballots);
            many *= ballots.length;
        }
        wrong = 0;
        for (int i = 0; i < many; i++) {
            VotesTest votes = new VotesTest(first, lands);
            int rest = i;
            for (int juror = 0; juror < lands.length; juror++) {
                int[][] ballots = choices.get(juror);
                votes.cast(juror, ballots[rest % ballots.length]);
                rest /= ballots.length;
            }
            votes.compare();
            votes.withdraw(first + i % 3);
            votes.compare();
        }
        Check.same(what + ", wrong winners of " + many, wrong, 0);
    }

    private static int[][] ballotsOf(int first, int land) {
        int[][] all = {{0, 1, 2}, {0, 2, 1}, {1, 0, 2}, {1, 2, 0}, {2, 0, 1}, {2, 1, 0}};
        List<int[]> ballots = new ArrayList<>();
        for (int[] order : all) {
            if (land > 2 || order[2] == land) {
                int[] ballot = new int[land > 2 ? 3 : 2];
                for (int i = 0; i < ballot.length; i++) {
                    ballot[i] = first + order[i];
                }
                ballots.add(ballot);
            }
        }
        return ballots.toArray(new int[0][]);
    }

    private VotesTest(int first, int[] lands) {
        real.reader(9);
        model.reader(9);
        real.section(3, 100, 0, '-', '-');
        model.section(3, 100, 0, '-', '-');
        real.screen(1, true);
        model.screen(1, true);
        for (int land : lands) {
            real.juror(0, land);
            model.juror(0, land);
        }
        for (int i = 0; i < first + 3; i++) {
            real.film('f', 10, Math.max(0, i - first));
            model.film('f', 10, Math.max(0, i - first));
        }
        for (int i = first; i < first + 3; i++) {
            addRead(i);
        }
        real.choose(0);
        model.choose(0);
        for (int i = first; i < first + 3; i++) {
            seeAll(i, lands.length);
        }
    }

    private void addRead(int film) {
        real.deal(film, 1);
        model.deal(film, 1);
        real.read(film, 0, 50);
        model.read(film, 0, 50);
        real.print(film, 'r', 0);
        model.print(film, 'r', 0);
    }

    private void seeAll(int film, int jurors) {
        int show = real.show(film, 0, real.now());
        model.show(film, 0, model.now());
        for (int juror = 0; juror < jurors; juror++) {
            real.see(0, juror, show);
            model.see(0, juror, show);
        }
        real.go(1);
        model.go(1);
    }

    private void cast(int juror, int[] ballot) {
        for (int film : ballot) {
            real.type(film);
            model.type(film);
        }
        real.rank(0, juror);
        model.rank(0, juror);
    }

    private void withdraw(int film) {
        real.withdraw(film);
        model.withdraw(film);
    }

    private void compare() {
        for (char rule : new char[] {'m', 'b', 'c', 'r'}) {
            real.rule(0, rule);
            model.rule(0, rule);
            Object due = Check.answer(() -> model.winner(0));
            if (!Check.answer(() -> real.winner(0)).equals(due) || !real.isSound()) {
                wrong++;
            }
        }
    }
}

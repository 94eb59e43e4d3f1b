import java.io.IOException;
import java.nio.file.Files;
import java.nio.file.Path;
import java.util.ArrayList;
import java.util.HashMap;
import java.util.List;
import java.util.Map;
import java.util.regex.Matcher;
import java.util.regex.Pattern;

/**
 * Which tests each sentence of DOC.md has, from its first line to the last promise. A sentence of the document that is
 * not told here fails, and so does one told here that the document has not, or a test that is not there.
 * The arguments and the "Throws" rows of the promises are told in BoundsTest and ThrowsTest in the same way.
 */
public final class SentencesTest {
    private static final String TERMS = """
        A festival of films over ten days | FaceTest.readFace RandomRunsTest.run StoresTest.allFull ReadAgainTest.aFurtherReader
        An object is used for at most 512 calls | RandomRunsTest.run RoomTest.keepsItsRoom
        The grid keeps what was promised | RandomRunsTest.run SoundTest.screens VotesTest.allOf
        Films, readers, sections, screens, prints, passes and jurors are told | StoresTest.toldChangesSomething StoresTest.questionsChangeNothing
        At most 20 films | StoresTest.films FilmsTest.films BoundsTest.films
        At most 8 readers | StoresTest.readers FilmsTest.readers TermsTest.conflictIsOfTheSameLand
        A film is dealt to so many readers | TermsTest.dealtTheFewestFilms TermsTest.dealtToThoseWhoHaveItNot StoresTest.deals FilmsTest.dealsTheFewestFirst
        A reader who was dealt a film tells one score | TermsTest.oneScoreOfEachFilm FilmsTest.reads
        The even score of it | TermsTest.meanIsCut TermsTest.meanIsByNow FilmsTest.evens
        The score of a film is the mean | TermsTest.scoreIsCutTowardZero FilmsTest.scores
        A film is in quarrel | TermsTest.quarrelIsMoreThanThirty TermsTest.quarrelOfOneOrNone ReadAgainTest.quarrelEndsByTheMean
        At most 5 sections | StoresTest.sections SectionsTest.sections BoundsTest.sections
        Premieres are, from the greatest | TermsTest.premieresAreAtLeastTheLeast TermsTest.promiseIsBroken
        What a film still is | TermsTest.whatAFilmStillIs TermsTest.ownShowsAside FilmsTest.rivals
        To choose for a section | TermsTest.higherScoresThenLowerNumbers TermsTest.chosenStays TermsTest.quarrelIsMoreThanThirty TermsTest.formFits \
            TermsTest.leastScore TermsTest.premieresAreAtLeastTheLeast StoresTest.quotas TermsTest.budget
        A film that is chosen stays so | TermsTest.chosenStays SectionsTest.sectionsOfFilms
        Its promise is the least premiere | TermsTest.promiseIsBroken SectionsTest.promises SectionsTest.broken
        There are the hours 0 to 49 | TermsTest.fiveHoursADay StoresTest.hours GridTest.hours FilmsTest.newObject
        At most 4 screens | StoresTest.screens PrintsTest.screens TermsTest.reelsAndDrives
        A film has at most one print | TermsTest.newPrint PrintsTest.newPrintTakesThePlace
        A key is of a film's drive | TermsTest.keyOpensOneScreenAtSomeHours StoresTest.keys ReadAgainTest.keysBelongToAFilm
        A film can be shown on a screen at an hour if | TermsTest.printComesByTheHour TermsTest.reelsAndDrives PrintsTest.canShow
        A show is of a film that was chosen | TermsOfGridTest.lengths GridTest.showArguments StoresTest.showsOneByOne
        It is set if | TermsOfGridTest.notBeforeThePresentHour TermsTest.fiveHoursADay TermsOfGridTest.onOneDay TermsOfGridTest.screenIsFree \
            TermsOfGridTest.shownInEachHour TermsOfGridTest.ownShowsElsewhere TermsOfGridTest.showsOfTheSection
        To plan a section | TermsOfGridTest.planOfThoseWithNoneToCome GridTest.planWithShowsNow TermsOfGridTest.planLongerFirst \
            TermsOfGridTest.planFirstHourThenLowestScreen GridTest.planTakesTheFirstPlace
        A show is over when | TermsOfGridTest.statesByTheHour GridTest.states ChangesTest.withdraws
        A storm on a day | TermsOfGridTest.stormTakesThoseToComeOnTheDay TermsOfGridTest.lateTakesThoseBefore TermsOfGridTest.lateOfAKind ChangesTest.withdraws
        What was taken away | TermsOfGridTest.anewFromThePresentHour TermsOfGridTest.anewByNumbers ChangesTest.stormTakesAllFirst \
            TermsOfGridTest.waitingMovesInOrder ReadAgainTest.lateMovesThoseThatWait ReadAgainTest.movedTwice ReadAgainTest.eachShowHasItsOwnWaiting
        Storms are remembered | StoresTest.storms ReadAgainTest.nothingIsSetOnAStormyDay ReadAgainTest.shownOnOtherDaysThanStormy
        At most 16 passes | StoresTest.passes PassesTest.passes
        A pass waits for a show | TermsOfGridTest.waitsForOneToCome StoresTest.waiting PassesTest.joins
        When a show is opened | TermsOfGridTest.opensByItsFirstHour PassesTest.ranks StoresTest.seats TermsOfGridTest.leftOutInOneOfItsHours \
            PassesTest.seatsOfShowsGone ReadAgainTest.seatBeforeAndBehindAMove
        A section has a rule | JuriesTest.rules StoresTest.jurors JuriesTest.jurors
        A juror sees a show | TermsOfGridTest.seesWhatIsNow TermsOfGridTest.seesOneShowAnHour JuriesTest.sees
        A juror ranks all films | JuriesTest.ranks JuriesTest.ranksWithoutOwnLand ReadAgainTest.rankedAgainAsFilmsGoAndCome
        The ballots count the films | JuriesTest.withdrawnFilms ReadAgainTest.chosenBehindTheBallots StoresTest.nineOnABallot
        By 'm' the film with the most first places wins | JuriesTest.mostFirstPlaces JuriesTest.points JuriesTest.duels JuriesTest.rounds \
            JuriesTest.roundsThatRunOut TermsOfGridTest.moreThanHalf VotesTest.allOf
        Of like ones the lower number wins | JuriesTest.mostFirstPlaces JuriesTest.points VotesTest.allOf
        The rights of a film in a land | TermsOfGridTest.months RightsTest.sells RightsTest.owners StoresTest.sold
        Each film chosen | TermsOfGridTest.linesByLetter RightsTest.lines RightsTest.fourHundredLines
        A method that throws an exception changes nothing | ThrowsTest.row BoundsTest.othersChangeNothing StoresTest.toldChangesSomething
        If several conditions of a method apply | ThrowsTest.both ThrowsTest.allOfTheDocument
        Examples: each one begins with a new object | ExamplesTest.first ExamplesTest.second ExamplesTest.third
        - film('f', 90, 1) = 0 | ExamplesTest.first
        - film('s', 20, 1) = 0 | ExamplesTest.second
        - film('d', 60, 1) = 0 | ExamplesTest.third
        """;

    private static final String PROMISES = """
        1: Creates a festival without films | FilmsTest.newObject
        2: Adds a film | FilmsTest.films StoresTest.films
        2: Returns its number | FilmsTest.films StoresTest.films
        3: Adds a reader | FilmsTest.readers StoresTest.readers
        3: Returns the number | FilmsTest.readers
        4: Deals a film to readers | FilmsTest.deals StoresTest.deals
        4: Returns how many have it then | FilmsTest.deals TermsTest.dealtToThoseWhoHaveItNot
        5: Returns whether a reader was dealt a film | FilmsTest.deals TermsTest.dealtTheFewestFilms
        5: Returns whether so | FilmsTest.deals
        6: Tells a score | FilmsTest.reads TermsTest.oneScoreOfEachFilm
        6: Returns how many scores the film has | FilmsTest.reads
        7: Returns the even score of a reader | FilmsTest.evens TermsTest.meanIsByNow
        7: Returns the even score. | FilmsTest.evens
        8: Returns the score of a film | FilmsTest.scores TermsTest.scoreIsCutTowardZero
        8: Returns the score. | FilmsTest.scores
        9: Returns whether a film is in quarrel | FilmsTest.quarrels TermsTest.quarrelIsMoreThanThirty
        9: Returns whether it is | FilmsTest.quarrels
        10: Tells that a film was shown elsewhere | FilmsTest.rivals
        10: Returns what the film still is | FilmsTest.rivals TermsTest.whatAFilmStillIs
        11: Adds a section | SectionsTest.sections StoresTest.sections
        11: Returns its number | SectionsTest.sections
        12: Chooses films for a section | SectionsTest.choosesBetterFilmsFirst SectionsTest.choosesWithinTheBudget SectionsTest.leavesQuarrels
        12: Returns how many are chosen by that | SectionsTest.choosesByFormScoreAndPremiere StoresTest.quotas
        13: Returns the section of a film | SectionsTest.sectionsOfFilms
        13: Returns the section. | SectionsTest.sectionsOfFilms
        14: Returns how many minutes the films of a section have | SectionsTest.choosesBetterFilmsFirst TermsTest.budget
        14: Returns the minutes | StoresTest.quotas
        15: Gives a promise up in writing | SectionsTest.promises
        15: Returns the promise before | SectionsTest.promises TermsTest.promiseIsBroken
        16: Returns whether the promise of a film is broken | SectionsTest.broken TermsTest.promiseIsBroken
        16: Returns whether it is | SectionsTest.broken
        17: Adds a screen | PrintsTest.screens StoresTest.screens
        17: Returns its number | PrintsTest.screens
        18: Tells the print of a film | PrintsTest.prints
        18: Returns whether there was one | PrintsTest.prints TermsTest.newPrint
        19: Tells a key | PrintsTest.keys
        19: Returns how many keys there are | PrintsTest.keys StoresTest.keys
        20: Returns whether a film can be shown, be the screen free or not | ReadAgainTest.canShowBeItFreeOrNot PrintsTest.canShow
        20: Returns whether it can | PrintsTest.canShow
        21: Sets a show | GridTest.showNeedsPlace GridTest.showsOfOneSection GridTest.showKeys
        21: Returns its number | GridTest.sixtyShows
        22: Plans a section | GridTest.plans GridTest.planTakesTheFirstPlace
        22: Returns how many shows are set | GridTest.plans GridTest.planOfTooMany StoresTest.showsByPlan
        23: Returns something of a show | GridTest.parts BoundsTest.partsOfShows
        23: Returns the number | GridTest.parts
        24: Returns the state of a show | GridTest.states TermsOfGridTest.statesByTheHour
        24: Returns the letter | GridTest.states
        25: Returns the show on a screen at an hour | GridTest.at TermsOfGridTest.lengths
        25: Returns the show. | GridTest.at
        26: Lets hours go by | GridTest.hours
        26: Returns the hour then | GridTest.hours StoresTest.hours
        27: Returns the hour | GridTest.hours FilmsTest.newObject
        27: Returns the hour | GridTest.hours StoresTest.hours
        28: Tells a storm | ChangesTest.stormMovesShows ChangesTest.stormTakesAllFirst
        28: Returns how many shows are gone, whether set anew or not | ChangesTest.stormWithoutPlace ChangesTest.stormOfTooMany
        29: Tells that a print is late | ChangesTest.lateMovesShows ChangesTest.lateByPrintsAndKeys
        29: Returns how many shows are gone, whether set anew or not | ChangesTest.lateMovesShows TermsOfGridTest.lateTakesThoseBefore
        30: Withdraws a film | ChangesTest.withdraws ReadAgainTest.withdrawnIsStillAFilm
        30: Returns how many shows are gone | ChangesTest.withdraws
        31: Adds a pass | PassesTest.passes
        31: Returns its number | PassesTest.passes
        32: Lets a pass wait for a show | PassesTest.joins TermsOfGridTest.waitsForOneToCome
        32: Returns how many wait | PassesTest.joins StoresTest.waiting
        33: Opens a show | PassesTest.opens TermsOfGridTest.opensByItsFirstHour
        33: Returns how many get seats | PassesTest.ranks StoresTest.seats
        34: Returns whether a pass has a seat at a show | PassesTest.ranks PassesTest.seatsOfShowsGone
        34: Returns whether it has | PassesTest.leavesOutThoseSeated
        35: Adds a juror | JuriesTest.jurors
        35: Returns the number | JuriesTest.jurors StoresTest.jurors
        36: Tells the rule of a jury | JuriesTest.rules
        36: Returns the one before | JuriesTest.rules
        37: Lets a juror see a show | JuriesTest.sees JuriesTest.seesOneShowAnHour
        37: Returns how many films of the section this one saw | JuriesTest.sees JuriesTest.seesOneShowAnHour StoresTest.nineOnABallot
        38: Types a film for a ballot | JuriesTest.types
        38: Returns how many are typed | JuriesTest.types StoresTest.typed
        39: Wipes the typed films | JuriesTest.types
        39: Returns how many there were | JuriesTest.types StoresTest.typed
        40: Takes the typed films | JuriesTest.ranks JuriesTest.ranksWithoutOwnLand
        40: Returns how many ballots the section has | JuriesTest.ranks StoresTest.ballots
        41: Returns the winner of a section by its rule and the ballots | JuriesTest.points JuriesTest.withdrawnFilms VotesTest.allOf
        41: Returns the film | JuriesTest.mostFirstPlaces
        42: Gives the prize of a section to the winner, once | JuriesTest.awards ReadAgainTest.prizeIsGivenByTheRuleThen
        42: Returns the film | JuriesTest.awards
        43: Sells rights | RightsTest.sells RightsTest.fortyDeals
        43: Returns how many deals there are | RightsTest.sells StoresTest.sold
        44: Returns who has the rights | RightsTest.owners TermsOfGridTest.months
        44: Returns the buyer | RightsTest.owners
        45: Returns a line of the archive | RightsTest.lines TermsOfGridTest.linesByLetter
        45: Returns the number | RightsTest.lines RightsTest.fourHundredLines
        46: Returns a sum over all shows | RightsTest.checksums
        46: Returns 7 at first | RightsTest.checksums StoresTest.checksumWrapsAround
        47: Returns the share of films | RightsTest.shares TermsOfGridTest.sharesByState
        47: Returns their number divided | RightsTest.shares TermsOfGridTest.sharesByState
        48: Returns the mean score of films | RightsTest.means
        48: Returns the sum divided | RightsTest.means
        49: Checks the festival | SoundTest.screens SoundTest.sections SoundTest.quotas SoundTest.seats SoundTest.seatsOfOnePass \
            SoundTest.winners SoundTest.winnersThatDiffer SoundTest.rights
        49: Returns whether all of this holds | RightsTest.sound SoundTest.screens
        """;

    private static final Map<String, String> TEXTS = new HashMap<>();

    public static void main(String[] args) throws IOException {
        String doc = Files.readString(Path.of("../shared/DOC.md"));
        List<String> terms = sentences(between(doc, "## What it is\n", "## The public face\n"));
        terms.addAll(sentences(between(doc, "## Terms\n", "## Promise 1: ")));
        terms.removeIf(sentence -> sentence.matches("[A-Z][a-z]+( [a-z]+){0,2}\\."));
        compare(terms, TERMS);
        compare(ofPromises(between(doc, "## Promise 1: ", "## Not promised\n")), PROMISES);
        Check.end();
    }

    private static String between(String doc, String first, String last) {
        return doc.substring(doc.indexOf(first) + first.length(), doc.indexOf(last));
    }

    private static List<String> sentences(String text) {
        List<String> all = new ArrayList<>();
        for (String line : text.lines().toList()) {
            if (!line.isBlank()) {
                all.addAll(List.of(line.split("(?<=\\.) (?=[A-Z])")));
            }
        }
        return all;
    }

    /** What each promise does and what it returns, behind its number. */
    private static List<String> ofPromises(String text) {
        List<String> all = new ArrayList<>();
        int promise = 1;
        for (String line : text.lines().toList()) {
            if (line.startsWith("## Promise ")) {
                promise = Integer.parseInt(line.replaceAll("## Promise (\\d+):.*", "$1"));
            } else if (line.startsWith("`")) {
                all.add(promise + ": " + line.substring(line.indexOf("`: ") + 3));
            } else if (line.startsWith("Returns ")) {
                all.add(promise + ": " + line);
            }
        }
        return all;
    }

    /** Each sentence has a row in its turn, and each test that the row names is there and is called. */
    private static void compare(List<String> sentences, String table) throws IOException {
        List<String> rows = table.lines().toList();
        Check.same("as many rows as sentences", rows.size(), sentences.size());
        for (int i = 0; i < rows.size() && i < sentences.size(); i++) {
            String[] row = rows.get(i).split(" \\| ");
            Check.same(sentences.get(i) + " has the row " + row[0], sentences.get(i).startsWith(row[0]), true);
            for (String test : row[1].trim().split(" +")) {
                Check.same(test + " is there and is called", isThere(test), true);
            }
        }
    }

    private static boolean isThere(String test) throws IOException {
        int dot = test.indexOf('.');
        Path file = Path.of("src/test/java", test.substring(0, dot) + ".java");
        if (!Files.isRegularFile(file)) {
            return false;
        }
        if (!TEXTS.containsKey(test.substring(0, dot))) {
            TEXTS.put(test.substring(0, dot), Files.readString(file));
        }
        Matcher named = Pattern.compile("\\b" + test.substring(dot + 1) + "\\(").matcher(TEXTS.get(test.substring(0, dot)));
        int many = 0;
        while (named.find()) {
            many++;
        }
        return many > 1;
    }
}

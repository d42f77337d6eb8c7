/** The edges of WHO and FRIENDS, promises 16 to 21: what each sentence of the document names has a test of its own. */
public final class WhoEdgesTest {
    private static final int MAX = Integer.MAX_VALUE, MIN = Integer.MIN_VALUE;
    private static final int[] NO_BEARERS = {-1, 6, MIN, MAX};
    private static final int[] NOT_0_TO_22 = {-1, 23, MIN, MAX};
    /** 4 to the powers 0 to 22, modulo 47, counted by hand. */
    private static final int[] POWERS = {1, 4, 16, 17, 21, 37, 7, 28, 18, 25, 6, 24, 2, 8, 32, 34, 42, 27, 14, 9, 36, 3, 12};

    public static void main(String[] args) {
        Due.runAll(WhoEdgesTest.class);
    }

    // ---- Promise 16

    /** Promise 1: "WHO: BEARERS have SECRETS x (1 to 22; at first the number and 2)" */
    static void secretsAtFirst() {
        PaperPocket x = new PaperPocket();
        for (int bearer = 0; bearer <= 5; bearer++) {
            Due.due(16, "secret(" + bearer + ", 0)", x.secret(bearer, 0), POWERS[bearer + 2]);
        }
    }

    /** Promise 16: "and SIGNS 4 to the power x, modulo 47 (4 to the power 23 is 1)." The least SECRET and the greatest. */
    static void theSignsOfAllSecrets() {
        PaperPocket x = new PaperPocket();
        for (int v = 1; v <= 22; v++) {
            Due.due(16, "secret(5, " + v + ")", x.secret(5, v), POWERS[v]);
        }
        Due.due(16, "4 times the greatest SIGN is 1", 4 * x.secret(5, 22) % 47, 1);
    }

    /** Promise 16: "A BEARER's SECRET becomes x (0: it stays): its SIGN." */
    static void aSecretStaysFor0() {
        PaperPocket x = new PaperPocket();
        x.secret(3, 22);
        Due.due(16, "secret(3, 0)", x.secret(3, 0), 12);
        Due.due(16, "secret(3, 0) again", x.secret(3, 0), 12);
        Due.due(17, "it answers by it", x.answer(3, 0, 1, 1), 22);
    }

    /** Promise 16: "A BEARER's SECRET becomes x (0: it stays): its SIGN." No other BEARER's does. */
    static void theOthersSecretsStay() {
        PaperPocket x = new PaperPocket();
        x.secret(3, 22);
        for (int bearer = 0; bearer <= 5; bearer++) {
            Due.due(16, "secret(" + bearer + ", 0)", x.secret(bearer, 0), bearer == 3 ? 12 : POWERS[bearer + 2]);
        }
    }

    /** Promise 16: "A BEARER's SECRET becomes x (0: it stays): its SIGN. BAD." */
    static void secretOfNoSuchBearerIsBad() {
        PaperPocket x = new PaperPocket();
        for (int bearer : NO_BEARERS) {
            Due.due(16, "secret(" + bearer + ", 1)", x.secret(bearer, 1), Due.BAD);
            Due.due(16, "secret(" + bearer + ", 0)", x.secret(bearer, 0), Due.BAD);
        }
    }

    /** Promise 16: "A BEARER's SECRET becomes x (0: it stays): its SIGN. BAD." SECRETS are 1 to 22. */
    static void otherSecretsAreBad() {
        PaperPocket x = new PaperPocket();
        for (int v : NOT_0_TO_22) {
            Due.due(16, "secret(0, " + v + ")", x.secret(0, v), Due.BAD);
        }
        Due.due(16, "it stayed", x.secret(0, 0), 16);
    }

    // ---- Promise 17

    /** Promise 17: "A BEARER makes it: t is 4 to the power r (0 to 22)" */
    static void tOfAllR() {
        PaperPocket x = new PaperPocket();
        for (int r = 0; r <= 22; r++) {
            Due.due(17, "answer(0, " + r + ", 22, 0)", x.answer(0, r, 22, 0), POWERS[r]);
        }
    }

    /** Promise 17: "s is (r and c x) modulo 23." */
    static void sWrapsAround23() {
        PaperPocket x = new PaperPocket();
        x.secret(5, 22);
        int[][] due = {{0, 0, 0}, {22, 0, 22}, {0, 1, 22}, {1, 1, 0}, {2, 1, 1}, {0, 22, 1}, {22, 22, 0}, {21, 22, 22}, {22, 1, 21}};
        for (int[] one : due) {
            Due.due(17, "answer(5, " + one[0] + ", " + one[1] + ", 1)", x.answer(5, one[0], one[1], 1), one[2]);
        }
        x.secret(5, 1);
        Due.due(17, "22 and 1 times 1", x.answer(5, 22, 1, 1), 0);
    }

    /** Promise 17: "An ANSWER a BEARER makes: t (what = 0), s (1)." */
    static void tIsWhat0AndSIsWhat1() {
        PaperPocket x = new PaperPocket();
        Due.due(17, "t", x.answer(1, 2, 4, 0), 16);
        Due.due(17, "s", x.answer(1, 2, 4, 1), 2 + 4 * 3);
    }

    /** Promise 17: "An ANSWER a BEARER makes: t (what = 0), s (1)." There is no other what. */
    static void answerOfAnotherWhatIsBad() {
        PaperPocket x = new PaperPocket();
        for (int what : new int[] {-1, 2, MIN, MAX}) {
            Due.due(17, "answer(0, 0, 0, " + what + ")", x.answer(0, 0, 0, what), Due.BAD);
        }
    }

    /** Promise 17: "BAD: BEARER, r, c." */
    static void answerOfNoSuchBearerIsBad() {
        PaperPocket x = new PaperPocket();
        for (int bearer : NO_BEARERS) {
            Due.due(17, "t of " + bearer, x.answer(bearer, 0, 0, 0), Due.BAD);
            Due.due(17, "s of " + bearer, x.answer(bearer, 0, 0, 1), Due.BAD);
        }
        Due.due(17, "BEARER 5", x.answer(5, 0, 1, 1), 7);
    }

    /** Promise 17: "BAD: BEARER, r, c." */
    static void answerOfNoSuchRIsBad() {
        PaperPocket x = new PaperPocket();
        for (int r : NOT_0_TO_22) {
            Due.due(17, "t of r = " + r, x.answer(0, r, 0, 0), Due.BAD);
            Due.due(17, "s of r = " + r, x.answer(0, r, 0, 1), Due.BAD);
        }
    }

    /** Promise 17: "BAD: BEARER, r, c." t is not made of c, but a wrong c is BAD for it, too. */
    static void answerOfNoSuchCIsBad() {
        PaperPocket x = new PaperPocket();
        for (int c : NOT_0_TO_22) {
            Due.due(17, "t of c = " + c, x.answer(0, 0, c, 0), Due.BAD);
            Due.due(17, "s of c = " + c, x.answer(0, 0, c, 1), Due.BAD);
        }
    }

    // ---- Promise 18

    /**
     * Promise 18: "An ANSWER to t (a number 0 to 46), a challenge c (0 to 22), s (0 to 22) is taken, if 4 to the power
     * s is t times the SIGN to the power c, modulo 47."
     */
    static void whatABearerMakesIsTaken() {
        PaperPocket x = new PaperPocket();
        for (int r = 0; r <= 22; r += 11) {
            for (int c = 0; c <= 22; c += 11) {
                for (int v : new int[] {1, 22}) {
                    x.secret(2, v);
                    int t = x.answer(2, r, c, 0);
                    int s = x.answer(2, r, c, 1);
                    Due.due(18, "r = " + r + ", c = " + c + ", x = " + v, x.taken(2, t, c, s), 1);
                    Due.due(18, "another s", x.taken(2, t, c, (s + 1) % 23), 0);
                }
            }
        }
    }

    /** Promise 18: "An ANSWER to t (a number 0 to 46)" 0 times whatever is no power of 4, and 46 is none either. */
    static void theLeastAndTheGreatestTAreNeverTaken() {
        PaperPocket x = new PaperPocket();
        for (int s = 0; s <= 22; s++) {
            Due.due(18, "taken(0, 0, " + s + ", " + s + ")", x.taken(0, 0, s, s), 0);
            Due.due(18, "taken(0, 46, 0, " + s + ")", x.taken(0, 46, 0, s), 0);
            Due.due(18, "taken(0, 46, 22, " + s + ")", x.taken(0, 46, 22, s), 0);
        }
    }

    /** Promise 18: "Whether an ANSWER of a BEARER is taken: 1, 0." The challenge 0 asks for no SECRET. */
    static void theChallenge0AsksForNoSecret() {
        PaperPocket x = new PaperPocket();
        for (int bearer = 0; bearer <= 5; bearer++) {
            Due.due(18, "taken(" + bearer + ", 12, 0, 22)", x.taken(bearer, 12, 0, 22), 1);
            Due.due(18, "taken(" + bearer + ", 1, 0, 0)", x.taken(bearer, 1, 0, 0), 1);
        }
    }

    /** Promise 18: "BAD: BEARER, t, c, s." */
    static void takenOfNoSuchBearerIsBad() {
        PaperPocket x = new PaperPocket();
        for (int bearer : NO_BEARERS) {
            Due.due(18, "taken(" + bearer + ", 1, 0, 0)", x.taken(bearer, 1, 0, 0), Due.BAD);
        }
    }

    /** Promise 18: "BAD: BEARER, t, c, s." */
    static void takenOfNoSuchTIsBad() {
        PaperPocket x = new PaperPocket();
        for (int t : new int[] {-1, 47, 48, MIN, MAX}) {
            Due.due(18, "taken(0, " + t + ", 0, 0)", x.taken(0, t, 0, 0), Due.BAD);
        }
    }

    /** Promise 18: "BAD: BEARER, t, c, s." */
    static void takenOfNoSuchCIsBad() {
        PaperPocket x = new PaperPocket();
        for (int c : NOT_0_TO_22) {
            Due.due(18, "taken(0, 1, " + c + ", 0)", x.taken(0, 1, c, 0), Due.BAD);
        }
    }

    /** Promise 18: "BAD: BEARER, t, c, s." */
    static void takenOfNoSuchSIsBad() {
        PaperPocket x = new PaperPocket();
        for (int s : NOT_0_TO_22) {
            Due.due(18, "taken(0, 1, 0, " + s + ")", x.taken(0, 1, 0, s), Due.BAD);
        }
    }

    // ---- Promise 19

    /**
     * Promise 19: "ODDS for t and one s: how many challenges it is taken for." One of 23 for a power of 4, none for
     * another number.
     */
    static void oddsOfAllT() {
        PaperPocket x = new PaperPocket();
        int[] many = new int[47];
        for (int power : POWERS) {
            many[power] = 1;
        }
        for (int t = 0; t <= 46; t++) {
            Due.due(19, "odds(0, " + t + ", 0)", x.odds(0, t, 0), many[t]);
            Due.due(19, "odds(5, " + t + ", 22)", x.odds(5, t, 22), many[t]);
        }
    }

    /** Promise 19: "ODDS for t and one s: how many challenges it is taken for." The challenges 0 and 22 are counted, too. */
    static void oddsOfTheFirstAndTheLastChallenge() {
        PaperPocket x = new PaperPocket();
        x.secret(0, 1);
        Due.due(18, "only for c = 0", x.taken(0, 16, 0, 2), 1);
        Due.due(19, "odds(0, 16, 2)", x.odds(0, 16, 2), 1);
        Due.due(18, "only for c = 22", x.taken(0, 4, 22, 0), 1);
        Due.due(19, "odds(0, 4, 0)", x.odds(0, 4, 0), 1);
    }

    /** Promise 19: "ODDS. BAD: BEARER, t, s." */
    static void oddsOfNoSuchBearerIsBad() {
        PaperPocket x = new PaperPocket();
        for (int bearer : NO_BEARERS) {
            Due.due(19, "odds(" + bearer + ", 1, 0)", x.odds(bearer, 1, 0), Due.BAD);
        }
    }

    /** Promise 19: "ODDS. BAD: BEARER, t, s." */
    static void oddsOfNoSuchTIsBad() {
        PaperPocket x = new PaperPocket();
        for (int t : new int[] {-1, 47, 48, MIN, MAX}) {
            Due.due(19, "odds(0, " + t + ", 0)", x.odds(0, t, 0), Due.BAD);
        }
    }

    /** Promise 19: "ODDS. BAD: BEARER, t, s." */
    static void oddsOfNoSuchSIsBad() {
        PaperPocket x = new PaperPocket();
        for (int s : NOT_0_TO_22) {
            Due.due(19, "odds(0, 1, " + s + ")", x.odds(0, 1, s), Due.BAD);
        }
    }

    // ---- Promise 20

    private static void partDue(int s, int k, int friend, int want) {
        Due.due(20, "part(" + s + ", " + k + ", " + friend + ")", new PaperPocket().part(s, k, friend), want);
    }

    /**
     * Promise 20: "the sum S and a1 f and a2 f f and .. (k - 1 of these), modulo 257" Where one is enough, each FRIEND
     * has the whole number.
     */
    static void oneFriendIsEnough() {
        for (int friend = 1; friend <= 6; friend++) {
            partDue(0, 1, friend, 0);
            partDue(256, 1, friend, 256);
        }
    }

    /** Promise 20: "FRIENDS 1 .. 6: a SECRET number S (0 to 256) is parted so that k (1 to 4) of them have it" */
    static void theLeastAndTheGreatestSecretNumber() {
        partDue(0, 2, 1, 16);
        partDue(0, 2, 6, 96);
        partDue(0, 3, 6, (96 + 27 * 36) % 257);
        partDue(0, 4, 1, 16 + 27 + 38);
        partDue(0, 4, 6, 24);
        partDue(256, 2, 1, 11);
        partDue(256, 2, 6, 71);
        partDue(256, 4, 6, 65);
    }

    /** Promise 20: "f the FRIEND's number, aj (S times (j + 3), and 11 j, and 5) modulo 257." 151 and 106 is 257, that is 0. */
    static void aPartMayWrapTo0() {
        partDue(151, 2, 1, 0);
        partDue(151, 2, 2, 106);
    }

    /** Promise 20: "A FRIEND's part. BAD: S, k, FRIEND." */
    static void partOfNoSuchNumberIsBad() {
        for (int s : new int[] {-1, 257, MIN, MAX}) {
            partDue(s, 1, 1, Due.BAD);
        }
    }

    /** Promise 20: "A FRIEND's part. BAD: S, k, FRIEND." */
    static void partOfNoSuchKIsBad() {
        for (int k : new int[] {-1, 0, 5, MIN, MAX}) {
            partDue(0, k, 1, Due.BAD);
        }
    }

    /** Promise 20: "A FRIEND's part. BAD: S, k, FRIEND." */
    static void partOfNoSuchFriendIsBad() {
        for (int friend : new int[] {-1, 0, 7, MIN, MAX}) {
            partDue(0, 1, friend, Due.BAD);
        }
    }

    // ---- Promise 21

    private static void friendsDue(int k, int want, int... items) {
        PaperPocket x = new PaperPocket();
        Due.fill(x, 0, items);
        StringBuilder call = new StringBuilder("friends, k = " + k + ":");
        for (int item : items) {
            call.append(' ').append(item);
        }
        Due.due(21, call.toString(), x.friends(0, 0, items.length / 2, k), want);
    }

    /** The first n FRIENDS, from the 6th down, with their parts of s where k are needed. */
    private static int[] parts(int s, int k, int n) {
        PaperPocket x = new PaperPocket();
        int[] items = new int[2 * n];
        for (int i = 0; i < n; i++) {
            items[2 * i] = 6 - i;
            items[2 * i + 1] = x.part(s, k, 6 - i);
        }
        return items;
    }

    /**
     * Promise 21: "GIVEN BACK by n FRIENDS with their parts (unlike numbers): the number at 0 of the only sum of n - 1
     * powers at most that has these parts." One FRIEND gives back its part.
     */
    static void oneFriendGivesBackItsPart() {
        friendsDue(0, 0, 1, 0);
        friendsDue(0, 256, 6, 256);
    }

    /**
     * Promise 21: "the number at 0 of the only sum of n - 1 powers at most that has these parts." Of FRIENDS 1, 2 it is
     * twice the first part less the second, modulo 257.
     */
    static void whatIsGivenBackWrapsAround257() {
        friendsDue(0, 1, 1, 0, 2, 256);
        friendsDue(0, 255, 1, 256, 2, 0);
        friendsDue(0, 256, 2, 1, 1, 0);
        friendsDue(0, 5, 1, 5, 2, 5);
    }

    /**
     * Promise 21: "n FRIENDS (1 to 6), two ITEMS each of a SHEET from i on (FRIEND, part 0 to 256): GIVEN BACK (k = 0),
     * POSSIBLE when k (1 to 4) are needed." As many as are needed, or more, give it back.
     */
    static void enoughFriendsGiveBackTheNumber() {
        for (int s : new int[] {0, 99, 256}) {
            for (int k = 1; k <= 4; k++) {
                for (int n = k; n <= 6; n++) {
                    friendsDue(0, s, parts(s, k, n));
                    friendsDue(k, 1, parts(s, k, n));
                }
            }
        }
    }

    /**
     * Promise 21: "POSSIBLE, when k are needed: for how many numbers S some sum S and a1 f and .. of k - 1 powers at
     * most, whatever its aj, has all these parts: 257 of fewer than k parts"
     */
    static void fewerThanKTellNothing() {
        for (int k = 2; k <= 4; k++) {
            for (int n = 1; n < k; n++) {
                friendsDue(k, 257, parts(123, k, n));
            }
            friendsDue(k, 1, parts(123, k, k));
        }
    }

    /** Promise 21: "257 of fewer than k parts, else 1 or 0." Just k parts, whatever they are, have one number. */
    static void justKPartsHaveOneNumber() {
        friendsDue(1, 1, 3, 256);
        friendsDue(2, 1, 3, 256, 5, 0);
        friendsDue(3, 1, 3, 256, 5, 0, 1, 7);
        friendsDue(4, 1, 3, 256, 5, 0, 1, 7, 2, 200);
    }

    /** Promise 21: "257 of fewer than k parts, else 1 or 0." One part too many that does not fit, the last or the first. */
    static void aPartThatDoesNotFitHasNone() {
        for (int k = 1; k <= 4; k++) {
            int[] items = parts(77, k, k + 1);
            friendsDue(k, 1, items);
            items[2 * k + 1] = (items[2 * k + 1] + 1) % 257;
            friendsDue(k, 0, items);
            items = parts(77, k, 6);
            items[1] = (items[1] + 256) % 257;
            friendsDue(k, 0, items);
            items = parts(77, k, 6);
            items[11] = (items[11] + 1) % 257;
            friendsDue(k, 0, items);
        }
    }

    /** Promise 21: "of k - 1 powers at most" Parts of fewer powers fit, too. */
    static void partsOfFewerPowersFit() {
        for (int k = 1; k <= 4; k++) {
            friendsDue(k, 1, 1, 9, 2, 9, 3, 9, 4, 9, 5, 9, 6, 9);
        }
        friendsDue(1, 0, 1, 10, 2, 11, 3, 12, 4, 13, 5, 14);
        friendsDue(2, 1, 1, 10, 2, 11, 3, 12, 4, 13, 5, 14);
        friendsDue(4, 1, 1, 10, 2, 11, 3, 12, 4, 13, 5, 14);
    }

    /** Promise 21: "two ITEMS each of a SHEET from i on" The last ones of the longest SHEET. */
    static void friendsAtTheEndOfASheet() {
        PaperPocket x = new PaperPocket();
        x.sheet(0, 1, 60);
        for (int i = 0; i < 6; i++) {
            x.set(0, 48 + 2 * i, i + 1);
            x.set(0, 49 + 2 * i, 200);
        }
        Due.due(21, "friends(0, 48, 6, 0)", x.friends(0, 48, 6, 0), 200);
        Due.due(21, "friends(0, 58, 1, 0)", x.friends(0, 58, 1, 0), 200);
        Due.due(21, "friends(0, 49, 6, 0)", x.friends(0, 49, 6, 0), Due.PLACE);
        Due.due(21, "friends(0, 59, 1, 0)", x.friends(0, 59, 1, 0), Due.PLACE);
    }

    private static PaperPocket friendOneWithPart5() {
        PaperPocket x = new PaperPocket();
        Due.fill(x, 0, 1, 5, 2, 5, 3, 5, 4, 5, 5, 5, 6, 5, 1, 5);
        return x;
    }

    /** Promise 21: "BAD: SHEET, n, k; NULL; PLACE; then BAD: an ITEM, a FRIEND twice." */
    static void friendsOfNoSuchSheetIsBad() {
        PaperPocket x = friendOneWithPart5();
        for (int sheet : new int[] {-1, 8, MIN, MAX}) {
            Due.due(21, "friends(" + sheet + ", 0, 1, 0)", x.friends(sheet, 0, 1, 0), Due.BAD);
        }
    }

    /** Promise 21: "BAD: SHEET, n, k; NULL; PLACE; then BAD: an ITEM, a FRIEND twice." BAD comes ahead of NULL. */
    static void friendsOfNoSuchNIsBad() {
        PaperPocket x = friendOneWithPart5();
        for (int n : new int[] {-1, 0, 7, MIN, MAX}) {
            Due.due(21, "friends(0, 0, " + n + ", 0)", x.friends(0, 0, n, 0), Due.BAD);
            Due.due(21, "friends(1, 0, " + n + ", 0)", x.friends(1, 0, n, 0), Due.BAD);
        }
        Due.due(21, "friends(0, 0, 1, 0)", x.friends(0, 0, 1, 0), 5);
        Due.due(21, "friends(0, 0, 6, 0)", x.friends(0, 0, 6, 0), 5);
    }

    /** Promise 21: "BAD: SHEET, n, k; NULL; PLACE; then BAD: an ITEM, a FRIEND twice." */
    static void friendsOfNoSuchKIsBad() {
        PaperPocket x = friendOneWithPart5();
        for (int k : new int[] {-1, 5, MIN, MAX}) {
            Due.due(21, "friends(0, 0, 6, " + k + ")", x.friends(0, 0, 6, k), Due.BAD);
        }
        Due.due(21, "friends(0, 0, 6, 4)", x.friends(0, 0, 6, 4), 1);
    }

    /** Promise 21: "BAD: SHEET, n, k; NULL; PLACE; then BAD: an ITEM, a FRIEND twice." */
    static void friendsOfAMissingSheetIsNull() {
        PaperPocket x = new PaperPocket();
        Due.due(21, "friends(0, 0, 1, 0)", x.friends(0, 0, 1, 0), Due.NULL);
        Due.due(21, "NULL ahead of PLACE", x.friends(0, -1, 1, 0), Due.NULL);
        Due.due(39, "status()", x.status(), 1);
    }

    /** Promise 21: "BAD: SHEET, n, k; NULL; PLACE; then BAD: an ITEM, a FRIEND twice." */
    static void friendsBeyondASheetIsOfNoPlace() {
        PaperPocket x = new PaperPocket();
        Due.fill(x, 0, 1, 5, 2, 5);
        Due.due(21, "three of two", x.friends(0, 0, 3, 0), Due.PLACE);
        for (int i : new int[] {-1, 1, MIN, MAX}) {
            Due.due(21, "friends(0, " + i + ", 2, 0)", x.friends(0, i, 2, 0), Due.PLACE);
        }
        Due.due(39, "status()", x.status(), 2);
        x.set(0, 0, 7);
        Due.due(21, "PLACE ahead of an ITEM", x.friends(0, 0, 3, 0), Due.PLACE);
        Due.due(21, "one from 2 on", x.friends(0, 2, 1, 0), 5);
    }

    /** Promise 21: "then BAD: an ITEM, a FRIEND twice." FRIENDS are 1 to 6. */
    static void anItemThatIsNoFriendIsBad() {
        for (int friend : new int[] {-1, 0, 7, 33, MIN, MAX}) {
            friendsDue(0, Due.BAD, friend, 5);
            friendsDue(2, Due.BAD, 1, 5, friend, 5);
        }
        friendsDue(0, 5, 1, 5);
        friendsDue(0, 5, 6, 5);
    }

    /** Promise 21: "then BAD: an ITEM, a FRIEND twice." Parts are 0 to 256. */
    static void anItemThatIsNoPartIsBad() {
        for (int part : new int[] {-1, 257, MIN, MAX}) {
            friendsDue(0, Due.BAD, 1, part);
            friendsDue(2, Due.BAD, 1, 5, 2, part);
        }
        friendsDue(0, 0, 3, 0);
        friendsDue(0, 256, 3, 256);
    }

    /** Promise 21: "then BAD: an ITEM, a FRIEND twice." With one part, or with two, side by side or not. */
    static void aFriendTwiceIsBad() {
        friendsDue(0, Due.BAD, 6, 5, 6, 5);
        friendsDue(1, Due.BAD, 6, 5, 6, 5);
        friendsDue(4, Due.BAD, 1, 5, 2, 5, 1, 6);
        friendsDue(0, Due.BAD, 1, 5, 2, 5, 3, 5, 4, 5, 5, 5, 1, 5);
        PaperPocket x = friendOneWithPart5();
        Due.due(21, "not of the n", x.friends(0, 0, 6, 0), 5);
        Due.due(21, "from 2 on", x.friends(0, 2, 6, 0), 5);
    }

    /** Promise 21: "then BAD: an ITEM, a FRIEND twice." Such a call leaves status(). */
    static void anItemsBadLeavesTheStatus() {
        PaperPocket x = new PaperPocket();
        Due.fill(x, 0, 1, 5, 1, 5);
        x.drop(3);
        Due.due(21, "friends(0, 0, 2, 0)", x.friends(0, 0, 2, 0), Due.BAD);
        Due.due(39, "status()", x.status(), 1);
        Due.due(21, "friends(0, 0, 1, 0)", x.friends(0, 0, 1, 0), 5);
        Due.due(39, "status()", x.status(), 0);
    }
}

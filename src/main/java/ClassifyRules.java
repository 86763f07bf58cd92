/**
 * Finds the code of a good by questions, general rules and precedents.
 *
 * Codes stand in order of their numbers; a set of codes is an int whose bit i
 * stands for the code at place i, and a set of questions is one likewise. An
 * answer to a question is written as one number, the PAIR: 4 times the question
 * and the answer. Nothing is made after the constructor.
 */
public final class ClassifyRules {
    public static final int NONE = -1;

    private static final int MAX_CODES = 12;
    private static final int MAX_NUMBER = 999999;
    private static final int MAX_SPECIFIC = 100;
    private static final int MAX_SHARE = 1000;
    private static final int MAX_RULES = 60;
    private static final int MAX_PRECEDENTS = 20;
    private static final int MAX_DAY = 100000;
    private static final int QUESTIONS = 5;
    private static final int ANSWERS = 4;
    private static final int PAIRS = 20;

    private static final int NO_CODE = 0;
    private static final int CODES_DIFFER = -1;

    private static final int WHY_NOT = 0;
    private static final int WHY_PRECEDENT = 1;
    private static final int WHY_ALONE = 2;
    private static final int WHY_SPECIFIC = 3;
    private static final int WHY_SHARE = 4;
    private static final int WHY_LAST = 5;

    private static final int FIRST_ANSWER_COUNT = 10;

    private int codes;
    private final int[] number;
    private final int[] specificity;
    private final int[] shareUp;
    private final int[] shareDown;

    private int rules;
    private final int[] keptWith;
    private final int[] fallingWith;
    private final int[] leftWith;

    private int answers;
    private final int[] given;
    private final int[] order;

    private int precedents;
    private final int[] precedentCode;
    private final int[] precedentFirst;
    private final int[] precedentSecond;
    private final int[] precedentUntil;

    private int today;

    public ClassifyRules() {
        number = new int[MAX_CODES];
        specificity = new int[MAX_CODES];
        shareUp = new int[MAX_CODES];
        shareDown = new int[MAX_CODES];
        keptWith = new int[PAIRS];
        fallingWith = new int[PAIRS];
        leftWith = new int[PAIRS];
        given = new int[QUESTIONS];
        order = new int[QUESTIONS];
        precedentCode = new int[MAX_PRECEDENTS];
        precedentFirst = new int[MAX_PRECEDENTS];
        precedentSecond = new int[MAX_PRECEDENTS];
        precedentUntil = new int[MAX_PRECEDENTS];
        for (int question = 0; question < QUESTIONS; question++) {
            given[question] = NONE;
        }
    }

    public int code(int code, int specific) throws IllegalArgumentException, IllegalStateException {
        if (!isNumber(code) || specific < 0 || specific > MAX_SPECIFIC) {
            throw new IllegalArgumentException("no such code, or not so specific");
        }
        // What throws comes before any answer: with 12 a code that is one throws too.
        if (codes >= MAX_CODES) {
            throw new IllegalStateException("there are 12 codes");
        }
        if (placeOf(code) != NONE) {
            return 0;
        }
        int place = howManyBelow(code);
        makeRoomAt(place);
        number[place] = code;
        specificity[place] = specific;
        shareUp[place] = 0;
        shareDown[place] = 1;
        codes++;
        for (int pair = 0; pair < PAIRS; pair++) {
            leftWith[pair] = leftByRules(pair);
        }
        return codes;
    }

    public boolean share(int code, int up, int down) {
        int place = placeOf(code);
        if (place == NONE || up < 0 || up > MAX_SHARE || down < 1 || down > MAX_SHARE) {
            return false;
        }
        shareUp[place] = up;
        shareDown[place] = down;
        return true;
    }

    public int rule(int question, int answer, int code, boolean keeps)
            throws IllegalArgumentException, IllegalStateException {
        int place = placeOf(code);
        if (!isQuestion(question) || !isAnswer(answer) || place == NONE) {
            throw new IllegalArgumentException("no such question, answer or code");
        }
        // What throws comes before any answer: with 60 a rule that is there throws too.
        if (rules >= MAX_RULES) {
            throw new IllegalStateException("there are 60 rules");
        }
        int pair = pairOf(question, answer);
        if (contains(keptWith[pair] | fallingWith[pair], place)) {
            return 0;
        }
        if (keeps) {
            keptWith[pair] |= 1 << place;
        } else {
            fallingWith[pair] |= 1 << place;
        }
        leftWith[pair] = leftByRules(pair);
        rules++;
        return rules;
    }

    public int answer(int question, int answer) throws IllegalArgumentException {
        if (!isQuestion(question) || (answer != NONE && !isAnswer(answer))) {
            throw new IllegalArgumentException("no such question or answer");
        }
        // The same answer once more keeps its turn among the answers.
        if (given[question] != answer) {
            takeBack(question);
            if (answer != NONE) {
                give(question, answer);
            }
        }
        return Integer.bitCount(leftSet());
    }

    public int question() {
        int set = leftSet();
        int parting = partingOf(set, openQuestions());
        int next = NONE;
        // One above what all of them together need, so that the first one counts.
        int fewest = Integer.bitCount(parting) + 1;
        for (int asked = 0; asked < QUESTIONS && fewest > 1; asked++) {
            if (contains(parting, asked)) {
                int with = neededWith(asked, set, parting, fewest);
                if (with < fewest) {
                    fewest = with;
                    next = asked;
                }
            }
        }
        return next;
    }

    public int needed() {
        return neededFor(leftSet(), openQuestions(), 1, QUESTIONS);
    }

    public int found() {
        int ruled = ruledCode();
        if (ruled > NO_CODE) {
            return ruled;
        }
        return lastNumberOf(greatestShareOf(mostSpecificOf(leftSet())));
    }

    public int why() {
        if (ruledCode() > NO_CODE) {
            return WHY_PRECEDENT;
        }
        int set = leftSet();
        if (set == 0) {
            return WHY_NOT;
        }
        if (Integer.bitCount(set) == 1) {
            return WHY_ALONE;
        }
        set = mostSpecificOf(set);
        if (Integer.bitCount(set) == 1) {
            return WHY_SPECIFIC;
        }
        set = greatestShareOf(set);
        return Integer.bitCount(set) == 1 ? WHY_SHARE : WHY_LAST;
    }

    public int left(int i) {
        int set = leftSet();
        int before = 0;
        for (int place = 0; place < codes; place++) {
            if (contains(set, place)) {
                if (before == i) {
                    return number[place];
                }
                before++;
            }
        }
        return NONE;
    }

    public int emptied() {
        if (codes == 0) {
            return NONE;
        }
        int set = everyCode();
        for (int turn = 0; turn < answers; turn++) {
            int asked = order[turn];
            set &= leaves(asked, answerTo(asked));
            if (set == 0) {
                return pairOf(asked, answerTo(asked));
            }
        }
        return NONE;
    }

    public int explain(int code) throws IllegalArgumentException {
        int place = placeOf(code);
        if (place == NONE) {
            throw new IllegalArgumentException("no such code");
        }
        for (int turn = 0; turn < answers; turn++) {
            int asked = order[turn];
            if (!contains(leaves(asked, answerTo(asked)), place)) {
                return pairOf(asked, answerTo(asked));
            }
        }
        return NONE;
    }

    public int precedent(int code, int first, int answer, int second, int other, int until)
            throws IllegalArgumentException, IllegalStateException {
        boolean alone = second == NONE;
        if (!isQuestion(first) || !isAnswer(answer)
                || (!alone && (!isQuestion(second) || !isAnswer(other) || second == first))
                || !isNumber(code) || until < 0 || until > MAX_DAY) {
            throw new IllegalArgumentException("no such questions, answers, code or day");
        }
        if (precedents >= MAX_PRECEDENTS) {
            throw new IllegalStateException("there are 20 precedents");
        }
        precedentCode[precedents] = code;
        precedentFirst[precedents] = pairOf(first, answer);
        precedentSecond[precedents] = alone ? NONE : pairOf(second, other);
        precedentUntil[precedents] = until;
        precedents++;
        return precedents;
    }

    public boolean contradicts() {
        return ruledCode() == CODES_DIFFER;
    }

    public boolean day(int day) {
        if (day < today || day > MAX_DAY) {
            return false;
        }
        today = day;
        return true;
    }

    public int count(int what) {
        switch (what) {
            case 0:
                return codes;
            case 1:
                return rules;
            case 2:
                return answers;
            case 3:
                return Integer.bitCount(leftSet());
            case 4:
                return precedents;
            case 5:
                return howManyHold();
            case 6:
                return today;
            default:
                return answerTo(what - FIRST_ANSWER_COUNT);
        }
    }

    private static boolean isNumber(int code) {
        return code >= 1 && code <= MAX_NUMBER;
    }

    private static boolean isQuestion(int question) {
        return question >= 0 && question < QUESTIONS;
    }

    private static boolean isAnswer(int answer) {
        return answer >= 0 && answer < ANSWERS;
    }

    private static int pairOf(int question, int answer) {
        return ANSWERS * question + answer;
    }

    private static boolean contains(int set, int member) {
        return (set >> member & 1) != 0;
    }

    private int everyCode() {
        return (1 << codes) - 1;
    }

    private int placeOf(int code) {
        for (int place = 0; place < codes; place++) {
            if (number[place] == code) {
                return place;
            }
        }
        return NONE;
    }

    private int howManyBelow(int code) {
        int below = 0;
        while (below < codes && number[below] < code) {
            below++;
        }
        return below;
    }

    /** Called only while a place is free behind the last code. */
    private void makeRoomAt(int place) {
        for (int to = codes; to > place; to--) {
            number[to] = number[to - 1];
            specificity[to] = specificity[to - 1];
            shareUp[to] = shareUp[to - 1];
            shareDown[to] = shareDown[to - 1];
        }
        for (int pair = 0; pair < PAIRS; pair++) {
            keptWith[pair] = withRoomAt(keptWith[pair], place);
            fallingWith[pair] = withRoomAt(fallingWith[pair], place);
        }
    }

    private static int withRoomAt(int set, int place) {
        int below = (1 << place) - 1;
        return (set & below) | ((set & ~below) << 1);
    }

    private int answerTo(int question) {
        return isQuestion(question) ? given[question] : NONE;
    }

    private void give(int question, int answer) {
        if (answers < QUESTIONS) {
            given[question] = answer;
            order[answers] = question;
            answers++;
        }
    }

    private void takeBack(int question) {
        int kept = 0;
        for (int turn = 0; turn < answers; turn++) {
            if (order[turn] != question) {
                order[kept] = order[turn];
                kept++;
            }
        }
        answers = kept;
        given[question] = NONE;
    }

    private int leftByRules(int pair) {
        int kept = keptWith[pair] == 0 ? everyCode() : keptWith[pair];
        return kept & ~fallingWith[pair];
    }

    /** A question without an answer lets no code fall. */
    private int leaves(int question, int answer) {
        return isQuestion(question) && isAnswer(answer) ? leftWith[pairOf(question, answer)] : everyCode();
    }

    private int leftSet() {
        int set = everyCode();
        for (int question = 0; question < QUESTIONS; question++) {
            set &= leaves(question, given[question]);
        }
        return set;
    }

    private int openQuestions() {
        int open = 0;
        for (int question = 0; question < QUESTIONS; question++) {
            if (given[question] == NONE) {
                open |= 1 << question;
            }
        }
        return open;
    }

    private boolean parts(int question, int set) {
        int pair = pairOf(question, 0);
        int leftByFirst = set & leftWith[pair];
        for (int answer = 1; answer < ANSWERS; answer++) {
            if ((set & leftWith[pair + answer]) != leftByFirst) {
                return true;
            }
        }
        return false;
    }

    /** Which of the open questions part the set; none if it has fewer than two codes. */
    private int partingOf(int set, int open) {
        int parting = 0;
        if (Integer.bitCount(set) >= 2) {
            for (int question = 0; question < QUESTIONS; question++) {
                if (contains(open, question) && parts(question, set)) {
                    parting |= 1 << question;
                }
            }
        }
        return parting;
    }

    /**
     * How many questions are needed for the set: exactly if they are between the floor
     * and the limit; else the limit for more, and something up to the floor for fewer.
     *
     * A question that does not part a set parts no set within it, so only the
     * parting ones are handed on, and never more than all of them are needed.
     * The limit falls by one with each question asked, and at 1 none is asked.
     */
    private int neededFor(int set, int open, int floor, int limit) {
        int parting = partingOf(set, open);
        int fewest = Math.min(limit, Integer.bitCount(parting));
        for (int question = 0; question < QUESTIONS && fewest > floor; question++) {
            if (contains(parting, question)) {
                fewest = Math.min(fewest, neededWith(question, set, parting, fewest));
            }
        }
        return fewest;
    }

    /** How many are needed if this question is asked first, or the limit if they are not fewer. */
    private int neededWith(int question, int set, int open, int limit) {
        int others = open & ~(1 << question);
        int worst = 0;
        for (int answer = 0; answer < ANSWERS && worst + 1 < limit; answer++) {
            // What needs no more than the worst so far changes nothing: it is the floor.
            int after = neededFor(set & leaves(question, answer), others, Math.max(worst, 1), limit - 1);
            worst = Math.max(worst, after);
        }
        return worst + 1;
    }

    private int mostSpecificOf(int set) {
        int chosen = 0;
        int most = NONE;
        for (int place = 0; place < codes; place++) {
            if (contains(set, place)) {
                if (specificity[place] > most) {
                    most = specificity[place];
                    chosen = 0;
                }
                if (specificity[place] == most) {
                    chosen |= 1 << place;
                }
            }
        }
        return chosen;
    }

    private int greatestShareOf(int set) {
        int chosen = 0;
        int up = NONE;
        int down = 1;
        for (int place = 0; place < codes; place++) {
            if (contains(set, place)) {
                // Multiplied crosswise: a division would not be exact.
                int compared = Integer.compare(shareUp[place] * down, up * shareDown[place]);
                if (compared > 0) {
                    up = shareUp[place];
                    down = shareDown[place];
                    chosen = 0;
                }
                if (compared >= 0) {
                    chosen |= 1 << place;
                }
            }
        }
        return chosen;
    }

    private int lastNumberOf(int set) {
        int last = NO_CODE;
        for (int place = 0; place < codes; place++) {
            if (contains(set, place)) {
                last = number[place];
            }
        }
        return last;
    }

    private boolean isGiven(int pair) {
        return answerTo(pair / ANSWERS) == pair % ANSWERS;
    }

    private boolean holds(int precedent) {
        return today <= precedentUntil[precedent]
                && isGiven(precedentFirst[precedent])
                && (precedentSecond[precedent] == NONE || isGiven(precedentSecond[precedent]));
    }

    private int howManyHold() {
        int holding = 0;
        for (int precedent = 0; precedent < precedents; precedent++) {
            if (holds(precedent)) {
                holding++;
            }
        }
        return holding;
    }

    /** The one code of the precedents that hold; NO_CODE if none holds, CODES_DIFFER if they contradict. */
    private int ruledCode() {
        int ruled = NO_CODE;
        for (int precedent = 0; precedent < precedents; precedent++) {
            if (holds(precedent)) {
                if (ruled != NO_CODE && ruled != precedentCode[precedent]) {
                    return CODES_DIFFER;
                }
                ruled = precedentCode[precedent];
            }
        }
        return ruled;
    }
}

import java.util.NoSuchElementException;

/**
 * A cricket ground: pitches, the horses that roll them, umpires, innings and the weather by the
 * hour of the day, with orders as texts, undo and a snapshot.
 */
public final class RollerHorses {
    private static final int NONE = -1;

    private static final int HOURS_A_DAY = 24;
    private static final int MOST_WEATHER = 9;
    private static final int FIRST_TEA = 16;
    private static final int FIRST_LIGHT = 7;
    private static final int DAWN = 6;
    private static final int DUSK = 19;

    private static final int MOST_PITCHES = 4;
    private static final int MOST_HORSES = 5;
    private static final int MOST_UMPIRES = 3;
    private static final int MOST_INNINGS = 12;

    private static final int MOST_OF_A_PITCH = 99;
    private static final int WET = 60;
    private static final int DIM = 3;
    private static final int MOST_TIRED = 20;
    private static final int TOO_TIRED = 15;
    private static final int MOST_GRADE = 9;
    private static final int MOST_ROLL_HOURS = 6;
    private static final int MOST_PASS_HOURS = 72;
    private static final int MOST_WAIT = 48;

    private static final int LEAST_BALLS = 6;
    private static final int MOST_BALLS = 120;
    private static final int MOST_BALLS_AT_ONCE = 36;
    private static final int WORTHS = 7;
    private static final int WICKET = 5;
    private static final int ALL_OUT = 10;
    private static final int BALLS_AN_OVER = 6;

    private static final int MOST_SIGNS = 60;
    private static final int MOST_UNDONE = 8;

    // A verdict is one of these three, or a reason times DETAILS with its detail added.
    private static final int FINE = 0;
    private static final int NO_SUCH = -1;
    private static final int OUT_OF_RANGE = -2;
    private static final int DETAILS = 1000;

    private static final int IS_FULL = 1;
    private static final int HORSE_ROLLS = 2;
    private static final int HORSE_IS_TIRED = 3;
    private static final int PITCH_IS_ROLLED = 4;
    private static final int PITCH_IS_PLAYED_ON = 5;
    private static final int PITCH_IS_COVERED = 6;
    private static final int PITCH_IS_WET = 7;
    private static final int PITCH_IS_UNFIT = 8;
    private static final int INNINGS_ARE_OVER = 9;
    private static final int FEWER_BALLS_LEFT = 10;

    private final Ground now = new Ground();
    // What only might happen is tried here, so that the ground itself stays as it is.
    private final Ground trial = new Ground();
    private final Ground snapshot = new Ground();
    private boolean hasSnapshot;
    private final Past past = new Past();
    private final Orders orders = new Orders();
    private int reason = NONE;
    private int detail = NONE;

    public RollerHorses() {
    }

    // Weather and pitches.

    public int rain(int hour, int amount) throws IndexOutOfBoundsException, IllegalArgumentException {
        admit(weatherVerdict(hour, amount));
        return exchange(now.rain, hour, amount);
    }

    public int light(int hour, int amount) throws IndexOutOfBoundsException, IllegalArgumentException {
        admit(weatherVerdict(hour, amount));
        return exchange(now.light, hour, amount);
    }

    public int bell(int hour) throws IndexOutOfBoundsException {
        admit(hourVerdict(hour));
        int before = now.tea;
        now.tea = hour;
        return before;
    }

    public int weather(int hour, boolean isLight) throws IndexOutOfBoundsException {
        settle(hourVerdict(hour));
        return isLight ? now.light[hour] : now.rain[hour];
    }

    public int pitch() throws UnsupportedOperationException {
        admit(roomVerdict(now.pitchCount, MOST_PITCHES));
        return now.pitchCount++;
    }

    public int cover(int pitch, boolean isOn) throws IndexOutOfBoundsException, UnsupportedOperationException {
        admit(now.coverVerdict(pitch, isOn));
        now.pitches[pitch].isCovered = isOn;
        return now.pitches[pitch].wetness;
    }

    public int pitchOf(int pitch, int what) throws IndexOutOfBoundsException, IllegalArgumentException {
        settle(now.pitchVerdict(pitch));
        Pitch that = now.pitches[pitch];
        switch (what) {
            case 0:
                return that.wetness;
            case 1:
                return that.hardness;
            case 2:
                return that.ruts;
            case 3:
                return that.isCovered ? 1 : 0;
            case 4:
                return now.rollerOf(pitch);
            case 5:
                return now.playedOn(pitch);
            case 6:
                return that.ballsOnIt;
            default:
                throw new IllegalArgumentException("what is not from 0 to 6");
        }
    }

    public char sign(int pitch) throws IndexOutOfBoundsException {
        settle(now.pitchVerdict(pitch));
        if (now.pitches[pitch].isCovered) {
            return 'c';
        }
        if (now.rollerOf(pitch) != NONE) {
            return 'h';
        }
        if (now.playedOn(pitch) != NONE) {
            return 'i';
        }
        return now.pitches[pitch].wetness > WET ? 'w' : 'd';
    }

    // Horses and umpires.

    public int horse(int strength, boolean isBooted) throws IllegalArgumentException, UnsupportedOperationException {
        settle(rangeVerdict(strength, 1, MOST_GRADE));
        admit(roomVerdict(now.horseCount, MOST_HORSES));
        now.horses[now.horseCount].strength = strength;
        now.horses[now.horseCount].isBooted = isBooted;
        return now.horseCount++;
    }

    public int boots(int horse, boolean isOn) throws IndexOutOfBoundsException, UnsupportedOperationException {
        admit(now.bootsVerdict(horse));
        now.horses[horse].isBooted = isOn;
        return now.bootedHorses();
    }

    public int horseOf(int horse, int what) throws IndexOutOfBoundsException, IllegalArgumentException {
        settle(now.horseVerdict(horse));
        Horse that = now.horses[horse];
        switch (what) {
            case 0:
                return that.strength;
            case 1:
                return that.isBooted ? 1 : 0;
            case 2:
                return that.tiredness;
            case 3:
                return that.hoursLeft;
            case 4:
                return that.isRolling() ? that.pitch : NONE;
            case 5:
                return that.hoursRolled;
            default:
                throw new IllegalArgumentException("what is not from 0 to 5");
        }
    }

    public int roll(int horse, int pitch, int hours)
            throws IndexOutOfBoundsException, IllegalArgumentException, UnsupportedOperationException {
        admit(now.rollVerdict(horse, pitch, hours));
        now.beginRolling(horse, pitch, hours);
        int behind = now.pitches[pitch].hardness + hours * now.horses[horse].strength;
        return Math.min(MOST_OF_A_PITCH, behind);
    }

    public int bestHorse(int pitch) throws IndexOutOfBoundsException, NoSuchElementException {
        settle(now.pitchVerdict(pitch));
        int best = now.bestRollerFor(pitch);
        if (best == NONE) {
            throw new NoSuchElementException("no horse could roll the pitch now");
        }
        return best;
    }

    public int umpire(int strictness) throws IllegalArgumentException, UnsupportedOperationException {
        settle(rangeVerdict(strictness, 1, MOST_GRADE));
        admit(roomVerdict(now.umpireCount, MOST_UMPIRES));
        now.strictness[now.umpireCount] = strictness;
        return now.umpireCount++;
    }

    public int call(int umpire, int pitch) throws IndexOutOfBoundsException {
        settle(now.callerVerdict(umpire, pitch));
        return now.callOf(umpire, pitch);
    }

    public int fitIn(int umpire, int pitch) throws IndexOutOfBoundsException, NoSuchElementException {
        settle(now.callerVerdict(umpire, pitch));
        trial.become(now);
        for (int hours = 0; hours <= MOST_WAIT; hours++) {
            if (trial.callOf(umpire, pitch) == 0) {
                return hours;
            }
            trial.letHourGoBy();
        }
        throw new NoSuchElementException("the pitch would not be fit within 48 hours");
    }

    public int bestPitch(int umpire) throws IndexOutOfBoundsException, NoSuchElementException {
        settle(now.umpireVerdict(umpire));
        int best = now.bestFitPitch(umpire);
        if (best == NONE) {
            throw new NoSuchElementException("the umpire calls no pitch fit now");
        }
        return best;
    }

    // Innings.

    public int innings(int pitch, int umpire, int balls)
            throws IndexOutOfBoundsException, IllegalArgumentException, UnsupportedOperationException {
        admit(now.inningsVerdict(pitch, umpire, balls));
        Innings those = now.played[now.inningsCount];
        those.pitch = pitch;
        those.umpire = umpire;
        those.ballsInAll = balls;
        return now.inningsCount++;
    }

    public int bowl(int innings, int balls)
            throws IndexOutOfBoundsException, IllegalArgumentException, UnsupportedOperationException {
        admit(now.bowlVerdict(innings, balls));
        return now.bowlBalls(innings, balls);
    }

    public int would(int innings, int balls) throws IndexOutOfBoundsException, IllegalArgumentException {
        settle(now.ballsVerdict(innings, balls));
        trial.become(now);
        return trial.bowlBalls(innings, balls);
    }

    public int end(int innings) throws IndexOutOfBoundsException, UnsupportedOperationException {
        admit(now.endVerdict(innings));
        now.played[innings].isEnded = true;
        return now.played[innings].runs;
    }

    public int inningsOf(int innings, int what) throws IndexOutOfBoundsException, IllegalArgumentException {
        settle(now.playedVerdict(innings));
        Innings those = now.played[innings];
        switch (what) {
            case 0:
                return those.pitch;
            case 1:
                return those.umpire;
            case 2:
                return those.ballsInAll;
            case 3:
                return those.bowled;
            case 4:
                return those.runs;
            case 5:
                return those.wickets;
            case 6:
                return those.isOver() ? 1 : 0;
            default:
                throw new IllegalArgumentException("what is not from 0 to 6");
        }
    }

    public int balls(int innings, int worth) throws IndexOutOfBoundsException, IllegalArgumentException {
        settle(now.playedVerdict(innings));
        settle(rangeVerdict(worth, 0, WORTHS - 1));
        return now.played[innings].ofWorth[worth];
    }

    public int runsAgain(int innings) throws IndexOutOfBoundsException {
        settle(now.playedVerdict(innings));
        return now.played[innings].runsByWorth();
    }

    public int ranked(int place) throws NoSuchElementException {
        int innings = now.inningsAtPlace(place);
        if (innings == NONE) {
            throw new NoSuchElementException("there is no such place");
        }
        return innings;
    }

    public int pass(int hours) throws IllegalArgumentException {
        admit(rangeVerdict(hours, 1, MOST_PASS_HOURS));
        return now.letHoursGoBy(hours);
    }

    // Texts, accounts, undo and snapshot.

    public int append(char c) throws IllegalStateException {
        if (orders.length >= MOST_SIGNS) {
            throw new IllegalStateException("the input contains 60 characters");
        }
        orders.signs[orders.length] = c;
        orders.length++;
        return orders.length;
    }

    public int read() throws IllegalArgumentException, UnsupportedOperationException {
        trial.become(now);
        int verdict = orders.carryOutAll(trial);
        orders.length = 0;
        admit(verdict == NO_SUCH ? OUT_OF_RANGE : verdict);
        now.become(trial);
        return orders.count;
    }

    public int errorPosition() {
        return orders.errorAt;
    }

    public int refusal(boolean isDetail) throws NoSuchElementException {
        if (reason == NONE) {
            throw new NoSuchElementException("nothing was refused");
        }
        return isDetail ? detail : reason;
    }

    public int account(int what) throws IllegalArgumentException {
        switch (what) {
            case 0:
                return now.hour;
            case 1:
                return now.tea;
            case 2:
                return now.pitchCount;
            case 3:
                return now.coveredPitches();
            case 4:
                return now.horseCount;
            case 5:
                return now.rollingHorses();
            case 6:
                return now.bootedHorses();
            case 7:
                return now.umpireCount;
            case 8:
                return now.inningsCount;
            case 9:
                return now.inningsOver();
            case 10:
                return now.ballsInInnings();
            case 11:
                return now.runsInInnings();
            case 12:
                return now.wicketsInInnings();
            case 13:
                return now.hoursOfHorses();
            case 14:
                return now.wetnessOfPitches();
            case 15:
                return orders.length;
            case 16:
                return past.count;
            default:
                throw new IllegalArgumentException("what is not from 0 to 16");
        }
    }

    public boolean isWell() {
        return now.areInningsWell() && now.arePitchesWell();
    }

    public double meanRuns() throws ArithmeticException {
        if (now.inningsCount == 0) {
            throw new ArithmeticException("there are no innings");
        }
        return (double) now.runsInInnings() / (double) now.inningsCount;
    }

    public float wickets() throws ArithmeticException {
        int bowled = now.ballsInInnings();
        if (bowled == 0) {
            throw new ArithmeticException("no balls were bowled");
        }
        return (float) now.wicketsInInnings() / (float) bowled;
    }

    public int undo() throws IllegalStateException {
        if (past.count == 0) {
            throw new IllegalStateException("no change can be undone");
        }
        past.giveBack(now);
        return past.count;
    }

    public int save() {
        snapshot.become(now);
        hasSnapshot = true;
        return now.hour;
    }

    public int restore() throws IllegalStateException {
        if (!hasSnapshot) {
            throw new IllegalStateException("there is no snapshot");
        }
        now.become(snapshot);
        past.count = 0;
        return now.hour;
    }

    // Verdicts.

    /** Throws what a verdict asks for, and keeps the reason of a refusal. */
    private void settle(int verdict) {
        if (verdict == NO_SUCH) {
            throw new IndexOutOfBoundsException("there is no such number");
        }
        if (verdict == OUT_OF_RANGE) {
            throw new IllegalArgumentException("out of range, or a text that cannot be carried out");
        }
        if (verdict != FINE) {
            reason = verdict / DETAILS;
            detail = verdict % DETAILS;
            throw new UnsupportedOperationException("refused; the reason is kept for refusal");
        }
    }

    /** Settles the verdict on a change, which can be undone if it is let through. */
    private void admit(int verdict) {
        settle(verdict);
        past.keep(now);
    }

    private static int exchange(int[] row, int place, int value) {
        int before = row[place];
        row[place] = value;
        return before;
    }

    private static int refused(int reason, int detail) {
        return reason * DETAILS + detail;
    }

    private static int rangeVerdict(int value, int least, int most) {
        return value >= least && value <= most ? FINE : OUT_OF_RANGE;
    }

    private static int numberVerdict(int number, int count) {
        return number >= 0 && number < count ? FINE : NO_SUCH;
    }

    private static int hourVerdict(int hour) {
        return numberVerdict(hour, HOURS_A_DAY);
    }

    private static int weatherVerdict(int hour, int amount) {
        int verdict = hourVerdict(hour);
        return verdict == FINE ? rangeVerdict(amount, 0, MOST_WEATHER) : verdict;
    }

    private static int roomVerdict(int count, int most) {
        return count < most ? FINE : refused(IS_FULL, most);
    }

    private static int more(int value, int by, int most) {
        return value + by < most ? value + by : most;
    }

    private static int less(int value, int by) {
        return value > by ? value - by : 0;
    }

    private static final class Pitch {
        int wetness = 20;
        int hardness = 10;
        int ruts;
        boolean isCovered;
        int ballsOnIt;

        void become(Pitch other) {
            wetness = other.wetness;
            hardness = other.hardness;
            ruts = other.ruts;
            isCovered = other.isCovered;
            ballsOnIt = other.ballsOnIt;
        }

        void letWeatherAct(int rain, int light) {
            wetness = more(wetness, 4 * rain, MOST_OF_A_PITCH);
            wetness = less(wetness, light / 2);
        }
    }

    private static final class Horse {
        int strength;
        boolean isBooted;
        int tiredness;
        int hoursLeft;
        int pitch;
        int hoursRolled;

        void become(Horse other) {
            strength = other.strength;
            isBooted = other.isBooted;
            tiredness = other.tiredness;
            hoursLeft = other.hoursLeft;
            pitch = other.pitch;
            hoursRolled = other.hoursRolled;
        }

        boolean isRolling() {
            return hoursLeft > 0;
        }

        void rollForAnHour(Pitch that) {
            that.hardness = more(that.hardness, strength, MOST_OF_A_PITCH);
            that.wetness = less(that.wetness, strength / 2);
            if (!isBooted) {
                that.ruts = more(that.ruts, that.wetness / 10 + 1, MOST_OF_A_PITCH);
            }
            tiredness = more(tiredness, 2, MOST_TIRED);
            hoursLeft--;
            hoursRolled++;
        }

        void rest() {
            tiredness = less(tiredness, 1);
        }

        boolean isBetterThan(Horse other) {
            if (strength != other.strength) {
                return strength > other.strength;
            }
            return tiredness < other.tiredness;
        }
    }

    private static final class Innings {
        int pitch;
        int umpire;
        int ballsInAll;
        int bowled;
        int runs;
        int wickets;
        boolean isEnded;
        final int[] ofWorth = new int[WORTHS];

        void become(Innings other) {
            pitch = other.pitch;
            umpire = other.umpire;
            ballsInAll = other.ballsInAll;
            bowled = other.bowled;
            runs = other.runs;
            wickets = other.wickets;
            isEnded = other.isEnded;
            System.arraycopy(other.ofWorth, 0, ofWorth, 0, WORTHS);
        }

        boolean isOver() {
            return isEnded || bowled >= ballsInAll || wickets >= ALL_OUT;
        }

        void bowlOne(Pitch that) {
            int worth = Math.floorMod(that.hardness + 3 * bowled + that.ruts, WORTHS);
            ofWorth[worth]++;
            if (worth == WICKET) {
                wickets++;
            } else {
                runs += worth;
            }
            if (bowled % BALLS_AN_OVER == BALLS_AN_OVER - 1) {
                that.hardness = less(that.hardness, 1);
            }
            bowled++;
            that.ballsOnIt++;
        }

        int runsByWorth() {
            int sum = 0;
            for (int worth = 0; worth < WORTHS; worth++) {
                if (worth != WICKET) {
                    sum += worth * ofWorth[worth];
                }
            }
            return sum;
        }

        int ballsByWorth() {
            int sum = 0;
            for (int worth = 0; worth < WORTHS; worth++) {
                sum += ofWorth[worth];
            }
            return sum;
        }

        boolean isWellCounted() {
            return runs == runsByWorth() && wickets == ofWorth[WICKET] && bowled == ballsByWorth();
        }

        /** Innings that are alike stay in the order of their numbers. */
        boolean isAheadOf(Innings other) {
            if (runs != other.runs) {
                return runs > other.runs;
            }
            return bowled < other.bowled;
        }
    }

    /** All that changes can change, so that undo, a snapshot and a trial are copies of it. */
    private static final class Ground {
        int hour;
        int tea = FIRST_TEA;
        final int[] rain = new int[HOURS_A_DAY];
        final int[] light = new int[HOURS_A_DAY];
        int pitchCount;
        final Pitch[] pitches = new Pitch[MOST_PITCHES];
        int horseCount;
        final Horse[] horses = new Horse[MOST_HORSES];
        int umpireCount;
        final int[] strictness = new int[MOST_UMPIRES];
        int inningsCount;
        final Innings[] played = new Innings[MOST_INNINGS];

        Ground() {
            for (int h = DAWN; h <= DUSK; h++) {
                light[h] = FIRST_LIGHT;
            }
            for (int p = 0; p < MOST_PITCHES; p++) {
                pitches[p] = new Pitch();
            }
            for (int h = 0; h < MOST_HORSES; h++) {
                horses[h] = new Horse();
            }
            for (int i = 0; i < MOST_INNINGS; i++) {
                played[i] = new Innings();
            }
        }

        void become(Ground other) {
            hour = other.hour;
            tea = other.tea;
            System.arraycopy(other.rain, 0, rain, 0, HOURS_A_DAY);
            System.arraycopy(other.light, 0, light, 0, HOURS_A_DAY);
            pitchCount = other.pitchCount;
            horseCount = other.horseCount;
            umpireCount = other.umpireCount;
            inningsCount = other.inningsCount;
            System.arraycopy(other.strictness, 0, strictness, 0, MOST_UMPIRES);
            // Rows behind the counts are copied too: they must be as new when they are taken.
            for (int p = 0; p < MOST_PITCHES; p++) {
                pitches[p].become(other.pitches[p]);
            }
            for (int h = 0; h < MOST_HORSES; h++) {
                horses[h].become(other.horses[h]);
            }
            for (int i = 0; i < MOST_INNINGS; i++) {
                played[i].become(other.played[i]);
            }
        }

        int rollerOf(int pitch) {
            for (int h = 0; h < horseCount; h++) {
                if (horses[h].hoursLeft > 0 && horses[h].pitch == pitch) {
                    return h;
                }
            }
            return NONE;
        }

        int playedOn(int pitch) {
            for (int i = 0; i < inningsCount; i++) {
                if (played[i].pitch == pitch && !played[i].isOver()) {
                    return i;
                }
            }
            return NONE;
        }

        int callOf(int umpire, int pitch) {
            int hourNow = Math.floorMod(hour, HOURS_A_DAY);
            if (pitches[pitch].isCovered) {
                return 6;
            }
            if (rollerOf(pitch) != NONE) {
                return 5;
            }
            if (hourNow == tea) {
                return 4;
            }
            if (rain[hourNow] > 0) {
                return 3;
            }
            if (light[hourNow] < DIM) {
                return 2;
            }
            return pitches[pitch].wetness > WET - 5 * strictness[umpire] ? 1 : 0;
        }

        int pitchVerdict(int pitch) {
            return numberVerdict(pitch, pitchCount);
        }

        int horseVerdict(int horse) {
            return numberVerdict(horse, horseCount);
        }

        int umpireVerdict(int umpire) {
            return numberVerdict(umpire, umpireCount);
        }

        int playedVerdict(int innings) {
            return numberVerdict(innings, inningsCount);
        }

        int callerVerdict(int umpire, int pitch) {
            int verdict = umpireVerdict(umpire);
            return verdict == FINE ? pitchVerdict(pitch) : verdict;
        }

        int coverVerdict(int pitch, boolean isOn) {
            int verdict = pitchVerdict(pitch);
            return verdict == FINE && isOn ? rollerVerdict(pitch) : verdict;
        }

        int rollerVerdict(int pitch) {
            int roller = rollerOf(pitch);
            return roller == NONE ? FINE : refused(PITCH_IS_ROLLED, roller);
        }

        int playVerdict(int pitch) {
            int innings = playedOn(pitch);
            return innings == NONE ? FINE : refused(PITCH_IS_PLAYED_ON, innings);
        }

        int callVerdict(int umpire, int pitch) {
            int called = callOf(umpire, pitch);
            return called == 0 ? FINE : refused(PITCH_IS_UNFIT, called);
        }

        int bootsVerdict(int horse) {
            int verdict = horseVerdict(horse);
            if (verdict != FINE) {
                return verdict;
            }
            return horses[horse].isRolling() ? refused(HORSE_ROLLS, horses[horse].hoursLeft) : FINE;
        }

        int rollVerdict(int horse, int pitch, int hours) {
            if (horseVerdict(horse) != FINE || pitchVerdict(pitch) != FINE) {
                return NO_SUCH;
            }
            if (rangeVerdict(hours, 1, MOST_ROLL_HOURS) != FINE) {
                return OUT_OF_RANGE;
            }
            int verdict = bootsVerdict(horse);
            if (verdict == FINE && horses[horse].tiredness > TOO_TIRED) {
                verdict = refused(HORSE_IS_TIRED, horses[horse].tiredness);
            }
            if (verdict == FINE) {
                verdict = rollerVerdict(pitch);
            }
            if (verdict == FINE) {
                verdict = playVerdict(pitch);
            }
            if (verdict == FINE && pitches[pitch].isCovered) {
                verdict = refused(PITCH_IS_COVERED, pitch);
            }
            if (verdict == FINE && pitches[pitch].wetness > WET && !horses[horse].isBooted) {
                verdict = refused(PITCH_IS_WET, pitches[pitch].wetness);
            }
            return verdict;
        }

        int inningsVerdict(int pitch, int umpire, int balls) {
            if (callerVerdict(umpire, pitch) != FINE) {
                return NO_SUCH;
            }
            if (rangeVerdict(balls, LEAST_BALLS, MOST_BALLS) != FINE) {
                return OUT_OF_RANGE;
            }
            int verdict = roomVerdict(inningsCount, MOST_INNINGS);
            if (verdict == FINE) {
                verdict = playVerdict(pitch);
            }
            return verdict == FINE ? callVerdict(umpire, pitch) : verdict;
        }

        int ballsVerdict(int innings, int balls) {
            int verdict = playedVerdict(innings);
            return verdict == FINE ? rangeVerdict(balls, 1, MOST_BALLS_AT_ONCE) : verdict;
        }

        int bowlVerdict(int innings, int balls) {
            int verdict = ballsVerdict(innings, balls);
            if (verdict == FINE) {
                verdict = endVerdict(innings);
            }
            if (verdict != FINE) {
                return verdict;
            }
            Innings those = played[innings];
            int left = those.ballsInAll - those.bowled;
            return left < balls ? refused(FEWER_BALLS_LEFT, left) : callVerdict(those.umpire, those.pitch);
        }

        int endVerdict(int innings) {
            int verdict = playedVerdict(innings);
            if (verdict != FINE) {
                return verdict;
            }
            return played[innings].isOver() ? refused(INNINGS_ARE_OVER, innings) : FINE;
        }

        void beginRolling(int horse, int pitch, int hours) {
            horses[horse].pitch = pitch;
            horses[horse].hoursLeft = hours;
        }

        int bowlBalls(int innings, int balls) {
            Innings those = played[innings];
            int before = those.runs;
            for (int b = 0; b < balls && !those.isOver(); b++) {
                those.bowlOne(pitches[those.pitch]);
            }
            return those.runs - before;
        }

        int letHoursGoBy(int hours) {
            int rolled = 0;
            for (int h = 0; h < hours; h++) {
                rolled += letHourGoBy();
            }
            return rolled;
        }

        int letHourGoBy() {
            int rolled = 0;
            for (int h = 0; h < horseCount; h++) {
                if (horses[h].isRolling()) {
                    horses[h].rollForAnHour(pitches[horses[h].pitch]);
                    rolled++;
                } else {
                    horses[h].rest();
                }
            }
            int hourNow = Math.floorMod(hour, HOURS_A_DAY);
            for (int p = 0; p < pitchCount; p++) {
                if (!pitches[p].isCovered) {
                    pitches[p].letWeatherAct(rain[hourNow], light[hourNow]);
                }
            }
            hour++;
            return rolled;
        }

        int bestRollerFor(int pitch) {
            int best = NONE;
            for (int h = 0; h < horseCount; h++) {
                boolean canRoll = rollVerdict(h, pitch, 1) == FINE;
                if (canRoll && (best == NONE || horses[h].isBetterThan(horses[best]))) {
                    best = h;
                }
            }
            return best;
        }

        int bestFitPitch(int umpire) {
            int best = NONE;
            int worthOfBest = 0;
            for (int p = 0; p < pitchCount; p++) {
                int worth = pitches[p].hardness - pitches[p].ruts;
                if (callOf(umpire, p) == 0 && (best == NONE || worth > worthOfBest)) {
                    best = p;
                    worthOfBest = worth;
                }
            }
            return best;
        }

        int inningsAtPlace(int place) {
            for (int i = 0; i < inningsCount; i++) {
                if (placeOf(i) == place) {
                    return i;
                }
            }
            return NONE;
        }

        int placeOf(int innings) {
            int ahead = 0;
            for (int i = 0; i < inningsCount; i++) {
                boolean isAlikeAndLower = i < innings && !played[innings].isAheadOf(played[i]);
                if (isAlikeAndLower || played[i].isAheadOf(played[innings])) {
                    ahead++;
                }
            }
            return ahead;
        }

        int coveredPitches() {
            int count = 0;
            for (int p = 0; p < pitchCount; p++) {
                count += pitches[p].isCovered ? 1 : 0;
            }
            return count;
        }

        int wetnessOfPitches() {
            int sum = 0;
            for (int p = 0; p < pitchCount; p++) {
                sum += pitches[p].wetness;
            }
            return sum;
        }

        int rollingHorses() {
            int count = 0;
            for (int h = 0; h < horseCount; h++) {
                count += horses[h].isRolling() ? 1 : 0;
            }
            return count;
        }

        int bootedHorses() {
            int count = 0;
            for (int h = 0; h < horseCount; h++) {
                count += horses[h].isBooted ? 1 : 0;
            }
            return count;
        }

        int hoursOfHorses() {
            int sum = 0;
            for (int h = 0; h < horseCount; h++) {
                sum += horses[h].hoursRolled;
            }
            return sum;
        }

        int inningsOver() {
            int count = 0;
            for (int i = 0; i < inningsCount; i++) {
                count += played[i].isOver() ? 1 : 0;
            }
            return count;
        }

        int ballsInInnings() {
            int sum = 0;
            for (int i = 0; i < inningsCount; i++) {
                sum += played[i].bowled;
            }
            return sum;
        }

        int runsInInnings() {
            int sum = 0;
            for (int i = 0; i < inningsCount; i++) {
                sum += played[i].runs;
            }
            return sum;
        }

        int wicketsInInnings() {
            int sum = 0;
            for (int i = 0; i < inningsCount; i++) {
                sum += played[i].wickets;
            }
            return sum;
        }

        boolean areInningsWell() {
            for (int i = 0; i < inningsCount; i++) {
                if (!played[i].isWellCounted()) {
                    return false;
                }
            }
            return true;
        }

        boolean arePitchesWell() {
            for (int p = 0; p < pitchCount; p++) {
                boolean isBoth = rollerOf(p) != NONE && playedOn(p) != NONE;
                if (isBoth || pitches[p].ballsOnIt != ballsOfInningsOn(p)) {
                    return false;
                }
            }
            return true;
        }

        int ballsOfInningsOn(int pitch) {
            int sum = 0;
            for (int i = 0; i < inningsCount; i++) {
                sum += played[i].pitch == pitch ? played[i].bowled : 0;
            }
            return sum;
        }
    }

    /** The grounds ahead of the latest changes, in rows that are used in turn. */
    private static final class Past {
        final Ground[] rows = new Ground[MOST_UNDONE];
        int next;
        int count;

        Past() {
            for (int r = 0; r < MOST_UNDONE; r++) {
                rows[r] = new Ground();
            }
        }

        void keep(Ground ground) {
            rows[next].become(ground);
            next = next + 1 < MOST_UNDONE ? next + 1 : 0;
            count = Math.min(MOST_UNDONE, count + 1);
        }

        void giveBack(Ground ground) {
            next = next > 0 ? next - 1 : MOST_UNDONE - 1;
            ground.become(rows[next]);
            count--;
        }
    }

    /** The input, read order by order with a cursor that stops at what cannot continue the text. */
    private static final class Orders {
        final char[] signs = new char[MOST_SIGNS];
        int length;
        int errorAt = NONE;
        int count;
        private int at;
        private int kind;
        private int first;
        private int second;
        private int third;

        /**
         * Carries out the text on a ground that may be spoilt, and returns the verdict. The text is
         * read on behind an order that cannot be carried out, as an error in it goes first.
         */
        int carryOutAll(Ground ground) {
            int verdict = FINE;
            boolean isMore = true;
            at = 0;
            count = 0;
            for (int left = MOST_SIGNS; isMore && left > 0; left--) {
                if (!findOrder()) {
                    errorAt = at;
                    return OUT_OF_RANGE;
                }
                if (verdict == FINE) {
                    verdict = verdictOn(ground);
                    if (verdict == FINE) {
                        carryOut(ground);
                    }
                }
                count++;
                isMore = skip(';');
            }
            errorAt = at < length ? at : NONE;
            return errorAt == NONE ? verdict : OUT_OF_RANGE;
        }

        private boolean findOrder() {
            kind = signAhead();
            switch (kind) {
                case 'r':
                    at++;
                    return findRollNumbers();
                case 'b':
                    at++;
                    return findBowlNumbers();
                case 'c':
                case 'u':
                    at++;
                    first = findDigit();
                    return first != NONE;
                case 'e':
                case 'h':
                    at++;
                    first = findNumber();
                    return first != NONE;
                default:
                    return false;
            }
        }

        private boolean findRollNumbers() {
            first = findDigit();
            if (first == NONE || !skip(':')) {
                return false;
            }
            second = findDigit();
            if (second == NONE || !skip('+')) {
                return false;
            }
            third = findDigit();
            return third != NONE;
        }

        private boolean findBowlNumbers() {
            first = findNumber();
            if (first == NONE || !skip('*')) {
                return false;
            }
            second = findNumber();
            return second != NONE;
        }

        private int findNumber() {
            int digit = findDigit();
            if (digit == NONE) {
                return NONE;
            }
            int nextDigit = findDigit();
            return nextDigit == NONE ? digit : digit * 10 + nextDigit;
        }

        private int findDigit() {
            int sign = signAhead();
            if (sign < '0' || sign > '9') {
                return NONE;
            }
            at++;
            return sign - '0';
        }

        private boolean skip(char sign) {
            if (signAhead() != sign) {
                return false;
            }
            at++;
            return true;
        }

        private int signAhead() {
            return at < length ? signs[at] : NONE;
        }

        private int verdictOn(Ground ground) {
            switch (kind) {
                case 'r':
                    return ground.rollVerdict(first, second, third);
                case 'b':
                    return ground.bowlVerdict(first, second);
                case 'c':
                    return ground.coverVerdict(first, true);
                case 'u':
                    return ground.coverVerdict(first, false);
                case 'e':
                    return ground.endVerdict(first);
                default:
                    return rangeVerdict(first, 1, MOST_PASS_HOURS);
            }
        }

        private void carryOut(Ground ground) {
            switch (kind) {
                case 'r':
                    ground.beginRolling(first, second, third);
                    break;
                case 'b':
                    ground.bowlBalls(first, second);
                    break;
                case 'c':
                    ground.pitches[first].isCovered = true;
                    break;
                case 'u':
                    ground.pitches[first].isCovered = false;
                    break;
                case 'e':
                    ground.played[first].isEnded = true;
                    break;
                default:
                    ground.letHoursGoBy(first);
                    break;
            }
        }
    }
}

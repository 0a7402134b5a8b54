/** The boundary cases of promises 1 to 6 and of the section TEXTS, sentence by sentence. */
public final class TextEdgesTest {
    private static final int SYNTAX = 1;
    private static final int RANGE = 2;
    private static final int LIMIT = 3;
    private static final String HEAD = "disks 3 stripes 4 base 4 seek 16; rebuild 100 10 0 window 2 cache 2;";
    private static final String ARRAY = HEAD + "tenant 0 50 0; tenant 200 25 500; slack 5;";
    private static final String[] ARRAY_PARTS = {"disks ", " stripes ", " base ", " seek ", ";rebuild ", " ", " ",
        " window ", " cache ", ";tenant ", " ", " ", ";slack ", ";"};
    private static final int[] ARRAY_NUMBERS = {4, 9, 4, 16, 0, 10, 0, 2, 2, 0, 25, 0, 5};

    public static void main(String[] args) {
        nothingBeforeTheFirstArray();
        nothingAfterARefusedFirstArray();
        bufferOf800Bytes();
        fourBytesOfEachParameter();
        lengthOfAnArrayText();
        bufferIsEmptiedUnlessLengthIsWrong();
        lengthCutsTheText();
        longestText();
        everythingBeginsAnew();
        rangesOfAnArray();
        limitIsZeroOrFromTheReservation();
        slackMayBeMissing();
        atMostFiveTenants();
        numbersOfFiveDigits();
        wordsAreAsLongAsPossible();
        blanksAreSpacesAndLineFeeds();
        wordsAndNumbersNeedABlankBetween();
        everyByteBehindAnArray();
        everyByteBetweenWordAndNumber();
        everyEndOfAnArray();
        everyEndOfATrace();
        leastPositionAndLeastCode();
        ticksOfATrace();
        ticksNearTheEndOfTime();
        tenantsOfATrace();
        unitsOfATrace();
        deadlinesOfATrace();
        linesOfATrace();
        lengthOfATraceText();
        traceWithoutAnArray();
        traceReplacesWhatIsToCome();
        errorsOfTheLatestText();
        Check.end();
    }

    // ---- helpers

    private static void arrayIs(String text, int tenants) {
        RebuildScheduler x = new RebuildScheduler();
        Check.is(text, x.loadArray(Check.feed(x, text)), tenants);
        Check.is("errorCode of " + text, x.errorCode(), 0);
        Check.is("errorPosition of " + text, x.errorPosition(), -1);
    }

    private static void arrayFails(String text, int code, int position) {
        RebuildScheduler x = new RebuildScheduler();
        int length = Check.feed(x, text);
        Check.noState(text, () -> x.loadArray(length));
        Check.is("errorCode of " + text, x.errorCode(), code);
        Check.is("errorPosition of " + text, x.errorPosition(), position);
        Check.is("no array of " + text, x.diskCount(), 0);
    }

    /** The sign ^ marks the position of the error. */
    private static void arrayFails(int code, String marked) {
        arrayFails(marked.replace("^", ""), code, marked.indexOf('^'));
    }

    private static void traceIs(RebuildScheduler x, String text, int lines) {
        Check.is(text, Check.trace(x, text), lines);
        Check.is("errorCode of " + text, x.errorCode(), 0);
        Check.is("errorPosition of " + text, x.errorPosition(), -1);
    }

    private static void traceFails(RebuildScheduler x, int code, String marked) {
        String before = Snapshot.withoutErrors(x);
        int length = Check.feed(x, marked.replace("^", ""));
        Check.noState(marked, () -> x.loadTrace(length));
        Check.is("errorCode of " + marked, x.errorCode(), code);
        Check.is("errorPosition of " + marked, x.errorPosition(), marked.indexOf('^'));
        Check.is("what else is asked after " + marked, Snapshot.withoutErrors(x), before);
        Check.is("the buffer after " + marked, x.feed(0, 0, 0, 0, 0), 20);
        Check.noState("bytes of 0", () -> x.loadTrace(20));
    }

    private static RebuildScheduler at(int tick) {
        RebuildScheduler x = Check.loaded(ARRAY);
        Check.advanceTo(x, tick);
        return x;
    }

    // ---- promises 1 to 3

    private static void nothingBeforeTheFirstArray() {
        Check.about("Before the first array is loaded, there are no disks, stripes and tenants");
        RebuildScheduler x = new RebuildScheduler();
        for (int any : new int[] {Integer.MIN_VALUE, -1, 0, 1, 5, 63, Integer.MAX_VALUE}) {
            Check.noElement("stripeOf", () -> x.stripeOf(any));
            Check.noElement("diskOf", () -> x.diskOf(any));
            Check.noElement("parityDisk", () -> x.parityDisk(any));
            Check.noElement("share", () -> x.share(any, 0));
            Check.noElement("submit", () -> x.submit(any, any, false, -1));
            Check.noElement("fail", () -> x.fail(any));
            Check.noElement("setShare", () -> x.setShare(any, 1, 1, 1));
            Check.noElement("queueLength", () -> x.queueLength(any, any));
            Check.noElement("tag", () -> x.tag(any, any, 0));
            Check.noElement("serving", () -> x.serving(any));
            Check.noElement("busyUntil", () -> x.busyUntil(any));
            Check.noElement("position", () -> x.position(any));
            Check.noElement("busyTime", () -> x.busyTime(any));
            Check.noElement("behind", () -> x.behind(any, any));
            Check.noElement("chosen", () -> x.chosen(any, 0));
            Check.noElement("finishedAt", () -> x.finishedAt(any));
            Check.noElement("pending", () -> x.pending(any));
            Check.noElement("finished", () -> x.finished(any));
            Check.noElement("totalLatency", () -> x.totalLatency(any));
            Check.noElement("worstLatency", () -> x.worstLatency(any));
            Check.noElement("late", () -> x.late(any));
            Check.noElement("stripeState", () -> x.stripeState(any));
            Check.noElement("isHeld", () -> x.isHeld(any, any));
            Check.noElement("stripeDeadline", () -> x.stripeDeadline(any));
        }
        Check.is("all else is as in a new object", Snapshot.of(x), Snapshot.of(new RebuildScheduler()));
    }

    private static void nothingAfterARefusedFirstArray() {
        Check.about("if the text has an error; then only the buffer, errorCode() and errorPosition() change");
        RebuildScheduler x = new RebuildScheduler();
        int length = Check.feed(x, ARRAY + "slack 5;");
        Check.noState("a second slack", () -> x.loadArray(length));
        Check.is("diskCount", x.diskCount(), 0);
        Check.is("stripeCount", x.stripeCount(), 0);
        Check.is("tenantCount", x.tenantCount(), 0);
        Check.noElement("serving", () -> x.serving(0));
        Check.noState("advance", () -> x.advance(1));
        Check.noState("promise", () -> x.promise(1));
        Check.noState("loadTrace", () -> x.loadTrace(0));
        Check.is("what is asked", Snapshot.withoutErrors(x), Snapshot.withoutErrors(new RebuildScheduler()));
    }

    private static void bufferOf800Bytes() {
        Check.about("if the length would exceed 800; nothing is appended then");
        RebuildScheduler x = new RebuildScheduler();
        for (int length = 20; length <= 800; length += 20) {
            Check.is("feed", x.feed(0x20202020, 0x20202020, 0x20202020, 0x20202020, 0x20202020), length);
        }
        Check.noState("820 bytes", () -> x.feed(0, 0, 0, 0, 0));
        Check.noState("820 bytes, once more", () -> x.feed(-1, -1, -1, -1, -1));
        Check.noArgument("801 bytes are not there", () -> x.loadArray(801));
        Check.noState("800 blanks", () -> x.loadArray(800));
        Check.is("the end is missed, not a byte of the refused ones", x.errorPosition(), 800);
        Check.is("an empty buffer takes bytes again", x.feed(0, 0, 0, 0, 0), 20);
    }

    private static void fourBytesOfEachParameter() {
        Check.about("the four bytes of each parameter in order, the most significant byte first");
        for (int place = 0; place < 20; place++) {
            int[] words = {0x20202020, 0x20202020, 0x20202020, 0x20202020, 0x20202020};
            words[place / 4] |= 0xff << 24 - place % 4 * 8;
            RebuildScheduler x = new RebuildScheduler();
            x.feed(words[0], words[1], words[2], words[3], words[4]);
            Check.noState("byte 255", () -> x.loadArray(20));
            Check.is("the place of byte 255", x.errorPosition(), place);
        }
        RebuildScheduler x = new RebuildScheduler();
        Check.is("the least number", x.feed(Integer.MIN_VALUE, -1, 0, 1, Integer.MAX_VALUE), 20);
        Check.noState("byte 128", () -> x.loadArray(20));
        Check.is("is the first", x.errorPosition(), 0);
    }

    private static void lengthOfAnArrayText() {
        Check.about("if length is out of range; errorCode() and errorPosition() do not change then");
        RebuildScheduler x = new RebuildScheduler();
        Check.noArgument("1 of an empty buffer", () -> x.loadArray(1));
        Check.noArgument("-1 of an empty buffer", () -> x.loadArray(-1));
        Check.is("errorCode", x.errorCode(), 0);
        Check.is("errorPosition", x.errorPosition(), -1);
        Check.noState("0 of an empty buffer is an empty text", () -> x.loadArray(0));
        Check.is("errorCode", x.errorCode(), SYNTAX);
        Check.is("errorPosition", x.errorPosition(), 0);
        x.feed(0x20202020, 0x20202020, 0x20202020, 0x20202020, 0x20202020);
        for (int wrong : new int[] {-1, 21, 801, Integer.MIN_VALUE, Integer.MAX_VALUE}) {
            Check.noArgument("length " + wrong, () -> x.loadArray(wrong));
            Check.is("errorCode", x.errorCode(), SYNTAX);
            Check.is("errorPosition", x.errorPosition(), 0);
        }
        Check.noState("length 20", () -> x.loadArray(20));
        Check.is("errorPosition", x.errorPosition(), 20);
    }

    private static void bufferIsEmptiedUnlessLengthIsWrong() {
        Check.about("The buffer is emptied unless an IllegalArgumentException is thrown");
        RebuildScheduler x = new RebuildScheduler();
        x.feed(0, 0, 0, 0, 0);
        Check.noArgument("length 21", () -> x.loadArray(21));
        Check.noArgument("length -1", () -> x.loadTrace(-1));
        Check.is("it stays", x.feed(0, 0, 0, 0, 0), 40);
        Check.noState("an array with an error", () -> x.loadArray(0));
        Check.is("it is emptied, not only of the length", x.feed(0, 0, 0, 0, 0), 20);
        Check.noState("a trace without an array", () -> x.loadTrace(0));
        Check.is("it is emptied", x.feed(0, 0, 0, 0, 0), 20);
        Check.noState("an error", () -> x.loadArray(20));
        x.loadArray(Check.feed(x, ARRAY));
        Check.is("it is emptied by an array", x.feed(0, 0, 0, 0, 0), 20);
        Check.noState("a trace with an error", () -> x.loadTrace(1));
        Check.is("it is emptied", x.feed(0, 0, 0, 0, 0), 20);
        Check.is("a trace", x.loadTrace(0), 0);
        Check.is("it is emptied by a trace", x.feed(0, 0, 0, 0, 0), 20);
    }

    private static void lengthCutsTheText() {
        Check.about("Parses the first length bytes of the buffer");
        RebuildScheduler x = new RebuildScheduler();
        Check.feed(x, HEAD + "tenant 0 50 0;;;;");
        Check.is("what is behind is not read", x.loadArray(HEAD.length() + 14), 2);
        Check.feed(x, HEAD + "slack 5000;");
        Check.noState("slack 500 without its sign", () -> x.loadArray(HEAD.length() + 9));
        Check.is("the number ends with the length", x.errorCode(), SYNTAX);
        Check.is("errorPosition", x.errorPosition(), HEAD.length() + 9);
        Check.feed(x, HEAD + "slack 5000;");
        Check.noState("slack 5000", () -> x.loadArray(HEAD.length() + 11));
        Check.is("errorCode", x.errorCode(), RANGE);
    }

    private static void longestText() {
        Check.about("number of bytes, 0 to the length of the buffer");
        StringBuilder longest = new StringBuilder(ARRAY);
        while (longest.length() < 799) {
            longest.insert(ARRAY.indexOf(';'), '\n');
        }
        RebuildScheduler x = new RebuildScheduler();
        Check.is("800 bytes", x.loadArray(Check.feed(x, longest + " ")), 3);
        int length = Check.feed(x, longest + "#");
        Check.noState("800 bytes, the last is wrong", () -> x.loadArray(length));
        Check.is("errorPosition", x.errorPosition(), 799);
    }

    /** The old array leaves 400 requests that are not finished, full queues and last tags far ahead. */
    private static void everythingBeginsAnew() {
        Check.about("everything begins anew at tick 0: no disk has failed, there are no requests, no trace, no promise");
        RebuildScheduler used = Check.loaded("disks 6 stripes 64 base 9 seek 9; rebuild 1 1 1 window 8 cache 64;"
                + "tenant 1 1 1; tenant 1 1 1; tenant 1 1 1; slack 0;");
        Check.trace(used, "at 2 1 reads 6; at 900 2 reads 29;");
        used.promise(5);
        for (int i = 0; i < 399; i++) {
            used.submit(1 + i % 3, i % 9, i % 2 == 0, i % 5 == 0 ? 9 : -1);
        }
        used.advance(30);
        used.fail(2);
        used.advance(30);
        RebuildScheduler fresh = new RebuildScheduler();
        for (int round = 0; round < 2; round++) {
            Check.is("loadArray", used.loadArray(Check.feed(used, ARRAY)), fresh.loadArray(Check.feed(fresh, ARRAY)));
            Check.is("at tick 0", Snapshot.of(used), Snapshot.of(fresh));
            for (int step = 0; step < 40; step++) {
                for (RebuildScheduler x : new RebuildScheduler[] {used, fresh}) {
                    x.submit(1 + step % 2, step % 8, step % 3 == 0, step % 4 == 0 ? 120 : -1);
                    if (step == 9) {
                        x.fail(1);
                    }
                    x.advance(3);
                }
                Check.is("at tick " + used.now(), Snapshot.of(used), Snapshot.of(fresh));
            }
        }
    }

    // ---- the section TEXTS: an array

    private static String[] withNumber(int place, int number) {
        StringBuilder before = new StringBuilder();
        StringBuilder all = new StringBuilder();
        for (int i = 0; i < ARRAY_NUMBERS.length; i++) {
            all.append(ARRAY_PARTS[i]);
            if (i == place) {
                before.append(all);
            }
            all.append(i == place ? number : ARRAY_NUMBERS[i]);
        }
        return new String[] {all + ARRAY_PARTS[ARRAY_NUMBERS.length], before.toString()};
    }

    private static void range(int place, int least, int most) {
        for (int number : new int[] {0, least - 1, least, least + 1, most - 1, most, most + 1, 99999}) {
            String[] text = withNumber(place, Math.max(0, number));
            if (Math.max(0, number) < least || number > most) {
                arrayFails(text[0], RANGE, text[1].length());
            } else {
                arrayIs(text[0], 2);
            }
        }
    }

    private static void rangesOfAnArray() {
        Check.about("DISKS is 3 to 6");
        range(0, 3, 6);
        Check.about("STRIPES 1 to 64");
        range(1, 1, 64);
        Check.about("BASE 1 to 50");
        range(2, 1, 50);
        Check.about("SEEK 0 to 99");
        range(3, 0, 99);
        Check.about("RESERVATION 0 to 1000");
        range(4, 0, 1000);
        range(9, 0, 1000);
        Check.about("WEIGHT 1 to 100");
        range(5, 1, 100);
        range(10, 1, 100);
        Check.about("WINDOW 1 to 8");
        range(7, 1, 8);
        Check.about("CACHE 0 to 64");
        range(8, 0, 64);
        Check.about("SLACK 0 to 500");
        range(12, 0, 500);
    }

    private static void limitIsZeroOrFromTheReservation() {
        Check.about("LIMIT 0 or RESERVATION to 1000 (and at least 1)");
        for (int reservation : new int[] {0, 1, 2, 500, 999, 1000}) {
            for (int limit : new int[] {0, 1, 2, reservation - 1, reservation, reservation + 1, 999, 1000, 1001}) {
                int given = Math.max(0, limit);
                String shares = reservation + " 9 ";
                boolean isFine = given == 0 || given >= reservation && given <= 1000;
                String rebuild = "disks 3 stripes 4 base 4 seek 16; rebuild " + shares;
                String tenant = HEAD + "tenant " + shares;
                if (isFine) {
                    arrayIs(rebuild + given + " window 2 cache 2;", 1);
                    arrayIs(tenant + given + ";", 2);
                } else {
                    arrayFails(rebuild + given + " window 2 cache 2;", RANGE, rebuild.length());
                    arrayFails(tenant + given + ";", RANGE, tenant.length());
                }
            }
        }
    }

    private static void slackMayBeMissing() {
        Check.about("[ \"slack\" SLACK \";\" ]");
        arrayIs(HEAD, 1);
        arrayIs(HEAD + "slack 0;", 1);
        arrayIs(HEAD + "tenant 0 1 0;", 2);
        arrayIs(HEAD + "tenant 0 1 0;slack 500;", 2);
        arrayFails(SYNTAX, HEAD + "slack ^;");
        arrayFails(SYNTAX, HEAD + "slack 5;^slack 5;");
        arrayFails(SYNTAX, HEAD + "slack 5;^tenant 0 1 0;");
        arrayFails(SYNTAX, HEAD + "^lack 5;");
    }

    private static void atMostFiveTenants() {
        Check.about("3 LIMIT: the word tenant of a sixth tenant");
        StringBuilder text = new StringBuilder(HEAD);
        for (int tenants = 1; tenants <= 6; tenants++) {
            arrayIs(text.toString(), tenants);
            arrayIs(text + "slack 7;", tenants);
            text.append("tenant 0 1 0;");
        }
        String five = text.substring(0, text.length() - 13);
        arrayFails(LIMIT, five + "^tenant 0 1 0;");
        arrayFails(LIMIT, five + "\n ^tenant");
        arrayFails(LIMIT, five + "^tenant 9999 0 0 slack");
        arrayFails(LIMIT, five + "^tenant 0 1 0;tenant 0 1 0;");
        arrayFails(SYNTAX, five + "^tenants 0 1 0;");
        arrayFails(SYNTAX, five + "^;tenant 0 1 0;");
        arrayFails(RANGE, five.substring(0, five.length() - 2) + "^1001;tenant 0 1 0;");
        RebuildScheduler x = Check.loaded(ARRAY);
        int length = Check.feed(x, five + "tenant 0 1 0;");
        Check.noState("the old array stays", () -> x.loadArray(length));
        Check.is("tenantCount", x.tenantCount(), 3);
    }

    private static void numbersOfFiveDigits() {
        Check.about("a number of more than 5 digits");
        arrayIs(HEAD.replace("disks 3", "disks 00003") + "slack 00500;", 1);
        arrayIs(HEAD.replace("seek 16", "seek 00000"), 1);
        arrayFails(RANGE, "disks ^99999 stripes");
        arrayFails(SYNTAX, "disks ^100000 stripes");
        arrayFails(SYNTAX, "disks ^000003 stripes 4");
        arrayFails(SYNTAX, "disks ^4294967299 stripes 4");
        arrayFails(SYNTAX, "disks ^18446744073709551619 stripes 4");
        arrayFails(SYNTAX, HEAD + "slack ^000005;");
        arrayFails(SYNTAX, HEAD + "slack ^000005");
    }

    private static void wordsAreAsLongAsPossible() {
        Check.about("A token is a word, a number, or the sign ; and is as long as possible");
        arrayFails(SYNTAX, "^disk 3 stripes 4");
        arrayFails(SYNTAX, "^disksdisks 3 stripes 4");
        arrayFails(SYNTAX, "^d isks 3 stripes 4");
        arrayFails(SYNTAX, "disks 3 ^stripe 4");
        arrayFails(SYNTAX, HEAD + "^tenantslack");
        arrayFails(RANGE, "disks ^33 stripes 4");
        arrayFails(SYNTAX, "disks 3 ^3 stripes 4");
        arrayFails(SYNTAX, HEAD + "^;;");
    }

    private static void blanksAreSpacesAndLineFeeds() {
        Check.about("Spaces (byte 32) and line feeds (byte 10) may stand between any two tokens and at both ends");
        arrayIs("\n \n" + ARRAY.replace(" ", "\n").replace(";", "\n ;  \n") + "\n \n", 3);
        arrayIs(ARRAY.replace("; ", ";").replace(" ;", ";"), 3);
        for (String blanks : new String[] {"", " ", "\n", " \n \n "}) {
            arrayFails(blanks, SYNTAX, blanks.length());
            traceIs(Check.loaded(ARRAY), blanks, 0);
        }
        arrayFails(SYNTAX, "^\t" + ARRAY);
        arrayFails(SYNTAX, ARRAY + " ^\r");
        arrayFails(SYNTAX, "disks^\u00a03");
    }

    private static void wordsAndNumbersNeedABlankBetween() {
        Check.about("A word or number directly behind a word or number needs at least one of them between");
        arrayFails(SYNTAX, "disks^3 stripes 4");
        arrayFails(SYNTAX, "disks 3^stripes 4");
        arrayFails(SYNTAX, "disks 3 stripes^4");
        arrayFails(SYNTAX, "disks^2 stripes 4");
        arrayFails(RANGE, "disks ^2stripes 4");
        arrayFails(SYNTAX, HEAD + "tenant^0 1 0;");
        arrayFails(SYNTAX, HEAD + "tenant 0 1 0^slack 5;");
        arrayFails(SYNTAX, HEAD + "slack 5^x;");
        traceFails(at(10), SYNTAX, "at^11 1 reads 0;");
        traceFails(at(10), SYNTAX, "at 11 1^reads 0;");
        traceFails(at(10), SYNTAX, "at 11 1 reads^0;");
        traceFails(at(10), SYNTAX, "at 11 1 reads 0^by 11;");
        traceFails(at(10), SYNTAX, "at 11 1 reads 0 by^11;");
        traceFails(at(10), SYNTAX, "at 11 1 reads 0 by 11^at 11 1 reads 0;");
    }

    private static void everyByteBehindAnArray() {
        Check.about("1 SYNTAX: a token that the grammar does not allow there; any other byte");
        for (int sign = 0; sign < 256; sign++) {
            if (sign == ' ' || sign == '\n') {
                arrayIs(ARRAY + (char) sign, 3);
                traceIs(Check.loaded(ARRAY), "at 1 1 reads 0;" + (char) sign, 1);
            } else {
                arrayFails(ARRAY + (char) sign, SYNTAX, ARRAY.length());
                RebuildScheduler x = Check.loaded(ARRAY);
                int length = Check.feed(x, "at 1 1 reads 0;" + (char) sign);
                Check.noState("byte " + sign, () -> x.loadTrace(length));
                Check.is("byte " + sign, x.errorCode(), SYNTAX);
                Check.is("byte " + sign, x.errorPosition(), 15);
            }
        }
    }

    private static void everyByteBetweenWordAndNumber() {
        Check.about("a token is as long as possible; any other byte; a number directly behind a word");
        for (int sign = 0; sign < 256; sign++) {
            String text = ARRAY.replace("disks ", "disks" + (char) sign);
            if (sign == ' ' || sign == '\n') {
                arrayIs(text, 3);
            } else if (sign >= 'a' && sign <= 'z') {
                arrayFails(text, SYNTAX, 0);
            } else {
                arrayFails(text, SYNTAX, 5);
            }
        }
    }

    private static boolean isLetter(String text, int at) {
        return at >= 0 && at < text.length() && text.charAt(at) >= 'a' && text.charAt(at) <= 'z';
    }

    /** Where the error of a text that was cut stands; its numbers have one digit each. */
    private static int errorOfCut(String text, int length) {
        if (!isLetter(text, length - 1) || !isLetter(text, length)) {
            return length;
        }
        int start = length;
        while (isLetter(text, start - 1)) {
            start--;
        }
        return start;
    }

    private static void everyEndOfAnArray() {
        Check.about("the end of the text where more is needed (position: the length)");
        String text = "disks 3 stripes 4 base 4 seek 9 ; rebuild 9 8 0 window 2 cache 2; tenant 0 5 0; tenant 2 5 7;slack 5; ";
        for (int length = 0; length <= text.length(); length++) {
            String cut = text.substring(0, length);
            if (cut.contains("cache") && cut.trim().endsWith(";")) {
                arrayIs(cut, cut.split("tenant", -1).length);
            } else {
                arrayFails(cut, SYNTAX, errorOfCut(text, length));
            }
        }
    }

    private static void everyEndOfATrace() {
        Check.about("the end of the text where more is needed (position: the length)");
        String text = " at 3 1 reads 0; at 3 2 writes 5 by 9 ;at 7 1 reads 1 by 7; ";
        for (int length = 0; length <= text.length(); length++) {
            String cut = text.substring(0, length);
            RebuildScheduler x = Check.loaded(ARRAY);
            if (cut.isBlank() || cut.trim().endsWith(";")) {
                traceIs(x, cut, cut.split(";", -1).length - 1);
            } else {
                Check.feed(x, text);
                int given = length;
                Check.noState(cut, () -> x.loadTrace(given));
                Check.is("errorCode of " + cut, x.errorCode(), SYNTAX);
                Check.is("errorPosition of " + cut, x.errorPosition(), errorOfCut(text, length));
            }
        }
    }

    private static void leastPositionAndLeastCode() {
        Check.about("The error with the least position is reported, of several at one position the least code");
        arrayFails(RANGE, "disks ^2 stripes 65 base #");
        arrayFails(RANGE, "disks ^7#");
        arrayFails(SYNTAX, "disks ^# 7");
        arrayFails(SYNTAX, "^3 disks");
        arrayFails(SYNTAX, "disks ^999999 stripes 0");
        arrayFails(RANGE, HEAD + "tenant ^1001 0 1;");
        arrayFails(RANGE, HEAD + "tenant 1000 ^0 999;");
        arrayFails(RANGE, HEAD + "tenant 1000 1 ^999");
        arrayFails(SYNTAX, HEAD + "tenant 1000 1 ^000999;");
        arrayFails(SYNTAX, HEAD + "slack 5; ^tenant 0 1 0;tenant 0 1 0;tenant 0 1 0;tenant 0 1 0;tenant 0 1 0;tenant 0 1 0;");
        traceFails(at(10), RANGE, "at ^10 0 reads 8 by 9;");
        traceFails(at(10), SYNTAX, "at ^000011 0 reads 8 by 9;");
        traceFails(at(10), RANGE, "at 11 ^0 reads 8 by 9;");
        traceFails(at(10), RANGE, "at 11 1 reads ^8 by 9;");
        traceFails(at(10), RANGE, "at 11 1 reads 7 by ^9");
        traceFails(at(10), SYNTAX, "at 11 1 ^by 9;");
    }

    // ---- the section TEXTS: a trace

    private static void ticksOfATrace() {
        Check.about("TICK is the present tick plus 1 to 99999, and not less than TICK of the line before");
        traceFails(at(0), RANGE, "at ^0 1 reads 0;");
        traceIs(at(0), "at 1 1 reads 0;", 1);
        traceIs(at(0), "at 99999 1 reads 0;", 1);
        traceFails(at(10), RANGE, "at ^10 1 reads 0;");
        traceFails(at(10), RANGE, "at ^0 1 reads 0;");
        traceIs(at(10), "at 11 1 reads 0;", 1);
        traceIs(at(10), "at 00011 1 reads 0;", 1);
        traceFails(at(10), SYNTAX, "at ^100000 1 reads 0;");
        traceIs(at(10), "at 50 1 reads 0; at 50 2 reads 0; at 51 1 reads 0;", 3);
        traceFails(at(10), RANGE, "at 50 1 reads 0; at ^49 1 reads 0;");
        traceFails(at(10), RANGE, "at 99999 1 reads 0; at ^99998 1 reads 0;");
        traceFails(at(10), RANGE, "at 50 1 reads 0; at 60 1 reads 0; at ^59 1 reads 0;");
        RebuildScheduler x = at(10);
        traceIs(x, "at 50 1 reads 0;", 1);
        traceIs(x, "at 11 1 reads 0;", 1);
    }

    private static void ticksNearTheEndOfTime() {
        Check.about("TICK is the present tick plus 1 to 99999");
        RebuildScheduler x = at(99998);
        traceFails(x, RANGE, "at ^99998 1 reads 0;");
        traceIs(x, "at 99999 1 reads 0 by 99999;", 1);
        x.advance(1);
        Check.is("the line of the last tick came", x.requestCount(), 1);
        traceFails(x, RANGE, "at ^99999 1 reads 0;");
        traceFails(x, RANGE, "at ^1 1 reads 0;");
        traceIs(x, "", 0);
    }

    private static void tenantsOfATrace() {
        Check.about("TENANT is a tenant from 1 on");
        traceFails(at(10), RANGE, "at 11 ^0 reads 0;");
        traceIs(at(10), "at 11 1 reads 0;", 1);
        traceIs(at(10), "at 11 2 reads 0;", 1);
        traceFails(at(10), RANGE, "at 11 ^3 reads 0;");
        traceFails(at(10), RANGE, "at 11 ^99999 reads 0;");
        traceFails(at(10), SYNTAX, "at 11 ^reads 0;");
        RebuildScheduler lonely = Check.loaded(HEAD);
        traceFails(lonely, RANGE, "at 11 ^0 reads 0;");
        traceFails(lonely, RANGE, "at 11 ^1 reads 0;");
        traceIs(lonely, "", 0);
        RebuildScheduler crowded = Check.loaded(HEAD
                + "tenant 0 1 0;tenant 0 1 0;tenant 0 1 0;tenant 0 1 0;tenant 0 1 0;");
        traceIs(crowded, "at 11 5 reads 0;", 1);
        traceFails(crowded, RANGE, "at 11 ^6 reads 0;");
    }

    private static void unitsOfATrace() {
        Check.about("UNIT a unit");
        traceIs(at(10), "at 11 1 reads 0; at 11 1 writes 7;", 2);
        traceFails(at(10), RANGE, "at 11 1 reads ^8;");
        traceFails(at(10), RANGE, "at 11 1 writes ^99999;");
        traceFails(at(10), SYNTAX, "at 11 1 reads ^;");
        String rest = " base 1 seek 0; rebuild 0 1 0 window 1 cache 0; tenant 0 1 0;";
        traceIs(Check.loaded("disks 3 stripes 1" + rest), "at 1 1 reads 1;", 1);
        traceFails(Check.loaded("disks 3 stripes 1" + rest), RANGE, "at 1 1 reads ^2;");
        traceIs(Check.loaded("disks 6 stripes 64" + rest), "at 1 1 reads 319;", 1);
        traceFails(Check.loaded("disks 6 stripes 64" + rest), RANGE, "at 1 1 reads ^320;");
    }

    private static void deadlinesOfATrace() {
        Check.about("DEADLINE is TICK to 99999");
        traceIs(at(10), "at 50 1 reads 0 by 50; at 50 1 reads 0 by 99999; at 99999 1 writes 0 by 99999;", 3);
        traceFails(at(10), RANGE, "at 50 1 reads 0 by ^49;");
        traceFails(at(10), RANGE, "at 50 1 reads 0 by ^0;");
        traceFails(at(10), SYNTAX, "at 50 1 reads 0 by ^100000;");
        traceFails(at(10), SYNTAX, "at 50 1 reads 0 by ^;");
        RebuildScheduler x = at(10);
        traceIs(x, "at 50 1 reads 0 by 50; at 50 1 reads 1;", 2);
        x.advance(50);
        Check.is("a deadline of TICK is missed", x.late(1), 1);
        Check.is("the line behind it has none of its own", x.finished(1), 2);
    }

    private static void linesOfATrace() {
        Check.about("A trace has at most 100 lines");
        // 100 lines have at least 1500 bytes: with a buffer of 800 bytes there are at most 53
        StringBuilder most = new StringBuilder();
        for (int i = 0; i < 53; i++) {
            most.append("at 1 1 reads 0;");
        }
        RebuildScheduler x = Check.loaded(ARRAY);
        traceIs(x, most.toString(), 53);
        Check.is("traceLines", x.traceLines(), 53);
        traceFails(x, SYNTAX, most.substring(0, 779) + "^a");
    }

    // ---- promises 4 to 6

    private static void lengthOfATraceText() {
        Check.about("if length is out of range; errorCode() and errorPosition() do not change then");
        RebuildScheduler x = Check.loaded(ARRAY);
        Check.noArgument("1 of an empty buffer", () -> x.loadTrace(1));
        Check.noArgument("-1 of an empty buffer", () -> x.loadTrace(-1));
        Check.is("errorCode", x.errorCode(), 0);
        Check.feed(x, "at 1 1 reads 9;");
        Check.noState("an error", () -> x.loadTrace(15));
        Check.feed(x, "at 1 1 reads 0;at 1 1 reads 0; at 1 1 reads 0;");
        for (int wrong : new int[] {-1, 61, Integer.MIN_VALUE, Integer.MAX_VALUE}) {
            Check.noArgument("length " + wrong, () -> x.loadTrace(wrong));
            Check.is("errorCode", x.errorCode(), RANGE);
            Check.is("errorPosition", x.errorPosition(), 13);
            Check.is("traceLines", x.traceLines(), 0);
        }
        Check.is("the first 30 bytes", x.loadTrace(30), 2);
        Check.is("errorCode", x.errorCode(), 0);
        Check.noArgument("the third line is not kept", () -> x.loadTrace(1));
        Check.is("0 of an empty buffer is an empty trace", x.loadTrace(0), 0);
    }

    private static void traceWithoutAnArray() {
        Check.about("if there is no array (the buffer is emptied; nothing else changes)");
        RebuildScheduler x = new RebuildScheduler();
        int length = Check.feed(x, "at 1 1 reads ##");
        Check.noArgument("the length comes first", () -> x.loadTrace(21));
        Check.noState("no array", () -> x.loadTrace(length));
        Check.is("the text was not parsed", Snapshot.of(x), Snapshot.of(new RebuildScheduler()));
        Check.is("the buffer is emptied", x.feed(0, 0, 0, 0, 0), 20);
        Check.noState("an array with an error at 0", () -> x.loadArray(20));
        Check.noState("no array, and no text", () -> x.loadTrace(0));
        Check.is("errorCode of the array", x.errorCode(), SYNTAX);
        Check.is("errorPosition of the array", x.errorPosition(), 0);
    }

    private static void traceReplacesWhatIsToCome() {
        Check.about("it replaces the lines of the old one that are still to come");
        RebuildScheduler x = Check.loaded(ARRAY);
        traceIs(x, "at 5 1 reads 0; at 5 1 reads 1; at 6 1 reads 2; at 7 1 reads 3;", 4);
        x.advance(5);
        Check.is("the lines of this tick came", x.requestCount(), 2);
        Check.is("two are to come", x.traceLines(), 2);
        traceIs(x, "at 6 2 reads 4;", 1);
        Check.is("one is to come", x.traceLines(), 1);
        x.advance(1);
        Check.is("it came alone", x.requestCount(), 3);
        Check.is("none is to come", x.traceLines(), 0);
        traceIs(x, "at 7 2 reads 4;", 1);
        traceIs(x, "", 0);
        x.advance(9);
        Check.is("an empty trace replaces too", x.requestCount(), 3);
        Check.is("lostLines: a line that was replaced is not lost", x.lostLines(), 0);
    }

    private static void errorsOfTheLatestText() {
        Check.about("the error found by the latest call of loadArray() or loadTrace() that parsed a text");
        RebuildScheduler x = new RebuildScheduler();
        Check.is("there was no such call", x.errorCode(), 0);
        Check.is("there is none", x.errorPosition(), -1);
        Check.noState("an array", () -> x.loadArray(0));
        Check.is("errorCode", x.errorCode(), SYNTAX);
        x.loadArray(Check.feed(x, ARRAY));
        Check.is("it found none", x.errorCode(), 0);
        Check.is("there is none", x.errorPosition(), -1);
        traceFails(x, RANGE, "at 1 ^3 reads 0;");
        Check.is("of the bytes 0 behind it", x.errorPosition(), 0);
        traceIs(x, "", 0);
        int length = Check.feed(x, "disks 7");
        Check.noState("an array", () -> x.loadArray(length));
        Check.is("errorCode", x.errorCode(), RANGE);
        Check.is("errorPosition", x.errorPosition(), 6);
        traceIs(x, " ", 0);
        Check.is("a trace without an error clears that of an array", x.errorPosition(), -1);
    }
}

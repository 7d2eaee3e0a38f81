import java.util.LinkedHashMap;
import java.util.List;
import java.util.Map;
import java.util.NoSuchElementException;

/** All of an office that calls can find out, part by part. They are made with others that went the same way. */
final class Whole {
    static final String OFFICE = "the office";
    static final String TAPE = "the tape";
    static final String REASONS = "the reasons";
    static final String FAULT = "the fault position";
    static final String LINE = "the line";
    static final String CHANGES = "what can be undone";
    static final String SAVED = "what was saved";

    private final Map<String, String> parts = new LinkedHashMap<>();

    Whole(Desk x) {
        parts.put(OFFICE, Deeds.office(x));
        parts.put(TAPE, tape(x.again()));
        parts.put(REASONS, reasons(x.again()));
        parts.put(FAULT, fault(x.again()));
        parts.put(LINE, line(x.again()));
        parts.put(CHANGES, changes(x));
        parts.put(SAVED, saved(x.again()));
    }

    /** The parts that are other than before, but for those that may be. */
    String changedSince(Whole before, String... mayBe) {
        StringBuilder changed = new StringBuilder();
        for (String part : parts.keySet()) {
            if (!List.of(mayBe).contains(part) && !parts.get(part).equals(before.parts.get(part))) {
                changed.append(changed.length() == 0 ? "" : ", ").append(part);
            }
        }
        return changed.toString();
    }

    private static String tape(Desk x) {
        int length = x.account(11);
        try {
            int orders = x.run();
            return length + " characters: " + orders + " orders\n" + Deeds.office(x);
        } catch (IllegalArgumentException e) {
            return length + " characters: a fault at " + x.faultPosition();
        } catch (UnsupportedOperationException e) {
            return length + " characters: " + reasons(x);
        }
    }

    private static String reasons(Desk x) {
        StringBuilder text = new StringBuilder();
        for (int n = 0; n < 4; n++) {
            try {
                text.append(x.reason(n >= 2, n % 2 == 1)).append(' ');
            } catch (NoSuchElementException e) {
                text.append(". ");
            }
        }
        return text.toString();
    }

    private static String fault(Desk x) {
        try {
            return "" + x.faultPosition();
        } catch (NoSuchElementException e) {
            return ".";
        }
    }

    private static String line(Desk x) {
        StringBuilder text = new StringBuilder();
        try {
            while (true) {
                text.append(x.character(text.length()));
            }
        } catch (IndexOutOfBoundsException e) {
            return text.toString();
        }
    }

    private static String changes(Desk x) {
        StringBuilder text = new StringBuilder();
        int count = x.again().account(12);
        for (int n = 1; n <= count; n++) {
            Desk y = x.again();
            for (int k = 0; k < n; k++) {
                y.undo();
            }
            text.append(n).append(" undone\n").append(Deeds.office(y)).append('\n');
        }
        return text.toString();
    }

    private static String saved(Desk x) {
        try {
            x.restore();
            return Deeds.office(x);
        } catch (IllegalStateException e) {
            return ".";
        }
    }
}

import java.util.Random;

/** Promise 8: texts near a STREET, each FAULT held against the first byte with which the Model's expression can't begin. */
public final class FaultTest {
    private static final int TEXTS = 12000;
    private static final String SIGNS = "wishmostdear ;|&!()pskhfm<=>0123456789xW\n\0";
    private static final String[] PARTS = {"wish 1 ", "most 22 ", "dear 0 ", ";", "p=1", "s<22", "k>3", "h=0", "f<4", "m>59", "|", "&", "!", "(", ")", "((", "))", "!!"};

    public static void main(String[] args) {
        Random random = new Random(11);
        for (int i = 0; i < TEXTS && Check.wrongSoFar() < 20; i++) {
            StringBuilder text = new StringBuilder(random.nextInt(8) == 0 ? "" : PARTS[random.nextInt(3)]);
            int nested = 0;
            int parts = random.nextInt(14);
            for (int k = 0; k < parts; k++) {
                String part = PARTS[random.nextInt(20) == 0 ? random.nextInt(PARTS.length) : next(text, random, nested)];
                nested += part.startsWith("(") ? part.length() : part.startsWith(")") ? -part.length() : 0;
                text.append(part);
            }
            int flips = random.nextInt(3) == 0 ? 1 : 0;
            for (int k = 0; k < flips && text.length() > 0; k++) {
                text.setCharAt(random.nextInt(text.length()), SIGNS.charAt(random.nextInt(SIGNS.length())));
            }
            if (text.length() <= 100) {
                look(text.toString());
            }
        }
        Check.end();
    }

    /** Mostly a part that may stand behind the text. */
    private static int next(StringBuilder text, Random random, int nested) {
        char last = text.length() == 0 ? ';' : text.charAt(text.length() - 1);
        if (last == ';') {
            return random.nextInt(3);
        }
        if (last == ' ' || last == '|' || last == '&' || last == '!' || last == '(') {
            return new int[] {4, 5, 6, 7, 8, 9, 12, 13, 15, 17}[random.nextInt(10)];
        }
        return nested > 0 ? new int[] {10, 11, 14, 14}[random.nextInt(4)] : new int[] {3, 10, 11, 11}[random.nextInt(4)];
    }

    private static void look(String text) {
        int fault = Model.fault(text);
        Check.due("8: street of '" + text + "'", Check.street(new ThirdAlike(), text), fault < 0 ? 0 : -10 - fault);
    }
}

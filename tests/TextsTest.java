import java.util.Random;

/** Many drawn texts, right and spoilt, read by the class and by the model: the same fault at the same place. */
public final class TextsTest {
    public static void main(String[] args) {
        int texts = args.length > 0 ? Integer.parseInt(args[0]) : 40000;
        Random r = new Random(42);
        ElevenBullocks x = new ElevenBullocks();
        int wrong = 0;
        for (int i = 0; i < texts && wrong < 5; i++) {
            String text = i % 8 == 0 ? noise(r) : Texts.drawn(r, i % 4 != 1);
            int got = Texts.tell(x, text);
            int kind = 0;
            int place = -1;
            try {
                new Model.Parser(text.chars().toArray()).text();
            } catch (Model.FaultFound f) {
                kind = f.kind;
                place = f.place;
            }
            if ((got == -1) != (kind != 0) || x.fault(0) != kind || x.fault(1) != place) {
                wrong++;
                System.out.println("fault " + x.fault(0) + " at " + x.fault(1) + ", due is " + kind + " at " + place
                    + ": " + text);
            }
            x.back();
        }
        System.out.println(wrong == 0 ? "all faults are as due" : wrong + " faults are not as due");
        if (wrong != 0) {
            System.exit(1);
        }
    }

    /** Bytes without sense: all of them, or those that tokens are made of. */
    private static String noise(Random r) {
        StringBuilder text = new StringBuilder(r.nextBoolean() ? "pace " : "");
        String signs = "()-+*/<>=#;  ab1907if let be in end not\n";
        boolean any = r.nextInt(4) == 0;
        for (int n = r.nextInt(60); n > 0; n--) {
            text.append(any ? (char) r.nextInt(256) : signs.charAt(r.nextInt(signs.length())));
        }
        return text.toString();
    }
}

import java.util.Random;

/** What station() answers of many texts, beside the FAULT by its words. */
public final class FaultsTest {
    public static void main(String[] args) {
        Check check = new Check();
        Random random = new Random(7);
        int faults = 0;
        for (int i = 0; i < 4000; i++) {
            StringBuilder text = new StringBuilder(Texts.station(random));
            if (text.length() > 0 && random.nextInt(3) > 0) {
                Texts.spoil(text, random);
            }
            text.setLength(Math.min(text.length(), 100));
            int fault = Faults.of(text.toString());
            faults += fault >= 0 ? 1 : 0;
            check.same("station of " + text, Check.station(new VerandaTalk(), text.toString()),
                fault < 0 ? 0 : -10 - fault);
        }
        check.same("some are stations, some are not", faults > 1000 && faults < 3500 ? 1 : 0, 1);
        check.end();
    }
}

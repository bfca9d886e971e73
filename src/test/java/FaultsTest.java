import java.util.Random;

/** FAULTS (promise 10) of many texts by chance, held against the pattern in Plain. */
public final class FaultsTest {
    public static void main(String[] args) {
        Due due = new Due("FaultsTest");
        Texts texts = new Texts(new Random(7));
        for (int i = 0; i < 60000; i++) {
            String text = i % 7 == 0 ? texts.house() : texts.spoilt();
            String fed = text.substring(0, Math.min(100, text.length()));
            int want = Plain.isHouse(fed) ? 0 : -10 - Plain.fault(fed);
            due.is("house of " + fed, Due.house(new BellsBelow(), text), want);
        }
        due.ends();
    }
}

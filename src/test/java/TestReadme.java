import java.io.IOException;
import java.nio.file.Files;
import java.nio.file.Path;

/** What README.md says of use: its lines of Java stand here too, and answer what is said behind them. */
public final class TestReadme {
    private TestReadme() {
    }

    public static void main(String[] args) throws IOException {
        use();
        standsHere();
        Check.end();
    }

    private static void use() {
        CardNobodyReads card = new CardNobodyReads();
        int soup = card.line(0b000011, 10);
        int fish = card.line(0b000100, 20);
        int anna = card.guest(0b000100);
        card.know(1, soup, 0b000011, 0);
        int fit = card.sets();
        int lines = card.safe(anna);
        int tonight = card.order(anna);
        int asked = card.ask(0);
        int told = card.ask(1);
        int tasted = card.taste(0);
        long above = card.risk(anna, fish, 0);
        long below = card.risk(anna, fish, 1);
        Check.due("soup", soup, 0);
        Check.due("fish", fish, 1);
        Check.due("anna", anna, 0);
        Check.due("fit", fit, 48);
        Check.due("lines", lines, 1);
        Check.due("tonight", tonight, 0);
        Check.due("asked", asked, 12);
        Check.due("told", told, 12);
        Check.due("tasted", tasted, 1);
        Check.due("above", above, 1);
        Check.due("below", below, 4);
        texts(card);
        sheets(card);
    }

    private static void texts(CardNobodyReads card) {
        String words = "may many < 3 and not parts = 16 ; likes 99 - price ; learns 1 ;";
        for (int i = 0; i < words.length(); i++) {
            card.feed(1, words.charAt(i), 0, 0, 0, 0);
        }
        int text = card.text();
        int before = card.force(text);
        int lawful = card.sets();
        card.feed(4, 'm', 'a', 'y', ';', 0);
        int fault = card.text();
        Check.due("text", text, 1);
        Check.due("before", before, 0);
        Check.due("lawful", lawful, 36);
        Check.due("fault", fault, -103);
    }

    private static void sheets(CardNobodyReads card) {
        int meal = card.film(3);
        int alike = card.match(3);
        int kept = card.image();
        card.sheet(0, 2, 4);
        card.cell(0, 0, 0b001000);
        card.cell(0, 1, 30);
        int came = card.linesBy(0, 2, 0, 2);
        int back = card.back();
        Check.due("meal", meal, 2);
        Check.due("alike", alike, 12);
        Check.due("kept", kept, 2);
        Check.due("came", came, 1);
        Check.due("back", back, 2);
    }

    private static void standsHere() throws IOException {
        String here = Files.readString(Path.of("src/test/java/TestReadme.java"));
        boolean java = false;
        int found = 0;
        for (String line : Files.readAllLines(Path.of("README.md"))) {
            if (line.startsWith("```")) {
                java = line.equals("```java");
            } else if (java) {
                found++;
                String code = line.replaceAll("//.*", "").strip();
                Check.due("README's line stands here: " + code, here.contains(code + "\n") ? 1 : 0, 1);
            }
        }
        Check.due("README has lines of Java", Math.min(found, 25), 25);
    }
}

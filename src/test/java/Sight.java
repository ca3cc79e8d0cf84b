/** All that can be asked of a country, as a text, so that two countries can be compared. */
final class Sight {
    private Sight() {
    }

    /** What changes can change, without what can be undone. */
    static String ofCountry(FortHeralds x) {
        StringBuilder all = new StringBuilder();
        for (int what = 0; what <= 13; what++) {
            all.append(x.account(what)).append(' ');
        }
        for (int one = 0; one < 8; one++) {
            for (int what = 0; what <= 3; what++) {
                all.append(x.fortOf(one, what)).append(' ');
            }
            for (int other = 0; other < 8; other++) {
                all.append(x.leagues(one, other)).append(' ');
                for (int what = 0; what <= 3; what++) {
                    all.append(x.known(one, other, what)).append(' ');
                }
            }
        }
        for (int letter = 0; letter < 10; letter++) {
            for (int what = 0; what <= 4; what++) {
                all.append(x.letterOf(letter, what)).append(' ');
            }
        }
        return all.toString();
    }

    static String ofReason(FortHeralds x) {
        return x.reason(false) + " " + x.reason(true);
    }

    /**
     * The country, how long the text is, and all that stands behind it: what each undo leaves,
     * and the snapshot. The object is of no other use then.
     */
    static String ofDepths(FortHeralds x) {
        StringBuilder all = new StringBuilder();
        all.append(ofCountry(x)).append("text ").append(x.account(14)).append("\nline ").append(Check.lineOf(x));
        for (int left = x.account(15); left > 0; left--) {
            all.append("\nundo ").append(x.undo()).append(": ").append(ofCountry(x));
        }
        all.append("\nundo ").append(x.undo());
        all.append("\nrestore ").append(x.restore()).append(": ").append(ofCountry(x));
        return all.toString();
    }
}

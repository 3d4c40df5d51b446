/** Types a text of any length in words of up to eight bytes. */
final class Tapes {
    private Tapes() {
    }

    /** What the last type() answered; 0 if the text is empty. */
    static int type(SaltPool x, String text) {
        int answer = 0;
        for (int from = 0; from < text.length(); from += 8) {
            String piece = text.substring(from, Math.min(from + 8, text.length()));
            answer = x.type(word(piece), piece.length());
        }
        return answer;
    }

    static long word(String piece) {
        long word = 0;
        for (int k = 0; k < piece.length(); k++) {
            word = word << 8 | piece.charAt(k);
        }
        return word;
    }
}

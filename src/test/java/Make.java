/** Objects to begin tests with, made by few calls: an object is used for at most 512. */
final class Make {
    /** Thirty values, which just have room in the text. */
    private static final String THIRTY = "0,1,2,3,4,5,6,7,8,9,0,1,2,3,4,5,6,7,8,9,0,1,2,3,4,5,6,7,8,9";

    private Make() {
    }

    /** An object whose vector 1, made by one edit, has the values 0 to 9 again and again. */
    static TailVectors filled(int many) {
        TailVectors x = new TailVectors();
        fillEdit(x, many);
        x.finish();
        return x;
    }

    /** Begins an edit with vector 0, which is empty, and pushes the values 0 to 9 again and again. */
    static void fillEdit(TailVectors x, int many) {
        x.begin(0);
        if (many >= 30) {
            typeAll(x, THIRTY);
        }
        for (int i = 0; i < many / 30; i++) {
            x.editRead();
        }
        for (int i = 0; i < many % 30; i++) {
            x.editPush(i % 10);
        }
        x.clearText();
    }

    static void typeAll(TailVectors x, String text) {
        x.clearText();
        for (int i = 0; i < text.length(); i++) {
            x.type(text.charAt(i));
        }
    }

    /** Makes windows of vector 0 until so many vectors have been made. */
    static void vectorsUpTo(TailVectors x, int many) {
        for (int i = x.count(0); i < many; i++) {
            x.window(0, 0, 0);
        }
    }

    static void emptyHistory(TailVectors x) {
        for (int i = x.count(7); i > 0; i--) {
            x.undo();
        }
    }

    /** All that is told of vectors, the edit, the blocks and the text; not of the history. */
    static String told(TailVectors x) {
        StringBuilder all = new StringBuilder();
        for (int what = 0; what <= 8; what++) {
            all.append(what == 7 ? 0 : x.count(what)).append(' ');
        }
        for (int what = 0; what <= 4; what++) {
            all.append(x.edit(what)).append(' ');
        }
        for (int vector = 0; vector < 24; vector++) {
            all.append('\n').append(toldOf(x, vector));
        }
        return all.toString();
    }

    private static String toldOf(TailVectors x, int vector) {
        StringBuilder all = new StringBuilder();
        int length = x.vector(vector, 0);
        all.append(length);
        if (length >= 0) {
            for (int what = 1; what <= 9; what++) {
                all.append(' ').append(x.vector(vector, what));
            }
            all.append(' ').append(x.get(vector, 0)).append(' ').append(x.get(vector, length - 1));
            all.append(' ').append(x.block(vector, 0, 0)).append(' ').append(x.block(vector, 1, 0));
        }
        return all.toString();
    }
}

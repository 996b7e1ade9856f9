/** A call of the face: how it is asked by numbers, numbers that it takes, and the bounds of each of them. */
record Call(String name, boolean isFraction, Answer answer, int[] usual, Bound[] bounds) {
    interface Answer {
        long of(WayWeights x, int[] at);
    }

    /** The least and the most that is taken, and what is told of others. */
    record Bound(int least, int most, int refusal) {
        /** The first numbers that are refused, and those farthest off. */
        int[] outside() {
            return new int[] {least - 1, most + 1, Integer.MIN_VALUE, Integer.MAX_VALUE};
        }
    }

    long ask(WayWeights x, int[] at) {
        return answer.of(x, at);
    }

    /** How this call tells a refusal: plainly, or LOST and the refusal. */
    long tells(int refusal) {
        return (isFraction ? -1000000000000000000L : 0) + refusal;
    }

    boolean isRefused(long answer) {
        return answer >= tells(-5) && answer <= tells(-1);
    }

    int[] usualBut(int place, int number) {
        int[] at = usual.clone();
        at[place] = number;
        return at;
    }

    String text(int[] at) {
        StringBuilder text = new StringBuilder(name).append('(');
        for (int i = 0; i < at.length; i++) {
            text.append(i == 0 ? "" : ", ").append(at[i]);
        }
        return text.append(')').toString();
    }
}

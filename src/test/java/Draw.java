import java.util.ArrayList;
import java.util.List;
import java.util.Random;

/** Codes by chance; the same seed draws the same ones. */
final class Draw {
    private Draw() {
    }

    static String step(Random random, int registers, int digits) {
        StringBuilder step = new StringBuilder().append((char) ('a' + random.nextInt(registers))).append('=');
        int operands = random.nextInt(3) == 0 ? 1 : 2;
        if (operands == 2) {
            step.append("+-*m".charAt(random.nextInt(4)));
        }
        for (int k = 0; k < operands; k++) {
            boolean digit = digits > 0 && random.nextInt(3) == 0;
            step.append((char) (digit ? '0' + random.nextInt(digits) : 'a' + random.nextInt(registers)));
        }
        return step.toString();
    }

    static List<String> steps(Random random, int least, int most, int registers) {
        List<String> steps = new ArrayList<>();
        int digits = new int[] {0, 2, 8}[random.nextInt(3)];
        int many = least + random.nextInt(most - least + 1);
        for (int i = 0; i < many; i++) {
            steps.add(step(random, registers, digits));
        }
        return steps;
    }

    static String text(List<String> steps) {
        return String.join(";", steps);
    }
}

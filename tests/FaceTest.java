import java.lang.reflect.Constructor;
import java.lang.reflect.Field;
import java.lang.reflect.Method;
import java.lang.reflect.Modifier;
import java.util.ArrayList;
import java.util.Arrays;
import java.util.List;
import java.util.Set;
import java.util.TreeSet;

/** The class shows the document's face, and nothing else. */
public final class FaceTest {
    private static final String FACE = String.join("\n",
        "int candidate() throws IllegalStateException",
        "int setLot(boolean int int) throws IndexOutOfBoundsException IllegalArgumentException",
        "int type(long) throws IllegalStateException",
        "int ballots(int) throws IllegalArgumentException IllegalStateException",
        "int takeBack(int int) throws IndexOutOfBoundsException IllegalArgumentException",
        "int countOf(int) throws IndexOutOfBoundsException",
        "int kindAt(int int boolean) throws IndexOutOfBoundsException",
        "int allBallots() throws",
        "int list(int) throws IllegalArgumentException IllegalStateException",
        "int setVotes(int int) throws IndexOutOfBoundsException IllegalArgumentException",
        "int ally(int int) throws IndexOutOfBoundsException IllegalArgumentException",
        "int seats(int int int) throws IllegalArgumentException",
        "int seatsOf(int) throws IndexOutOfBoundsException",
        "int seatAt(int) throws NoSuchElementException",
        "int lossAt(int) throws IllegalArgumentException",
        "int transferable(int) throws IllegalArgumentException IllegalStateException",
        "int quota() throws",
        "int electedAt(int) throws NoSuchElementException",
        "int excludedAt(int) throws NoSuchElementException",
        "int steps() throws",
        "int writePile(int int) throws IndexOutOfBoundsException NoSuchElementException",
        "int outputByte(int) throws",
        "int solidQuotas(int) throws IllegalArgumentException IllegalStateException",
        "int ahead(int int) throws IndexOutOfBoundsException",
        "int beatsAll() throws",
        "int strongestPath(int int) throws IndexOutOfBoundsException",
        "int pathWinners() throws",
        "int beatingSet() throws",
        "int consensusAt(int) throws NoSuchElementException",
        "long consensusDistance() throws",
        "int winner(int) throws IllegalArgumentException",
        "int votesFor(int int) throws IndexOutOfBoundsException IllegalArgumentException",
        "int runoffOut(int) throws NoSuchElementException",
        "int winnerWith(int int) throws IllegalArgumentException",
        "int gain(int) throws IllegalArgumentException IllegalStateException",
        "int gainAt(int int) throws IllegalArgumentException IllegalStateException NoSuchElementException",
        "int spoiler(int) throws IllegalArgumentException",
        "int proportionalAt(int) throws NoSuchElementException",
        "int safeAfter() throws",
        "int ward(int int int) throws IllegalArgumentException IllegalStateException",
        "int greatestDistrict(int) throws IllegalArgumentException",
        "int districtEnd(int int) throws IllegalArgumentException NoSuchElementException",
        "int districtsWon(int int) throws IllegalArgumentException",
        "int wasted(int int) throws IllegalArgumentException",
        "int member(int) throws IllegalArgumentException IllegalStateException",
        "int setQuota(int) throws IllegalArgumentException",
        "int swings(int) throws IndexOutOfBoundsException",
        "long ordersTurned(int) throws IndexOutOfBoundsException",
        "int undo() throws",
        "long checksum() throws",
        "double meanRank(int) throws IndexOutOfBoundsException",
        "float seatShare(int) throws IndexOutOfBoundsException",
        "int errors() throws");

    private static String told(Method method) {
        List<String> parameters = new ArrayList<>();
        for (Class<?> p : method.getParameterTypes()) {
            parameters.add(p.getSimpleName());
        }
        StringBuilder told = new StringBuilder(method.getReturnType().getSimpleName()).append(' ')
            .append(method.getName()).append('(').append(String.join(" ", parameters)).append(") throws");
        for (Class<?> e : method.getExceptionTypes()) {
            told.append(' ').append(e.getSimpleName());
        }
        return told.toString();
    }

    public static void main(String[] arguments) {
        Check check = new Check("FaceTest");
        Class<?> house = Ballothall.class;
        check.same("its modifiers", Modifier.toString(house.getModifiers()), "public final");
        check.same("its package", house.getPackageName(), "");
        Set<String> face = new TreeSet<>();
        Set<String> names = new TreeSet<>();
        for (Method m : house.getDeclaredMethods()) {
            if (!Modifier.isPrivate(m.getModifiers())) {
                check.same("the modifiers of " + m.getName(), Modifier.toString(m.getModifiers()), "public");
                face.add(told(m));
                names.add(m.getName());
            }
        }
        check.same("the methods", String.join("\n", face), String.join("\n", new TreeSet<>(Arrays.asList(FACE.split("\n")))));
        for (Field f : house.getDeclaredFields()) {
            String modifiers = Modifier.toString(f.getModifiers());
            boolean isNone = f.getName().equals("NONE");
            check.same("the field " + f.getName(), isNone ? modifiers : modifiers.startsWith("private"),
                isNone ? "public static final" : true);
            check.same("the static field " + f.getName(), modifiers.contains("static") && !modifiers.contains("final"), false);
        }
        check.same("the constructors", house.getDeclaredConstructors().length, 1);
        Constructor<?> made = house.getDeclaredConstructors()[0];
        check.same("the constructor", Modifier.toString(made.getModifiers()) + made.getParameterCount(), "public0");
        List<Class<?>> all = new ArrayList<>(Arrays.asList(house.getDeclaredClasses()));
        check.same("no more than twelve classes", all.size() < 12, true);
        all.add(house);
        for (Class<?> c : all) {
            check.same("static or the house: " + c, c == house || Modifier.isStatic(c.getModifiers()), true);
            check.same("fields of " + c, Arrays.stream(c.getDeclaredFields())
                .filter(f -> !Modifier.isStatic(f.getModifiers())).count() <= 20, true);
            for (Method m : c.getDeclaredMethods()) {
                boolean isHidden = Modifier.isPrivate(m.getModifiers());
                check.same("the name of a public one: " + m, isHidden && names.contains(m.getName()), false);
                check.same("parameters of " + m, m.getParameterCount() <= 7, true);
                check.same("made by the compiler: " + m, m.isSynthetic(), false);
            }
        }
        check.end();
    }
}

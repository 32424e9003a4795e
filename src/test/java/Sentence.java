import java.lang.annotation.ElementType;
import java.lang.annotation.Retention;
import java.lang.annotation.RetentionPolicy;
import java.lang.annotation.Target;

/** Marks a test with the sentence, or the part of one, that it would fail for if the sentence were broken. */
@Retention(RetentionPolicy.RUNTIME)
@Target(ElementType.METHOD)
@interface Sentence {
    /** The promise under whose heading the words stand, or the promises that rest on them. */
    int[] promise();

    /** Another heading of the document under which the words stand, perhaps with a comma and a part of it. */
    String under() default "";

    /** The words of the document. */
    String says();
}

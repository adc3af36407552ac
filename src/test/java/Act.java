/** A call of the face, to be made on whichever barn a test brings. */
interface Act {
    long on(ReelBarn x);
}

/** Makes the same object again and again: new, and then led through the same calls. */
interface Scene {
    RoverLocator make();
}

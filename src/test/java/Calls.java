// The face that the program and the model of it share, so that one test can drive both.
interface Calls {
    boolean declareField(int f, int kind);
    boolean declareParam(int k, int nullness, int init);
    boolean select(int block);
    boolean emit(int op, int a, int b, int c);
    int check();
    int errorWhere();
    int state(int block, int pc, int local);
    int run(int steps);
    int info(int k);
    int code(int block, int pc, int part);
    int frame(int fr, int slot);
    int field(int o, int f);
    int out(int i);
}

/-! Ahead of all: a name that stands in the whole library alone (so a round on a new machine goes over it from its first part). -/
theorem nn_f (x : Int32) : FP.Core.DFin (FP.Core.i2d x) := FP.Core.i2d_fin x

/-! the model's save and undo -/
section MSAVE
variable {m : Mem} {A : Ab}
theorem sa_get {m : Mem} {k : Nat} {f : Nat → Int32} {a : Nat} : (sa m k f).1 a = if a = k then f else m.1 a := rfl
end MSAVE

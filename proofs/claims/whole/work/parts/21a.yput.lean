def yo (ad : Nat → Nat) (f : Nat → Int32) : List Value := [.int (f 0), .int (f 1), .ref (ad 1), .int (f 3), .int (f 4), .ref (ad 2), .ref (ad 3), .ref (ad 4), .ref (ad 5), .int (f 9), .ref (ad 6), .int (f 11), .ref (ad 7), .ref (ad 8), .ref (ad 9), .ref (ad 10), .ref (ad 11), .ref (ad 12), .ref (ad 13), .ref (ad 14), .ref (ad 15), .ref (ad 16), .ref (ad 17), .int (f 23), .ref (ad 18), .ref (ad 19), .ref (ad 20), .ref (ad 21), .int (f 28), .int (f 29), .int (f 30), .int (f 31), .ref (ad 22)]
theorem ym_0 (ca ad : Nat → Nat) (f : Nat → Int32) (g : Nat → Int64) : ymk ca ad 0 f g = .inr (6, yo ad f) := rfl
theorem ym_p4 (ca ad : Nat → Nat) (f : Nat → Int32) (g : Nat → Int64) (x : Int32) : ymk ca ad 0 (upd f 4 x) g = .inr (6, (yo ad f).set 4 (.int x)) := rfl
theorem ym_p9 (ca ad : Nat → Nat) (f : Nat → Int32) (g : Nat → Int64) (x : Int32) : ymk ca ad 0 (upd f 9 x) g = .inr (6, (yo ad f).set 9 (.int x)) := rfl
theorem ym_p11 (ca ad : Nat → Nat) (f : Nat → Int32) (g : Nat → Int64) (x : Int32) : ymk ca ad 0 (upd f 11 x) g = .inr (6, (yo ad f).set 11 (.int x)) := rfl
theorem ym_p23 (ca ad : Nat → Nat) (f : Nat → Int32) (g : Nat → Int64) (x : Int32) : ymk ca ad 0 (upd f 23 x) g = .inr (6, (yo ad f).set 23 (.int x)) := rfl
theorem ym_p28 (ca ad : Nat → Nat) (f : Nat → Int32) (g : Nat → Int64) (x : Int32) : ymk ca ad 0 (upd f 28 x) g = .inr (6, (yo ad f).set 28 (.int x)) := rfl
theorem ym_p29 (ca ad : Nat → Nat) (f : Nat → Int32) (g : Nat → Int64) (x : Int32) : ymk ca ad 0 (upd f 29 x) g = .inr (6, (yo ad f).set 29 (.int x)) := rfl
theorem ym_p30 (ca ad : Nat → Nat) (f : Nat → Int32) (g : Nat → Int64) (x : Int32) : ymk ca ad 0 (upd f 30 x) g = .inr (6, (yo ad f).set 30 (.int x)) := rfl
theorem ym_p31 (ca ad : Nat → Nat) (f : Nat → Int32) (g : Nat → Int64) (x : Int32) : ymk ca ad 0 (upd f 31 x) g = .inr (6, (yo ad f).set 31 (.int x)) := rfl

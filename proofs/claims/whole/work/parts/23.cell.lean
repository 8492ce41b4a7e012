theorem ffs_X7 (ad : Nat → Nat) (f : Nat → Int32) : ffs ad rsX7 f = [.ref (ad 1), .ref (ad 2), .int (f 2), .ref (ad 3), .int (f 4), .ref (ad 4), .int (f 6), .int (f 7), .ref (ad 5), .ref (ad 6), .int (f 10), .int (f 11), .int (f 12), .int (f 13), .int (f 14), .int (f 15), .ref (ad 7), .ref (ad 8), .ref (ad 9), .int (f 19), .int (f 20), .ref (ad 10), .ref (ad 11), .ref (ad 12), .int (f 24)] := by
  simp [ffs, List.mapIdx_cons]
theorem ρ0_c {G : Gl} : fcell G (wR.2 0) (ρ0 0) = .inr (7, [.ref (gA G 1), .ref (gA G 2), .int 0, .ref (gA G 3), .int 0, .ref (gA G 4), .int 0, .int 0, .ref (gA G 5), .ref (gA G 6), .int 0, .int 0, .int 0, .int 0, .int 0, .int 0, .ref (gA G 7), .ref (gA G 8), .ref (gA G 9), .int (-9), .int 0, .ref (gA G 10), .ref (gA G 11), .ref (gA G 12), .int 0]) := by
  show Sum.inr (7, ffs (gA G) rsX7 (ρ0 0)) = _
  rw [ffs_X7, ρ0_0]
  rfl

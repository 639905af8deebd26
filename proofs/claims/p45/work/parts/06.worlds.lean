/-! the world: the class's object with all that it holds (printed by program) -/
abbrev WC (ca : Nat → ClassId) (ad : Nat → Nat) (bq : Nat) (nF : Int32) (nO : Nat → Int32) (nL : Nat → Int32) (nA : Nat → Int32) (nC : Nat → Int32) (nV : Nat → Int32) (nU : Nat → Int32) (nP : Nat → Int32) (nE : Int32) (bF : Int32) (bO : Nat → Int32) (bL : Nat → Int32) (bA : Nat → Int32) (bC : Nat → Int32) (bV : Nat → Int32) (bU : Nat → Int32) (bP : Nat → Int32) (bE : Int32) (cT : Int32) (cK : Nat → Int32) (cO : Int32) (cQ : Nat → Int32) (cD : Int32) (pT : Int32) (pK : Int32) (pR : Nat → Int32) (pW : Nat → Int32) (pU : Nat → Int32) (pI : Nat → Int32) (pC : Nat → Nat → Int32) (uO : Int32) (uF : Nat → Int32) (uE : Nat → Int32) (uN : Nat → Int32) (wK : Nat → Int32) (jM : Int32) (jN : Int32) (jZ : Nat) (jB : Nat → Int32) : va_W :=
  [((ad 0), .inr (7, [.ref (ad 1), .ref (ad 2), .int cT, .ref (ad 3), .int cO, .ref (ad 4), .ref (ad 5), .ref (ad 6), .int cD, .ref (ad 7), .ref (ad 8)])),
   ((ad 1), .inr (6, [.int nF, .ref (ad 9), .ref (ad 10), .ref (ad 11), .ref (ad 12), .ref (ad 13), .ref (ad 14), .ref (ad 15), .int nE])),
   ((ad 9), .inl (ca 0, 40, .inl nO)),
   ((ad 10), .inl (ca 0, 40, .inl nL)),
   ((ad 11), .inl (ca 1, 40, .inl nA)),
   ((ad 12), .inl (ca 0, 640, .inl nC)),
   ((ad 13), .inl (ca 0, 64, .inl nV)),
   ((ad 14), .inl (ca 0, 64, .inl nU)),
   ((ad 15), .inl (ca 0, 4, .inl nP)),
   ((ad 2), .inr (6, [.int bF, .ref (ad 16), .ref (ad 17), .ref (ad 18), .ref (ad 19), .ref (ad 20), .ref (ad 21), .ref (ad 22), .int bE])),
   ((ad 16), .inl (ca 0, 40, .inl bO)),
   ((ad 17), .inl (ca 0, 40, .inl bL)),
   ((ad 18), .inl (ca 1, 40, .inl bA)),
   ((ad 19), .inl (ca 0, 640, .inl bC)),
   ((ad 20), .inl (ca 0, 64, .inl bV)),
   ((ad 21), .inl (ca 0, 64, .inl bU)),
   ((ad 22), .inl (ca 0, 4, .inl bP)),
   ((ad 3), .inl (ca 2, 512, .inl cK)),
   ((ad 4), .inl (ca 0, 4, .inl cQ)),
   ((ad 5), .inr (5, [.int pT, .int pK, .ref (ad 23), .ref (ad 24), .ref (ad 25), .ref (ad 26), .ref (ad 27)])),
   ((ad 23), .inl (ca 0, 30, .inl pR)),
   ((ad 24), .inl (ca 0, 30, .inl pW)),
   ((ad 25), .inl (ca 1, 8, .inl pU)),
   ((ad 26), .inl (ca 1, 320, .inl pI)),
   ((ad 27), .inl (ca 4, 8, .inr (.inr (.inr (.inr (fun i => some (ad (31 + i)))))))),
   ((ad 31), .inl (ca 0, 640, .inl (pC 0))),
   ((ad 32), .inl (ca 0, 640, .inl (pC 1))),
   ((ad 33), .inl (ca 0, 640, .inl (pC 2))),
   ((ad 34), .inl (ca 0, 640, .inl (pC 3))),
   ((ad 35), .inl (ca 0, 640, .inl (pC 4))),
   ((ad 36), .inl (ca 0, 640, .inl (pC 5))),
   ((ad 37), .inl (ca 0, 640, .inl (pC 6))),
   ((ad 38), .inl (ca 0, 640, .inl (pC 7))),
   ((ad 6), .inr (4, [.int uO, .ref (ad 28), .ref (ad 29), .ref (ad 30)])),
   ((ad 28), .inl (ca 0, 30, .inl uF)),
   ((ad 29), .inl (ca 0, 30, .inl uE)),
   ((ad 30), .inl (ca 1, 30, .inl uN)),
   ((ad 7), .inr (1, [.ref bq, .int 0, .int jM, .int jN])),
   (bq, .inl (ca 3, jZ, .inl jB)),
   ((ad 8), .inl (ca 0, 64, .inl wK))]
theorem WC_row {ca : Nat → ClassId} {ad : Nat → Nat} {bq : Nat} {nF : Int32} {nO : Nat → Int32} {nL : Nat → Int32} {nA : Nat → Int32} {nC : Nat → Int32} {nV : Nat → Int32} {nU : Nat → Int32} {nP : Nat → Int32} {nE : Int32} {bF : Int32} {bO : Nat → Int32} {bL : Nat → Int32} {bA : Nat → Int32} {bC : Nat → Int32} {bV : Nat → Int32} {bU : Nat → Int32} {bP : Nat → Int32} {bE : Int32} {cT : Int32} {cK : Nat → Int32} {cO : Int32} {cQ : Nat → Int32} {cD : Int32} {pT : Int32} {pK : Int32} {pR : Nat → Int32} {pW : Nat → Int32} {pU : Nat → Int32} {pI : Nat → Int32} {pC : Nat → Nat → Int32} {uO : Int32} {uF : Nat → Int32} {uE : Nat → Int32} {uN : Nat → Int32} {wK : Nat → Int32} {jM : Int32} {jN : Int32} {jZ : Nat} {jB : Nat → Int32} {R : va_W} {k : Nat} (hk : k < 8) : (WC ca ad bq nF nO nL nA nC nV nU nP nE bF bO bL bA bC bV bU bP bE cT cK cO cQ cD pT pK pR pW pU pI pC uO uF uE uN wK jM jN jZ jB ++ R)[25 + k]? = some (ad (31 + k), .inl (ca 0, 640, .inl (pC k))) := by
  match k, hk with
  | 0, _ => rfl
  | 1, _ => rfl
  | 2, _ => rfl
  | 3, _ => rfl
  | 4, _ => rfl
  | 5, _ => rfl
  | 6, _ => rfl
  | 7, _ => rfl
theorem WC_setrow {ca : Nat → ClassId} {ad : Nat → Nat} {bq : Nat} {nF : Int32} {nO : Nat → Int32} {nL : Nat → Int32} {nA : Nat → Int32} {nC : Nat → Int32} {nV : Nat → Int32} {nU : Nat → Int32} {nP : Nat → Int32} {nE : Int32} {bF : Int32} {bO : Nat → Int32} {bL : Nat → Int32} {bA : Nat → Int32} {bC : Nat → Int32} {bV : Nat → Int32} {bU : Nat → Int32} {bP : Nat → Int32} {bE : Int32} {cT : Int32} {cK : Nat → Int32} {cO : Int32} {cQ : Nat → Int32} {cD : Int32} {pT : Int32} {pK : Int32} {pR : Nat → Int32} {pW : Nat → Int32} {pU : Nat → Int32} {pI : Nat → Int32} {pC : Nat → Nat → Int32} {uO : Int32} {uF : Nat → Int32} {uE : Nat → Int32} {uN : Nat → Int32} {wK : Nat → Int32} {jM : Int32} {jN : Int32} {jZ : Nat} {jB : Nat → Int32} {R : va_W} {k i : Nat} {x : Int32} (hk : k < 8) : (WC ca ad bq nF nO nL nA nC nV nU nP nE bF bO bL bA bC bV bU bP bE cT cK cO cQ cD pT pK pR pW pU pI pC uO uF uE uN wK jM jN jZ jB ++ R).set (25 + k) (ad (31 + k), .inl (ca 0, 640, .inl (upd (pC k) i x))) = (WC ca ad bq nF nO nL nA nC nV nU nP nE bF bO bL bA bC bV bU bP bE cT cK cO cQ cD pT pK pR pW pU pI (updG pC k i x) uO uF uE uN wK jM jN jZ jB ++ R) := by
  match k, hk with
  | 0, _ => rfl
  | 1, _ => rfl
  | 2, _ => rfl
  | 3, _ => rfl
  | 4, _ => rfl
  | 5, _ => rfl
  | 6, _ => rfl
  | 7, _ => rfl

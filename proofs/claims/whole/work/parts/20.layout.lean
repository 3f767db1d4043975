/-! the store behind the constructors: 0 the script, 1 the digest's hours, 2.. the class, 45.. the reference; eb: where the town's elbows lie -/
def zLay (n eb : Nat) : zL := [
  .inl (2, n),
  .inl (2, 4),
  .inr (5, [some (.ref 3), some (.ref 5), some (.ref 7), some (.ref 21), some (.ref 28), none, some (.ref 35), none, some (.ref 36), some (.ref 37), some (.ref 38), some (.ref 39), some (.ref 40), none, some (.ref 41), none]),
  .inr (3, [some (.ref 4), none, none, none]),
  .inl (0, 55),
  .inr (3, [some (.ref 6), none, none, none]),
  .inl (0, 55),
  .inr (4, [some (.ref 8), some (.ref eb), none, none, none, none, some (.ref 16), some (.ref 17), some (.ref 18), none, none, some (.ref 19), some (.ref 20), none, none, none]),
  .inr (2, [some (.ref 9), some (.ref 10), some (.ref 11), some (.ref 12), some (.ref 13), some (.ref 14), none]),
  .inl (0, 8),
  .inl (0, 8),
  .inl (0, 8),
  .inl (0, 8),
  .inl (0, 24),
  .inl (0, 320),
  .inl (0, 40),
  .inl (0, 6),
  .inl (0, 6),
  .inl (0, 6),
  .inl (0, 6),
  .inl (0, 6),
  .inr (0, [some (.ref 22), some (.ref 23), some (.ref 24), some (.ref 25), some (.ref 26), some (.ref 27)]),
  .inl (0, 40),
  .inl (0, 40),
  .inl (0, 40),
  .inl (0, 40),
  .inl (0, 320),
  .inl (0, 8),
  .inr (0, [some (.ref 29), some (.ref 30), some (.ref 31), some (.ref 32), some (.ref 33), some (.ref 34)]),
  .inl (0, 40),
  .inl (0, 40),
  .inl (0, 40),
  .inl (0, 40),
  .inl (0, 320),
  .inl (0, 8),
  .inl (0, 64),
  .inl (0, 40),
  .inl (0, 200),
  .inl (0, 8),
  .inl (0, 8),
  .inl (0, 8),
  .inr (1, [some (.ref 42), some (.ref 43), some (.ref 44)]),
  .inl (0, 4),
  .inl (0, 4),
  .inl (0, 240),
  .inr (6, [some (.ref 46), some (.ref 47), none, some (.ref 48), some (.ref 49), some (.ref 50), some (.ref 51), some (.ref 52), none, some (.ref 53), some (.ref 54), none, some (.ref 55), some (.ref 56), some (.ref 57), none, some (.ref 58), some (.ref 59), some (.ref 60), none, none, none, none, none, some (.ref 61), some (.ref 62), some (.ref 63), some (.ref 64), some (.ref 65), some (.ref 66), none, some (.ref 67), some (.ref 68), some (.ref 69), some (.ref 70), some (.ref 71), some (.ref 72), some (.ref 73), some (.ref 74), some (.ref 75), none]),
  .inl (0, 2),
  .inl (0, 110),
  .inl (0, 9),
  .inl (0, 9),
  .inl (0, 9),
  .inl (0, 9),
  .inl (0, 27),
  .inl (0, 40),
  .inl (0, 3),
  .inl (0, 6),
  .inl (0, 6),
  .inl (0, 6),
  .inl (0, 6),
  .inl (0, 6),
  .inl (0, 40),
  .inl (0, 8),
  .inl (0, 40),
  .inl (0, 40),
  .inl (0, 40),
  .inl (0, 40),
  .inl (0, 320),
  .inl (0, 8),
  .inl (0, 8),
  .inl (0, 8),
  .inl (0, 400),
  .inl (1, 4),
  .inl (0, 4),
  .inl (0, 4),
  .inl (0, 240),
  .inl (0, 60)]
theorem z_br {P A B : Prop} (a : P → A) (b : ¬ P → B) : (P → A) ∧ (¬ P → B) := ⟨a, b⟩
/-- the answer v0 and the memory M0 -/
def zx (v0 : Option Value) (M0 : zM) : Option Value → zM → Prop := fun v M => v = v0 ∧ M = M0
/-- the answer v0 and a memory of which R holds -/
def zr (v0 : Option Value) (R : zM → Prop) : Option Value → zM → Prop := fun v M => v = v0 ∧ R M
theorem z_ca {i : zI} {as : List Value} {L : zL} {M : zM} {v : Option Value} {M' : zM} {nx : Option Value → zM → Prop} (hc : zMet i as L M L (zx v M')) (h : nx v M') : ∃ Q, zMet i as L M L Q ∧ ∀ v M', Q v M' → nx v M' := ⟨_, hc, fun _ _ q => by obtain ⟨rfl, rfl⟩ := q; exact h⟩
theorem z_cx {i : zI} {as : List Value} {L : zL} {M : zM} {v : Option Value} {R : zM → Prop} {nx : Option Value → zM → Prop} (hc : zMet i as L M L (zr v R)) (h : ∀ M', R M' → nx v M') : ∃ Q, zMet i as L M L Q ∧ ∀ v M', Q v M' → nx v M' := ⟨_, hc, fun _ M' q => by obtain ⟨rfl, q⟩ := q; exact h M' q⟩
theorem z_me {i : zI} {P : List (Bool × Nat × zOp)} {L : zL} {M M' : zM} {v : Option Value} {as : List Value} (hOK : z_OK (zS i.1.cls i.2.1 i.2.2.1 i.1.name i.2.2.2.1 i.2.2.2.2.1 i.2.2.2.2.2 L.length (z_sz L)) P) (hy : plainName i.1.cls = true) (h3 : 2 ≤ L.length) (hn : Nat.ble (z_sl as).length i.2.2.1 = true)
    (h : ∀ ret : zR, ret v L M' → z_run (z_from 0 P) (z_E P ret) ret (z_lo i.2.2.1 as) [] L M) : zMet i as L M L (zx v M') :=
  z_meth hOK hy (Nat.le_refl _) (Nat.le_refl _) h3 hn (fun ret hr => z_go (h ret (hr _ _ ⟨rfl, rfl⟩)))
theorem z_mr {i : zI} {P : List (Bool × Nat × zOp)} {L : zL} {M : zM} {R : zM → Prop} {v : Option Value} {as : List Value} (hOK : z_OK (zS i.1.cls i.2.1 i.2.2.1 i.1.name i.2.2.2.1 i.2.2.2.2.1 i.2.2.2.2.2 L.length (z_sz L)) P) (hy : plainName i.1.cls = true) (h3 : 2 ≤ L.length) (hn : Nat.ble (z_sl as).length i.2.2.1 = true)
    (h : ∀ ret : zR, (∀ M', R M' → ret v L M') → z_run (z_from 0 P) (z_E P ret) ret (z_lo i.2.2.1 as) [] L M) : zMet i as L M L (zr v R) :=
  z_meth hOK hy (Nat.le_refl _) (Nat.le_refl _) h3 hn (fun ret hr => z_go (h ret (fun M' q => hr _ _ ⟨rfl, q⟩)))
theorem z_re {ret : zR} {v v' : Option Value} {L : zL} {M M' : zM} (hr : ret v L M) (h : v' = v) (hM : M' = M) : ret v' L M' := by rw [h, hM]; exact hr
theorem z_rq {ret : zR} {v v' : Option Value} {L : zL} {R : zM → Prop} {M' : zM} (hr : ∀ M', R M' → ret v L M') (h : v' = v) (hM : R M') : ret v' L M' := by rw [h]; exact hr M' hM

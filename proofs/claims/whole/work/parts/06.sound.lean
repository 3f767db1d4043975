/-! each operation of the shadow machine is what the machine does -/
def z_Wd (s : State) (R : Room) (D : va_G) (A : Nat → Prop) (ad0 : Nat → Nat) (n0 s0 nS : Nat) (f0 f1 : Nat → Int32) (ad : Nat → Nat) (cA : Nat → ClassId) (L : zL) (M : zM) (H : Heap) (locs : List Loc) (cells slots : Nat) : Prop :=
  va_P D vwCl (z_ws ad cA L M) H ∧ va_D A (z_ws ad cA L M) ∧ va_S A s.heap H locs ∧ z_Ar s cA L ∧ (∀ p, p < n0 ∨ L.length ≤ p → ad p = ad0 p) ∧ (cells + n0 = L.length ∧ slots + s0 = z_sz L ∧ cells ≤ R.cells ∧ slots ≤ R.slots) ∧ z_Fz nS f0 f1 L M
def z_K (p : Program) (l : Launch) (e : Env) (R : Room) (s : State) (m : MethodId) (args : Array Value) (below : List Frame) (meth : Method) (c : Code) (Q : State → Prop) (D : va_G) (A : Nat → Prop) (ad0 : Nat → Nat) (n0 s0 nS : Nat) (f0 f1 : Nat → Int32) (nL pc : Nat) (lo : zO) (st : List Value) (L : zL) (M : zM) : Prop :=
  lo.length = nL → ∀ (ad : Nat → Nat) (cA : Nat → ClassId) (H : Heap) (locs : List Loc) (cells slots : Nat) (ls : Array Slot), z_Wd s R D A ad0 n0 s0 nS f0 f1 ad cA L M H locs cells slots → z_Lo ad ls lo → W p l e R s m args below meth c H locs cells slots Q (F0 m pc ls (st.map (z_v ad)))
def z_ri (i : Instr) (v : Option Value) (rt : Option FieldType) : Prop :=
  (i = .ireturn ∧ ∃ x ty, v = some (.int x) ∧ rt = some ty ∧ narrow ty (.int x) = .int x) ∨ (i = .lreturn ∧ ∃ x, v = some (.long x) ∧ rt = some .long) ∨ (i = .areturn ∧ ∃ q ty, v = some (.ref q) ∧ rt = some ty ∧ ((∃ n, ty = .object n) ∨ ∃ t, ty = .array t)) ∨ (i = .return_ ∧ v = none ∧ rt = none)
def z_T (cc : ByteArray) (rt : Option FieldType) (p : Program) (l : Launch) (e : Env) (R : Room) (s : State) (m : MethodId) (args : Array Value) (below : List Frame) (meth : Method) (c : Code) (Q : State → Prop) (D : va_G) (A : Nat → Prop) (ad0 : Nat → Nat) (n0 s0 nS : Nat) (f0 f1 : Nat → Int32) (v : Option Value) (L : zL) (M : zM) : Prop :=
  ∀ (ad : Nat → Nat) (cA : Nat → ClassId) (H : Heap) (locs : List Loc) (cells slots : Nat) (ls : Array Slot) (pc : Nat) (i : Instr), z_Wd s R D A ad0 n0 s0 nS f0 f1 ad cA L M H locs cells slots → decode cc pc = .ok (i, 1) → z_ri i v rt → W p l e R s m args below meth c H locs cells slots Q (F0 m pc ls (v.toList.map (z_v ad)))
def z_Cx (own : String) (cc : ByteArray) (nL : Nat) (nm : String) (rt : Option FieldType) (fr lc kc ks : Nat) (p : Program) (R : Room) (s : State) (m : MethodId) (args : Array Value) (meth : Method) (c : Code) (D : va_G) (A : Nat → Prop) (ad0 : Nat → Nat) (n0 s0 nS : Nat) (f0 f1 : Nat → Int32) : Prop :=
  p.tables.exec = Jvm.exec ∧ c.code = cc ∧ c.maxLocals = nL ∧ meth.name = nm ∧ meth.sig.returnType = rt ∧ meth.locks = false ∧ s.vm.findClass own = some m.cls ∧ R.frames = fr ∧ R.locals = lc ∧ R.cells + n0 = kc ∧ R.slots + s0 = ks ∧ 2 ≤ n0 ∧ (∀ w ∈ z_Ts, w.before args s = true) ∧ z_En D A (ad0 0) (ad0 1) nS f0 f1 s
def zS (own : String) (cc : ByteArray) (nL : Nat) (nm : String) (rt : Option FieldType) (fr lc kc ks pc npc : Nat) (op : zOp) : Prop :=
  ∀ (p : Program) (l : Launch) (e : Env) (R : Room) (s : State) (m : MethodId) (args : Array Value) (below : List Frame) (meth : Method) (c : Code) (Q : State → Prop) (D : va_G) (A : Nat → Prop) (ad0 : Nat → Nat) (n0 s0 nS : Nat) (f0 f1 : Nat → Int32),
    z_Cx own cc nL nm rt fr lc kc ks p R s m args meth c D A ad0 n0 s0 nS f0 f1 → ∀ (next : zN) (jump : zJ) (ret : zR),
    (∀ lo st L M, next lo st L M → z_K p l e R s m args below meth c Q D A ad0 n0 s0 nS f0 f1 nL npc lo st L M) →
    (∀ t lo st L M, jump t lo st L M → z_K p l e R s m args below meth c Q D A ad0 n0 s0 nS f0 f1 nL t lo st L M) →
    (∀ v L M, ret v L M → z_T cc rt p l e R s m args below meth c Q D A ad0 n0 s0 nS f0 f1 v L M) →
    ∀ lo st L M, op next jump ret lo st L M → z_K p l e R s m args below meth c Q D A ad0 n0 s0 nS f0 f1 nL pc lo st L M
theorem z_Wd.place {s : State} {R : Room} {D : va_G} {A : Nat → Prop} {ad0 : Nat → Nat} {n0 s0 nS : Nat} {f0 f1 : Nat → Int32} {ad : Nat → Nat} {cA : Nat → ClassId} {L : zL} {M : zM} {H : Heap} {locs : List Loc} {cells slots : Nat} (h : z_Wd s R D A ad0 n0 s0 nS f0 f1 ad cA L M H locs cells slots) {p : Nat} {o : (Nat × Nat) ⊕ (Nat × List (Option Value))} (ho : L[p]? = some o) (hk : ∀ n, o ≠ .inl (2, n)) : 2 ≤ p := by
  obtain ⟨-, -, -, -, -, -, z0, z1, -⟩ := h
  rcases (by omega : p = 0 ∨ p = 1 ∨ 2 ≤ p) with e | e | e
  · subst e; rw [z0] at ho; exact absurd (Option.some.inj ho).symm (hk _)
  · subst e; rw [z1] at ho; exact absurd (Option.some.inj ho).symm (hk _)
  · exact e
theorem z_obj_at {L : zL} {p ci : Nat} {fs : List (Option Value)} (h : z_obj L p ci = some fs) : L[p]? = some (.inr (ci, fs)) := by
  unfold z_obj at h
  split at h
  · rename_i o ho
    cases hb : Nat.beq o.1 ci with
    | false => rw [hb] at h; cases h
    | true =>
      rw [hb] at h
      have e := Nat.eq_of_beq_eq_true hb
      cases o
      simp only at e
      subst e
      cases h
      exact ho
  · cases h
theorem z_lenK_at {k : Nat} {L : zL} {p n : Nat} (h : z_lenK k L p = some n) : L[p]? = some (.inl (k, n)) := by
  unfold z_lenK at h
  split at h
  · rename_i o ho
    cases hb : Nat.beq o.1 k with
    | false => rw [hb] at h; cases h
    | true =>
      rw [hb] at h
      have e := Nat.eq_of_beq_eq_true hb
      cases o
      simp only at e
      subst e
      cases h
      exact ho
  · cases h
theorem z_len_at {L : zL} {p n : Nat} (h : z_len L p = some n) : L[p]? = some (.inl (0, n)) ∨ (p < 2 ∧ ∃ k, L[p]? = some (.inl (k, n))) := by
  unfold z_len at h
  split at h
  · rename_i o ho
    cases hb : Nat.beq o.1 0 with
    | true =>
      rw [hb] at h
      have e := Nat.eq_of_beq_eq_true hb
      cases o
      simp only at e
      subst e
      cases h
      exact Or.inl ho
    | false =>
      rw [hb] at h
      cases hb2 : Nat.blt p 2 with
      | false => rw [hb2] at h; cases h
      | true =>
        rw [hb2] at h
        cases h
        exact Or.inr ⟨Nat.blt_eq.mp hb2, o.1, ho⟩
  · cases h
theorem z_K1 {D : va_G} {s : State} (hK : va_K D vwCl [] s) {cA : Nat → ClassId} {L : zL} (hAr : z_Ar s cA L) {p k n : Nat} (h : L[p]? = some (.inl (k, n))) (h2 : 2 ≤ p) : va_K D vwCl [(cA p, z_ty k)] s := by
  refine ⟨hK.1, fun j q hj => ?_⟩
  cases j with
  | zero => cases hj; exact (hAr p k n h h2).2
  | succ j => cases hj

theorem s_mark {own : String} {cc : ByteArray} {nL : Nat} {nm : String} {rt : Option FieldType} {fr lc kc ks pc : Nat} {ks9 : List Nat} : zS own cc nL nm rt fr lc kc ks pc pc (o_mark pc ks9) := by
  intro p l e R s m args below meth c Q D A ad0 n0 s0 nS f0 f1 hC next jump ret hN hJ hR lo st L M h hlo ad cA H locs cells slots ls hW hl
  exact hJ _ _ _ _ _ h (by rw [z_fg_len]; exact hlo) ad cA H locs cells slots ls hW (z_Lo_fg _ hl)
theorem s_iconst {own : String} {cc : ByteArray} {nL : Nat} {nm : String} {rt : Option FieldType} {fr lc kc ks pc : Nat} {n : Int} {v : Int32} (hd : decode cc pc = .ok (.iconst n, 1)) (hv : Int32.ofInt n = v) : zS own cc nL nm rt fr lc kc ks pc (pc + 1) (o_ic v) := by
  intro p l e R s m args below meth c Q D A ad0 n0 s0 nS f0 f1 hC next jump ret hN hJ hR lo st L M h hlo ad cA H locs cells slots ls hW hl
  obtain ⟨hx, hb, hml, hnm, hrt, hlk, hown, hfr, hlc, hkc, hks, h2, hts, hns, hK, hZ, ⟨hX0, hb0, hA0⟩, ⟨hX1, hb1, hA1⟩, hA⟩ := hC
  exact lv_iconst hx hb hd hv (hN _ _ _ _ h hlo ad cA H locs cells slots ls hW hl)
theorem s_bipush {own : String} {cc : ByteArray} {nL : Nat} {nm : String} {rt : Option FieldType} {fr lc kc ks pc : Nat} {n : Int} {v : Int32} (hd : decode cc pc = .ok (.bipush n, 2)) (hv : (Int8.ofInt n).toInt32 = v) : zS own cc nL nm rt fr lc kc ks pc (pc + 2) (o_ic v) := by
  intro p l e R s m args below meth c Q D A ad0 n0 s0 nS f0 f1 hC next jump ret hN hJ hR lo st L M h hlo ad cA H locs cells slots ls hW hl
  obtain ⟨hx, hb, hml, hnm, hrt, hlk, hown, hfr, hlc, hkc, hks, h2, hts, hns, hK, hZ, ⟨hX0, hb0, hA0⟩, ⟨hX1, hb1, hA1⟩, hA⟩ := hC
  exact lv_bipush hx hb hd hv (hN _ _ _ _ h hlo ad cA H locs cells slots ls hW hl)
theorem s_sipush {own : String} {cc : ByteArray} {nL : Nat} {nm : String} {rt : Option FieldType} {fr lc kc ks pc : Nat} {n : Int} {v : Int32} (hd : decode cc pc = .ok (.sipush n, 3)) (hv : (Int16.ofInt n).toInt32 = v) : zS own cc nL nm rt fr lc kc ks pc (pc + 3) (o_ic v) := by
  intro p l e R s m args below meth c Q D A ad0 n0 s0 nS f0 f1 hC next jump ret hN hJ hR lo st L M h hlo ad cA H locs cells slots ls hW hl
  obtain ⟨hx, hb, hml, hnm, hrt, hlk, hown, hfr, hlc, hkc, hks, h2, hts, hns, hK, hZ, ⟨hX0, hb0, hA0⟩, ⟨hX1, hb1, hA1⟩, hA⟩ := hC
  exact lv_sipush hx hb hd hv (hN _ _ _ _ h hlo ad cA H locs cells slots ls hW hl)
theorem s_lconst {own : String} {cc : ByteArray} {nL : Nat} {nm : String} {rt : Option FieldType} {fr lc kc ks pc : Nat} {n : Fin 2} {v : Int64} (hd : decode cc pc = .ok (.lconst n, 1)) (hv : Int64.ofNat (n : Nat) = v) : zS own cc nL nm rt fr lc kc ks pc (pc + 1) (o_lc v) := by
  intro p l e R s m args below meth c Q D A ad0 n0 s0 nS f0 f1 hC next jump ret hN hJ hR lo st L M h hlo ad cA H locs cells slots ls hW hl
  obtain ⟨hx, hb, hml, hnm, hrt, hlk, hown, hfr, hlc, hkc, hks, h2, hts, hns, hK, hZ, ⟨hX0, hb0, hA0⟩, ⟨hX1, hb1, hA1⟩, hA⟩ := hC
  exact lv_lconst hx hb hd hv (hN _ _ _ _ h hlo ad cA H locs cells slots ls hW hl)
theorem s_ldc {own : String} {cc : ByteArray} {nL : Nat} {nm : String} {rt : Option FieldType} {fr lc kc ks pc : Nat} {ix : Nat} {v : Int32} (hk : Cond.constant own ix v ∈ z_Ts) (hd : decode cc pc = .ok (.ldc ix, 2)) : zS own cc nL nm rt fr lc kc ks pc (pc + 2) (o_ic v) := by
  intro p l e R s m args below meth c Q D A ad0 n0 s0 nS f0 f1 hC next jump ret hN hJ hR lo st L M h hlo ad cA H locs cells slots ls hW hl
  obtain ⟨hx, hb, hml, hnm, hrt, hlk, hown, hfr, hlc, hkc, hks, h2, hts, hns, hK, hZ, ⟨hX0, hb0, hA0⟩, ⟨hX1, hb1, hA1⟩, hA⟩ := hC
  exact lv_ldc hx hb hown (hts _ hk) hd (hN _ _ _ _ h hlo ad cA H locs cells slots ls hW hl)
theorem s_ldc2 {own : String} {cc : ByteArray} {nL : Nat} {nm : String} {rt : Option FieldType} {fr lc kc ks pc : Nat} {ix : Nat} {v : Int64} (hk : Cond.constantLong own ix v ∈ z_Ts) (hd : decode cc pc = .ok (.ldc2_w ix, 3)) : zS own cc nL nm rt fr lc kc ks pc (pc + 3) (o_lc v) := by
  intro p l e R s m args below meth c Q D A ad0 n0 s0 nS f0 f1 hC next jump ret hN hJ hR lo st L M h hlo ad cA H locs cells slots ls hW hl
  obtain ⟨hx, hb, hml, hnm, hrt, hlk, hown, hfr, hlc, hkc, hks, h2, hts, hns, hK, hZ, ⟨hX0, hb0, hA0⟩, ⟨hX1, hb1, hA1⟩, hA⟩ := hC
  exact lv_ldc2 hx hb hown (hts _ hk) hd (hN _ _ _ _ h hlo ad cA H locs cells slots ls hW hl)
theorem s_iload {own : String} {cc : ByteArray} {nL : Nat} {nm : String} {rt : Option FieldType} {fr lc kc ks pc : Nat} {i : Nat} (hd : decode cc pc = .ok (.iload i, 2)) : zS own cc nL nm rt fr lc kc ks pc (pc + 2) (o_il i) := by
  intro p l e R s m args below meth c Q D A ad0 n0 s0 nS f0 f1 hC next jump ret hN hJ hR lo st L M h hlo ad cA H locs cells slots ls hW hl
  obtain ⟨hx, hb, hml, hnm, hrt, hlk, hown, hfr, hlc, hkc, hks, h2, hts, hns, hK, hZ, ⟨hX0, hb0, hA0⟩, ⟨hX1, hb1, hA1⟩, hA⟩ := hC
  unfold o_il at h
  split at h
  · rename_i x hv
    exact lv_iload hx hb hd (hl.2.2 _ _ hv) (hN _ _ _ _ h hlo ad cA H locs cells slots ls hW hl)
  · exact h.elim
theorem s_iload_n {own : String} {cc : ByteArray} {nL : Nat} {nm : String} {rt : Option FieldType} {fr lc kc ks pc : Nat} {k : Fin 4} {i : Nat} (hd : decode cc pc = .ok (.iload_n k, 1)) (hi : (k : Nat) = i) : zS own cc nL nm rt fr lc kc ks pc (pc + 1) (o_il i) := by
  intro p l e R s m args below meth c Q D A ad0 n0 s0 nS f0 f1 hC next jump ret hN hJ hR lo st L M h hlo ad cA H locs cells slots ls hW hl
  obtain ⟨hx, hb, hml, hnm, hrt, hlk, hown, hfr, hlc, hkc, hks, h2, hts, hns, hK, hZ, ⟨hX0, hb0, hA0⟩, ⟨hX1, hb1, hA1⟩, hA⟩ := hC
  unfold o_il at h
  split at h
  · rename_i x hv
    exact lv_iload_n hx hb hd hi (hl.2.2 _ _ hv) (hN _ _ _ _ h hlo ad cA H locs cells slots ls hW hl)
  · exact h.elim
theorem s_lload {own : String} {cc : ByteArray} {nL : Nat} {nm : String} {rt : Option FieldType} {fr lc kc ks pc : Nat} {i : Nat} (hd : decode cc pc = .ok (.lload i, 2)) : zS own cc nL nm rt fr lc kc ks pc (pc + 2) (o_ll i) := by
  intro p l e R s m args below meth c Q D A ad0 n0 s0 nS f0 f1 hC next jump ret hN hJ hR lo st L M h hlo ad cA H locs cells slots ls hW hl
  obtain ⟨hx, hb, hml, hnm, hrt, hlk, hown, hfr, hlc, hkc, hks, h2, hts, hns, hK, hZ, ⟨hX0, hb0, hA0⟩, ⟨hX1, hb1, hA1⟩, hA⟩ := hC
  unfold o_ll at h
  split at h
  · rename_i x hv
    exact lv_lload hx hb hd (hl.2.2 _ _ hv) (hN _ _ _ _ h hlo ad cA H locs cells slots ls hW hl)
  · exact h.elim
theorem s_lload_n {own : String} {cc : ByteArray} {nL : Nat} {nm : String} {rt : Option FieldType} {fr lc kc ks pc : Nat} {k : Fin 4} {i : Nat} (hd : decode cc pc = .ok (.lload_n k, 1)) (hi : (k : Nat) = i) : zS own cc nL nm rt fr lc kc ks pc (pc + 1) (o_ll i) := by
  intro p l e R s m args below meth c Q D A ad0 n0 s0 nS f0 f1 hC next jump ret hN hJ hR lo st L M h hlo ad cA H locs cells slots ls hW hl
  obtain ⟨hx, hb, hml, hnm, hrt, hlk, hown, hfr, hlc, hkc, hks, h2, hts, hns, hK, hZ, ⟨hX0, hb0, hA0⟩, ⟨hX1, hb1, hA1⟩, hA⟩ := hC
  unfold o_ll at h
  split at h
  · rename_i x hv
    exact lv_lload_n hx hb hd hi (hl.2.2 _ _ hv) (hN _ _ _ _ h hlo ad cA H locs cells slots ls hW hl)
  · exact h.elim
theorem s_aload {own : String} {cc : ByteArray} {nL : Nat} {nm : String} {rt : Option FieldType} {fr lc kc ks pc : Nat} {i : Nat} (hd : decode cc pc = .ok (.aload i, 2)) : zS own cc nL nm rt fr lc kc ks pc (pc + 2) (o_al i) := by
  intro p l e R s m args below meth c Q D A ad0 n0 s0 nS f0 f1 hC next jump ret hN hJ hR lo st L M h hlo ad cA H locs cells slots ls hW hl
  obtain ⟨hx, hb, hml, hnm, hrt, hlk, hown, hfr, hlc, hkc, hks, h2, hts, hns, hK, hZ, ⟨hX0, hb0, hA0⟩, ⟨hX1, hb1, hA1⟩, hA⟩ := hC
  unfold o_al at h
  split at h
  · rename_i x hv
    exact lv_aload hx hb hd (hl.2.2 _ _ hv) (hN _ _ _ _ h hlo ad cA H locs cells slots ls hW hl)
  · exact h.elim
theorem s_aload_n {own : String} {cc : ByteArray} {nL : Nat} {nm : String} {rt : Option FieldType} {fr lc kc ks pc : Nat} {k : Fin 4} {i : Nat} (hd : decode cc pc = .ok (.aload_n k, 1)) (hi : (k : Nat) = i) : zS own cc nL nm rt fr lc kc ks pc (pc + 1) (o_al i) := by
  intro p l e R s m args below meth c Q D A ad0 n0 s0 nS f0 f1 hC next jump ret hN hJ hR lo st L M h hlo ad cA H locs cells slots ls hW hl
  obtain ⟨hx, hb, hml, hnm, hrt, hlk, hown, hfr, hlc, hkc, hks, h2, hts, hns, hK, hZ, ⟨hX0, hb0, hA0⟩, ⟨hX1, hb1, hA1⟩, hA⟩ := hC
  unfold o_al at h
  split at h
  · rename_i x hv
    exact lv_aload_n hx hb hd hi (hl.2.2 _ _ hv) (hN _ _ _ _ h hlo ad cA H locs cells slots ls hW hl)
  · exact h.elim
theorem s_istore {own : String} {cc : ByteArray} {nL : Nat} {nm : String} {rt : Option FieldType} {fr lc kc ks pc : Nat} {i : Nat} (hd : decode cc pc = .ok (.istore i, 2)) : zS own cc nL nm rt fr lc kc ks pc (pc + 2) (o_is i) := by
  intro p l e R s m args below meth c Q D A ad0 n0 s0 nS f0 f1 hC next jump ret hN hJ hR lo st L M h hlo ad cA H locs cells slots ls hW hl
  obtain ⟨hx, hb, hml, hnm, hrt, hlk, hown, hfr, hlc, hkc, hks, h2, hts, hns, hK, hZ, ⟨hX0, hb0, hA0⟩, ⟨hX1, hb1, hA1⟩, hA⟩ := hC
  unfold o_is at h
  split at h
  · rename_i x r
    cases hb9 : (z_n1 lo i && Nat.blt i lo.length) with
    | false => rw [hb9] at h; exact h.elim
    | true =>
      rw [hb9] at h
      obtain ⟨h7, h8⟩ := Bool.and_eq_true_iff.mp hb9
      refine lv_istore hx hb hd (z_Lo_has hl) (Nat.blt_eq.mp h8) rfl (fun ls hl9 => ?_)
      exact hN _ _ _ _ h (by simp [hlo]) ad cA H locs cells slots ls hW (z_Lo_set1 (v := .int x) h7 hl9)
  · exact h.elim
theorem s_istore_n {own : String} {cc : ByteArray} {nL : Nat} {nm : String} {rt : Option FieldType} {fr lc kc ks pc : Nat} {k : Fin 4} {i : Nat} (hd : decode cc pc = .ok (.istore_n k, 1)) (hi : (k : Nat) = i) : zS own cc nL nm rt fr lc kc ks pc (pc + 1) (o_is i) := by
  intro p l e R s m args below meth c Q D A ad0 n0 s0 nS f0 f1 hC next jump ret hN hJ hR lo st L M h hlo ad cA H locs cells slots ls hW hl
  obtain ⟨hx, hb, hml, hnm, hrt, hlk, hown, hfr, hlc, hkc, hks, h2, hts, hns, hK, hZ, ⟨hX0, hb0, hA0⟩, ⟨hX1, hb1, hA1⟩, hA⟩ := hC
  unfold o_is at h
  split at h
  · rename_i x r
    cases hb9 : (z_n1 lo i && Nat.blt i lo.length) with
    | false => rw [hb9] at h; exact h.elim
    | true =>
      rw [hb9] at h
      obtain ⟨h7, h8⟩ := Bool.and_eq_true_iff.mp hb9
      refine lv_istore_n hx hb hd hi (z_Lo_has hl) (Nat.blt_eq.mp h8) rfl (fun ls hl9 => ?_)
      exact hN _ _ _ _ h (by simp [hlo]) ad cA H locs cells slots ls hW (z_Lo_set1 (v := .int x) h7 hl9)
  · exact h.elim
theorem s_lstore {own : String} {cc : ByteArray} {nL : Nat} {nm : String} {rt : Option FieldType} {fr lc kc ks pc : Nat} {i : Nat} (hd : decode cc pc = .ok (.lstore i, 2)) : zS own cc nL nm rt fr lc kc ks pc (pc + 2) (o_ls i) := by
  intro p l e R s m args below meth c Q D A ad0 n0 s0 nS f0 f1 hC next jump ret hN hJ hR lo st L M h hlo ad cA H locs cells slots ls hW hl
  obtain ⟨hx, hb, hml, hnm, hrt, hlk, hown, hfr, hlc, hkc, hks, h2, hts, hns, hK, hZ, ⟨hX0, hb0, hA0⟩, ⟨hX1, hb1, hA1⟩, hA⟩ := hC
  unfold o_ls at h
  split at h
  · rename_i x r
    cases hb9 : (z_n1 lo i && Nat.blt (i + 1) lo.length) with
    | false => rw [hb9] at h; exact h.elim
    | true =>
      rw [hb9] at h
      obtain ⟨h7, h8⟩ := Bool.and_eq_true_iff.mp hb9
      refine lv_lstore hx hb hd (z_Lo_has hl) (Nat.blt_eq.mp h8) rfl (fun ls hl9 => ?_)
      exact hN _ _ _ _ h (by simp [hlo]) ad cA H locs cells slots ls hW (z_Lo_set2 (v := .long x) h7 hl9)
  · exact h.elim
theorem s_lstore_n {own : String} {cc : ByteArray} {nL : Nat} {nm : String} {rt : Option FieldType} {fr lc kc ks pc : Nat} {k : Fin 4} {i : Nat} (hd : decode cc pc = .ok (.lstore_n k, 1)) (hi : (k : Nat) = i) : zS own cc nL nm rt fr lc kc ks pc (pc + 1) (o_ls i) := by
  intro p l e R s m args below meth c Q D A ad0 n0 s0 nS f0 f1 hC next jump ret hN hJ hR lo st L M h hlo ad cA H locs cells slots ls hW hl
  obtain ⟨hx, hb, hml, hnm, hrt, hlk, hown, hfr, hlc, hkc, hks, h2, hts, hns, hK, hZ, ⟨hX0, hb0, hA0⟩, ⟨hX1, hb1, hA1⟩, hA⟩ := hC
  unfold o_ls at h
  split at h
  · rename_i x r
    cases hb9 : (z_n1 lo i && Nat.blt (i + 1) lo.length) with
    | false => rw [hb9] at h; exact h.elim
    | true =>
      rw [hb9] at h
      obtain ⟨h7, h8⟩ := Bool.and_eq_true_iff.mp hb9
      refine lv_lstore_n hx hb hd hi (z_Lo_has hl) (Nat.blt_eq.mp h8) rfl (fun ls hl9 => ?_)
      exact hN _ _ _ _ h (by simp [hlo]) ad cA H locs cells slots ls hW (z_Lo_set2 (v := .long x) h7 hl9)
  · exact h.elim
theorem s_astore {own : String} {cc : ByteArray} {nL : Nat} {nm : String} {rt : Option FieldType} {fr lc kc ks pc : Nat} {i : Nat} (hd : decode cc pc = .ok (.astore i, 2)) : zS own cc nL nm rt fr lc kc ks pc (pc + 2) (o_as i) := by
  intro p l e R s m args below meth c Q D A ad0 n0 s0 nS f0 f1 hC next jump ret hN hJ hR lo st L M h hlo ad cA H locs cells slots ls hW hl
  obtain ⟨hx, hb, hml, hnm, hrt, hlk, hown, hfr, hlc, hkc, hks, h2, hts, hns, hK, hZ, ⟨hX0, hb0, hA0⟩, ⟨hX1, hb1, hA1⟩, hA⟩ := hC
  unfold o_as at h
  split at h
  · rename_i x r
    cases hb9 : (z_n1 lo i && Nat.blt i lo.length) with
    | false => rw [hb9] at h; exact h.elim
    | true =>
      rw [hb9] at h
      obtain ⟨h7, h8⟩ := Bool.and_eq_true_iff.mp hb9
      refine lv_astore hx hb hd (z_Lo_has hl) (Nat.blt_eq.mp h8) rfl (fun ls hl9 => ?_)
      exact hN _ _ _ _ h (by simp [hlo]) ad cA H locs cells slots ls hW (z_Lo_set1 (v := .ref x) h7 hl9)
  · exact h.elim
theorem s_astore_n {own : String} {cc : ByteArray} {nL : Nat} {nm : String} {rt : Option FieldType} {fr lc kc ks pc : Nat} {k : Fin 4} {i : Nat} (hd : decode cc pc = .ok (.astore_n k, 1)) (hi : (k : Nat) = i) : zS own cc nL nm rt fr lc kc ks pc (pc + 1) (o_as i) := by
  intro p l e R s m args below meth c Q D A ad0 n0 s0 nS f0 f1 hC next jump ret hN hJ hR lo st L M h hlo ad cA H locs cells slots ls hW hl
  obtain ⟨hx, hb, hml, hnm, hrt, hlk, hown, hfr, hlc, hkc, hks, h2, hts, hns, hK, hZ, ⟨hX0, hb0, hA0⟩, ⟨hX1, hb1, hA1⟩, hA⟩ := hC
  unfold o_as at h
  split at h
  · rename_i x r
    cases hb9 : (z_n1 lo i && Nat.blt i lo.length) with
    | false => rw [hb9] at h; exact h.elim
    | true =>
      rw [hb9] at h
      obtain ⟨h7, h8⟩ := Bool.and_eq_true_iff.mp hb9
      refine lv_astore_n hx hb hd hi (z_Lo_has hl) (Nat.blt_eq.mp h8) rfl (fun ls hl9 => ?_)
      exact hN _ _ _ _ h (by simp [hlo]) ad cA H locs cells slots ls hW (z_Lo_set1 (v := .ref x) h7 hl9)
  · exact h.elim
theorem s_iinc {own : String} {cc : ByteArray} {nL : Nat} {nm : String} {rt : Option FieldType} {fr lc kc ks pc : Nat} {i : Nat} {n : Int} {v : Int32} (hd : decode cc pc = .ok (.iinc i n, 3)) (hv : Int32.ofInt n = v) : zS own cc nL nm rt fr lc kc ks pc (pc + 3) (o_inc i v) := by
  intro p l e R s m args below meth c Q D A ad0 n0 s0 nS f0 f1 hC next jump ret hN hJ hR lo st L M h hlo ad cA H locs cells slots ls hW hl
  obtain ⟨hx, hb, hml, hnm, hrt, hlk, hown, hfr, hlc, hkc, hks, h2, hts, hns, hK, hZ, ⟨hX0, hb0, hA0⟩, ⟨hX1, hb1, hA1⟩, hA⟩ := hC
  unfold o_inc at h
  split at h
  · rename_i x hx9
    cases hb9 : (z_n1 lo i && Nat.blt i lo.length) with
    | false => rw [hb9] at h; exact h.elim
    | true =>
      rw [hb9] at h
      obtain ⟨h7, h8⟩ := Bool.and_eq_true_iff.mp hb9
      obtain ⟨k, hk⟩ := List.getElem?_of_mem (z_as_mem.mpr ⟨.int x, hx9, rfl⟩ : (i, Value.int x) ∈ z_as ad lo)
      refine lv_iinc (v := x + v) hx hb hd (z_Lo_has hl) hk (by rw [hv]) (Nat.blt_eq.mp h8) rfl (fun ls hl9 => ?_)
      exact hN _ _ _ _ h (by simp [hlo]) ad cA H locs cells slots ls hW (z_Lo_set1 (v := .int (x + v)) h7 hl9)
  · exact h.elim
theorem s_iadd {own : String} {cc : ByteArray} {nL : Nat} {nm : String} {rt : Option FieldType} {fr lc kc ks pc : Nat} (hd : decode cc pc = .ok (.iadd, 1)) : zS own cc nL nm rt fr lc kc ks pc (pc + 1) (o_ii (fun x y => x + y)) := by
  intro p l e R s m args below meth c Q D A ad0 n0 s0 nS f0 f1 hC next jump ret hN hJ hR lo st L M h hlo ad cA H locs cells slots ls hW hl
  obtain ⟨hx, hb, hml, hnm, hrt, hlk, hown, hfr, hlc, hkc, hks, h2, hts, hns, hK, hZ, ⟨hX0, hb0, hA0⟩, ⟨hX1, hb1, hA1⟩, hA⟩ := hC
  unfold o_ii at h
  split at h
  · rename_i y x r
    exact lv_iadd hx hb hd (hN _ _ _ _ h hlo ad cA H locs cells slots ls hW hl)
  · exact h.elim
theorem s_isub {own : String} {cc : ByteArray} {nL : Nat} {nm : String} {rt : Option FieldType} {fr lc kc ks pc : Nat} (hd : decode cc pc = .ok (.isub, 1)) : zS own cc nL nm rt fr lc kc ks pc (pc + 1) (o_ii (fun x y => x - y)) := by
  intro p l e R s m args below meth c Q D A ad0 n0 s0 nS f0 f1 hC next jump ret hN hJ hR lo st L M h hlo ad cA H locs cells slots ls hW hl
  obtain ⟨hx, hb, hml, hnm, hrt, hlk, hown, hfr, hlc, hkc, hks, h2, hts, hns, hK, hZ, ⟨hX0, hb0, hA0⟩, ⟨hX1, hb1, hA1⟩, hA⟩ := hC
  unfold o_ii at h
  split at h
  · rename_i y x r
    exact lv_isub hx hb hd (hN _ _ _ _ h hlo ad cA H locs cells slots ls hW hl)
  · exact h.elim
theorem s_imul {own : String} {cc : ByteArray} {nL : Nat} {nm : String} {rt : Option FieldType} {fr lc kc ks pc : Nat} (hd : decode cc pc = .ok (.imul, 1)) : zS own cc nL nm rt fr lc kc ks pc (pc + 1) (o_ii (fun x y => x * y)) := by
  intro p l e R s m args below meth c Q D A ad0 n0 s0 nS f0 f1 hC next jump ret hN hJ hR lo st L M h hlo ad cA H locs cells slots ls hW hl
  obtain ⟨hx, hb, hml, hnm, hrt, hlk, hown, hfr, hlc, hkc, hks, h2, hts, hns, hK, hZ, ⟨hX0, hb0, hA0⟩, ⟨hX1, hb1, hA1⟩, hA⟩ := hC
  unfold o_ii at h
  split at h
  · rename_i y x r
    exact lv_imul hx hb hd (hN _ _ _ _ h hlo ad cA H locs cells slots ls hW hl)
  · exact h.elim
theorem s_iand {own : String} {cc : ByteArray} {nL : Nat} {nm : String} {rt : Option FieldType} {fr lc kc ks pc : Nat} (hd : decode cc pc = .ok (.iand, 1)) : zS own cc nL nm rt fr lc kc ks pc (pc + 1) (o_ii (fun x y => x &&& y)) := by
  intro p l e R s m args below meth c Q D A ad0 n0 s0 nS f0 f1 hC next jump ret hN hJ hR lo st L M h hlo ad cA H locs cells slots ls hW hl
  obtain ⟨hx, hb, hml, hnm, hrt, hlk, hown, hfr, hlc, hkc, hks, h2, hts, hns, hK, hZ, ⟨hX0, hb0, hA0⟩, ⟨hX1, hb1, hA1⟩, hA⟩ := hC
  unfold o_ii at h
  split at h
  · rename_i y x r
    exact lv_iand hx hb hd (hN _ _ _ _ h hlo ad cA H locs cells slots ls hW hl)
  · exact h.elim
theorem s_ior {own : String} {cc : ByteArray} {nL : Nat} {nm : String} {rt : Option FieldType} {fr lc kc ks pc : Nat} (hd : decode cc pc = .ok (.ior, 1)) : zS own cc nL nm rt fr lc kc ks pc (pc + 1) (o_ii (fun x y => x ||| y)) := by
  intro p l e R s m args below meth c Q D A ad0 n0 s0 nS f0 f1 hC next jump ret hN hJ hR lo st L M h hlo ad cA H locs cells slots ls hW hl
  obtain ⟨hx, hb, hml, hnm, hrt, hlk, hown, hfr, hlc, hkc, hks, h2, hts, hns, hK, hZ, ⟨hX0, hb0, hA0⟩, ⟨hX1, hb1, hA1⟩, hA⟩ := hC
  unfold o_ii at h
  split at h
  · rename_i y x r
    exact lv_ior hx hb hd (hN _ _ _ _ h hlo ad cA H locs cells slots ls hW hl)
  · exact h.elim
theorem s_ixor {own : String} {cc : ByteArray} {nL : Nat} {nm : String} {rt : Option FieldType} {fr lc kc ks pc : Nat} (hd : decode cc pc = .ok (.ixor, 1)) : zS own cc nL nm rt fr lc kc ks pc (pc + 1) (o_ii (fun x y => x ^^^ y)) := by
  intro p l e R s m args below meth c Q D A ad0 n0 s0 nS f0 f1 hC next jump ret hN hJ hR lo st L M h hlo ad cA H locs cells slots ls hW hl
  obtain ⟨hx, hb, hml, hnm, hrt, hlk, hown, hfr, hlc, hkc, hks, h2, hts, hns, hK, hZ, ⟨hX0, hb0, hA0⟩, ⟨hX1, hb1, hA1⟩, hA⟩ := hC
  unfold o_ii at h
  split at h
  · rename_i y x r
    exact lv_ixor hx hb hd (hN _ _ _ _ h hlo ad cA H locs cells slots ls hW hl)
  · exact h.elim
theorem s_ishl {own : String} {cc : ByteArray} {nL : Nat} {nm : String} {rt : Option FieldType} {fr lc kc ks pc : Nat} (hd : decode cc pc = .ok (.ishl, 1)) : zS own cc nL nm rt fr lc kc ks pc (pc + 1) (o_ii (fun x y => x <<< (y &&& 31))) := by
  intro p l e R s m args below meth c Q D A ad0 n0 s0 nS f0 f1 hC next jump ret hN hJ hR lo st L M h hlo ad cA H locs cells slots ls hW hl
  obtain ⟨hx, hb, hml, hnm, hrt, hlk, hown, hfr, hlc, hkc, hks, h2, hts, hns, hK, hZ, ⟨hX0, hb0, hA0⟩, ⟨hX1, hb1, hA1⟩, hA⟩ := hC
  unfold o_ii at h
  split at h
  · rename_i y x r
    exact lv_ishl hx hb hd (hN _ _ _ _ h hlo ad cA H locs cells slots ls hW hl)
  · exact h.elim
theorem s_ishr {own : String} {cc : ByteArray} {nL : Nat} {nm : String} {rt : Option FieldType} {fr lc kc ks pc : Nat} (hd : decode cc pc = .ok (.ishr, 1)) : zS own cc nL nm rt fr lc kc ks pc (pc + 1) (o_ii (fun x y => x >>> (y &&& 31))) := by
  intro p l e R s m args below meth c Q D A ad0 n0 s0 nS f0 f1 hC next jump ret hN hJ hR lo st L M h hlo ad cA H locs cells slots ls hW hl
  obtain ⟨hx, hb, hml, hnm, hrt, hlk, hown, hfr, hlc, hkc, hks, h2, hts, hns, hK, hZ, ⟨hX0, hb0, hA0⟩, ⟨hX1, hb1, hA1⟩, hA⟩ := hC
  unfold o_ii at h
  split at h
  · rename_i y x r
    exact lv_ishr hx hb hd (hN _ _ _ _ h hlo ad cA H locs cells slots ls hW hl)
  · exact h.elim
theorem s_iushr {own : String} {cc : ByteArray} {nL : Nat} {nm : String} {rt : Option FieldType} {fr lc kc ks pc : Nat} (hd : decode cc pc = .ok (.iushr, 1)) : zS own cc nL nm rt fr lc kc ks pc (pc + 1) (o_ii (fun x y => (x.toUInt32 >>> (y.toUInt32 &&& Int32.toUInt32 31)).toInt32)) := by
  intro p l e R s m args below meth c Q D A ad0 n0 s0 nS f0 f1 hC next jump ret hN hJ hR lo st L M h hlo ad cA H locs cells slots ls hW hl
  obtain ⟨hx, hb, hml, hnm, hrt, hlk, hown, hfr, hlc, hkc, hks, h2, hts, hns, hK, hZ, ⟨hX0, hb0, hA0⟩, ⟨hX1, hb1, hA1⟩, hA⟩ := hC
  unfold o_ii at h
  split at h
  · rename_i y x r
    exact lv_iushr hx hb hd rfl (hN _ _ _ _ h hlo ad cA H locs cells slots ls hW hl)
  · exact h.elim
theorem s_idiv {own : String} {cc : ByteArray} {nL : Nat} {nm : String} {rt : Option FieldType} {fr lc kc ks pc : Nat} (hd : decode cc pc = .ok (.idiv, 1)) : zS own cc nL nm rt fr lc kc ks pc (pc + 1) (o_iz (fun x y => x / y)) := by
  intro p l e R s m args below meth c Q D A ad0 n0 s0 nS f0 f1 hC next jump ret hN hJ hR lo st L M h hlo ad cA H locs cells slots ls hW hl
  obtain ⟨hx, hb, hml, hnm, hrt, hlk, hown, hfr, hlc, hkc, hks, h2, hts, hns, hK, hZ, ⟨hX0, hb0, hA0⟩, ⟨hX1, hb1, hA1⟩, hA⟩ := hC
  unfold o_iz at h
  split at h
  · rename_i y x r
    exact lv_idiv hx hb hd h.1 (hN _ _ _ _ h.2 hlo ad cA H locs cells slots ls hW hl)
  · exact h.elim
theorem s_irem {own : String} {cc : ByteArray} {nL : Nat} {nm : String} {rt : Option FieldType} {fr lc kc ks pc : Nat} (hd : decode cc pc = .ok (.irem, 1)) : zS own cc nL nm rt fr lc kc ks pc (pc + 1) (o_iz (fun x y => x - x / y * y)) := by
  intro p l e R s m args below meth c Q D A ad0 n0 s0 nS f0 f1 hC next jump ret hN hJ hR lo st L M h hlo ad cA H locs cells slots ls hW hl
  obtain ⟨hx, hb, hml, hnm, hrt, hlk, hown, hfr, hlc, hkc, hks, h2, hts, hns, hK, hZ, ⟨hX0, hb0, hA0⟩, ⟨hX1, hb1, hA1⟩, hA⟩ := hC
  unfold o_iz at h
  split at h
  · rename_i y x r
    exact lv_irem hx hb hd h.1 (hN _ _ _ _ h.2 hlo ad cA H locs cells slots ls hW hl)
  · exact h.elim
theorem s_ladd {own : String} {cc : ByteArray} {nL : Nat} {nm : String} {rt : Option FieldType} {fr lc kc ks pc : Nat} (hd : decode cc pc = .ok (.ladd, 1)) : zS own cc nL nm rt fr lc kc ks pc (pc + 1) (o_jj (fun x y => x + y)) := by
  intro p l e R s m args below meth c Q D A ad0 n0 s0 nS f0 f1 hC next jump ret hN hJ hR lo st L M h hlo ad cA H locs cells slots ls hW hl
  obtain ⟨hx, hb, hml, hnm, hrt, hlk, hown, hfr, hlc, hkc, hks, h2, hts, hns, hK, hZ, ⟨hX0, hb0, hA0⟩, ⟨hX1, hb1, hA1⟩, hA⟩ := hC
  unfold o_jj at h
  split at h
  · rename_i y x r
    exact lv_ladd hx hb hd (hN _ _ _ _ h hlo ad cA H locs cells slots ls hW hl)
  · exact h.elim
theorem s_lsub {own : String} {cc : ByteArray} {nL : Nat} {nm : String} {rt : Option FieldType} {fr lc kc ks pc : Nat} (hd : decode cc pc = .ok (.lsub, 1)) : zS own cc nL nm rt fr lc kc ks pc (pc + 1) (o_jj (fun x y => x - y)) := by
  intro p l e R s m args below meth c Q D A ad0 n0 s0 nS f0 f1 hC next jump ret hN hJ hR lo st L M h hlo ad cA H locs cells slots ls hW hl
  obtain ⟨hx, hb, hml, hnm, hrt, hlk, hown, hfr, hlc, hkc, hks, h2, hts, hns, hK, hZ, ⟨hX0, hb0, hA0⟩, ⟨hX1, hb1, hA1⟩, hA⟩ := hC
  unfold o_jj at h
  split at h
  · rename_i y x r
    exact lv_lsub hx hb hd (hN _ _ _ _ h hlo ad cA H locs cells slots ls hW hl)
  · exact h.elim
theorem s_lmul {own : String} {cc : ByteArray} {nL : Nat} {nm : String} {rt : Option FieldType} {fr lc kc ks pc : Nat} (hd : decode cc pc = .ok (.lmul, 1)) : zS own cc nL nm rt fr lc kc ks pc (pc + 1) (o_jj (fun x y => x * y)) := by
  intro p l e R s m args below meth c Q D A ad0 n0 s0 nS f0 f1 hC next jump ret hN hJ hR lo st L M h hlo ad cA H locs cells slots ls hW hl
  obtain ⟨hx, hb, hml, hnm, hrt, hlk, hown, hfr, hlc, hkc, hks, h2, hts, hns, hK, hZ, ⟨hX0, hb0, hA0⟩, ⟨hX1, hb1, hA1⟩, hA⟩ := hC
  unfold o_jj at h
  split at h
  · rename_i y x r
    exact lv_lmul hx hb hd (hN _ _ _ _ h hlo ad cA H locs cells slots ls hW hl)
  · exact h.elim
theorem s_land {own : String} {cc : ByteArray} {nL : Nat} {nm : String} {rt : Option FieldType} {fr lc kc ks pc : Nat} (hd : decode cc pc = .ok (.land, 1)) : zS own cc nL nm rt fr lc kc ks pc (pc + 1) (o_jj (fun x y => x &&& y)) := by
  intro p l e R s m args below meth c Q D A ad0 n0 s0 nS f0 f1 hC next jump ret hN hJ hR lo st L M h hlo ad cA H locs cells slots ls hW hl
  obtain ⟨hx, hb, hml, hnm, hrt, hlk, hown, hfr, hlc, hkc, hks, h2, hts, hns, hK, hZ, ⟨hX0, hb0, hA0⟩, ⟨hX1, hb1, hA1⟩, hA⟩ := hC
  unfold o_jj at h
  split at h
  · rename_i y x r
    exact lv_land hx hb hd (hN _ _ _ _ h hlo ad cA H locs cells slots ls hW hl)
  · exact h.elim
theorem s_lor {own : String} {cc : ByteArray} {nL : Nat} {nm : String} {rt : Option FieldType} {fr lc kc ks pc : Nat} (hd : decode cc pc = .ok (.lor, 1)) : zS own cc nL nm rt fr lc kc ks pc (pc + 1) (o_jj (fun x y => x ||| y)) := by
  intro p l e R s m args below meth c Q D A ad0 n0 s0 nS f0 f1 hC next jump ret hN hJ hR lo st L M h hlo ad cA H locs cells slots ls hW hl
  obtain ⟨hx, hb, hml, hnm, hrt, hlk, hown, hfr, hlc, hkc, hks, h2, hts, hns, hK, hZ, ⟨hX0, hb0, hA0⟩, ⟨hX1, hb1, hA1⟩, hA⟩ := hC
  unfold o_jj at h
  split at h
  · rename_i y x r
    exact lv_lor hx hb hd (hN _ _ _ _ h hlo ad cA H locs cells slots ls hW hl)
  · exact h.elim
theorem s_lxor {own : String} {cc : ByteArray} {nL : Nat} {nm : String} {rt : Option FieldType} {fr lc kc ks pc : Nat} (hd : decode cc pc = .ok (.lxor, 1)) : zS own cc nL nm rt fr lc kc ks pc (pc + 1) (o_jj (fun x y => x ^^^ y)) := by
  intro p l e R s m args below meth c Q D A ad0 n0 s0 nS f0 f1 hC next jump ret hN hJ hR lo st L M h hlo ad cA H locs cells slots ls hW hl
  obtain ⟨hx, hb, hml, hnm, hrt, hlk, hown, hfr, hlc, hkc, hks, h2, hts, hns, hK, hZ, ⟨hX0, hb0, hA0⟩, ⟨hX1, hb1, hA1⟩, hA⟩ := hC
  unfold o_jj at h
  split at h
  · rename_i y x r
    exact lv_lxor hx hb hd (hN _ _ _ _ h hlo ad cA H locs cells slots ls hW hl)
  · exact h.elim
theorem s_ldiv {own : String} {cc : ByteArray} {nL : Nat} {nm : String} {rt : Option FieldType} {fr lc kc ks pc : Nat} (hd : decode cc pc = .ok (.ldiv, 1)) : zS own cc nL nm rt fr lc kc ks pc (pc + 1) (o_jz (fun x y => x / y)) := by
  intro p l e R s m args below meth c Q D A ad0 n0 s0 nS f0 f1 hC next jump ret hN hJ hR lo st L M h hlo ad cA H locs cells slots ls hW hl
  obtain ⟨hx, hb, hml, hnm, hrt, hlk, hown, hfr, hlc, hkc, hks, h2, hts, hns, hK, hZ, ⟨hX0, hb0, hA0⟩, ⟨hX1, hb1, hA1⟩, hA⟩ := hC
  unfold o_jz at h
  split at h
  · rename_i y x r
    exact lv_ldiv hx hb hd h.1 (hN _ _ _ _ h.2 hlo ad cA H locs cells slots ls hW hl)
  · exact h.elim
theorem s_lrem {own : String} {cc : ByteArray} {nL : Nat} {nm : String} {rt : Option FieldType} {fr lc kc ks pc : Nat} (hd : decode cc pc = .ok (.lrem, 1)) : zS own cc nL nm rt fr lc kc ks pc (pc + 1) (o_jz (fun x y => x - x / y * y)) := by
  intro p l e R s m args below meth c Q D A ad0 n0 s0 nS f0 f1 hC next jump ret hN hJ hR lo st L M h hlo ad cA H locs cells slots ls hW hl
  obtain ⟨hx, hb, hml, hnm, hrt, hlk, hown, hfr, hlc, hkc, hks, h2, hts, hns, hK, hZ, ⟨hX0, hb0, hA0⟩, ⟨hX1, hb1, hA1⟩, hA⟩ := hC
  unfold o_jz at h
  split at h
  · rename_i y x r
    exact lv_lrem hx hb hd h.1 (hN _ _ _ _ h.2 hlo ad cA H locs cells slots ls hW hl)
  · exact h.elim
theorem s_lushr {own : String} {cc : ByteArray} {nL : Nat} {nm : String} {rt : Option FieldType} {fr lc kc ks pc : Nat} (hd : decode cc pc = .ok (.lushr, 1)) : zS own cc nL nm rt fr lc kc ks pc (pc + 1) (o_js (fun x y => (x.toUInt64 >>> (y.toInt64.toUInt64 &&& Int64.toUInt64 63)).toInt64)) := by
  intro p l e R s m args below meth c Q D A ad0 n0 s0 nS f0 f1 hC next jump ret hN hJ hR lo st L M h hlo ad cA H locs cells slots ls hW hl
  obtain ⟨hx, hb, hml, hnm, hrt, hlk, hown, hfr, hlc, hkc, hks, h2, hts, hns, hK, hZ, ⟨hX0, hb0, hA0⟩, ⟨hX1, hb1, hA1⟩, hA⟩ := hC
  unfold o_js at h
  split at h
  · rename_i y x r
    exact lv_lushr hx hb hd rfl (hN _ _ _ _ h hlo ad cA H locs cells slots ls hW hl)
  · exact h.elim
theorem s_lshl {own : String} {cc : ByteArray} {nL : Nat} {nm : String} {rt : Option FieldType} {fr lc kc ks pc : Nat} (hd : decode cc pc = .ok (.lshl, 1)) : zS own cc nL nm rt fr lc kc ks pc (pc + 1) (o_js (fun x y => x <<< (y.toInt64 &&& 63))) := by
  intro p l e R s m args below meth c Q D A ad0 n0 s0 nS f0 f1 hC next jump ret hN hJ hR lo st L M h hlo ad cA H locs cells slots ls hW hl
  obtain ⟨hx, hb, hml, hnm, hrt, hlk, hown, hfr, hlc, hkc, hks, h2, hts, hns, hK, hZ, ⟨hX0, hb0, hA0⟩, ⟨hX1, hb1, hA1⟩, hA⟩ := hC
  unfold o_js at h
  split at h
  · rename_i y x r
    exact lv_lshl hx hb hd rfl (hN _ _ _ _ h hlo ad cA H locs cells slots ls hW hl)
  · exact h.elim
theorem s_lshr {own : String} {cc : ByteArray} {nL : Nat} {nm : String} {rt : Option FieldType} {fr lc kc ks pc : Nat} (hd : decode cc pc = .ok (.lshr, 1)) : zS own cc nL nm rt fr lc kc ks pc (pc + 1) (o_js (fun x y => x >>> (y.toInt64 &&& 63))) := by
  intro p l e R s m args below meth c Q D A ad0 n0 s0 nS f0 f1 hC next jump ret hN hJ hR lo st L M h hlo ad cA H locs cells slots ls hW hl
  obtain ⟨hx, hb, hml, hnm, hrt, hlk, hown, hfr, hlc, hkc, hks, h2, hts, hns, hK, hZ, ⟨hX0, hb0, hA0⟩, ⟨hX1, hb1, hA1⟩, hA⟩ := hC
  unfold o_js at h
  split at h
  · rename_i y x r
    exact lv_lshr hx hb hd rfl (hN _ _ _ _ h hlo ad cA H locs cells slots ls hW hl)
  · exact h.elim
theorem s_i2b {own : String} {cc : ByteArray} {nL : Nat} {nm : String} {rt : Option FieldType} {fr lc kc ks pc : Nat} (hd : decode cc pc = .ok (.i2b, 1)) : zS own cc nL nm rt fr lc kc ks pc (pc + 1) (o_i1 (fun x => x.toInt8.toInt32)) := by
  intro p l e R s m args below meth c Q D A ad0 n0 s0 nS f0 f1 hC next jump ret hN hJ hR lo st L M h hlo ad cA H locs cells slots ls hW hl
  obtain ⟨hx, hb, hml, hnm, hrt, hlk, hown, hfr, hlc, hkc, hks, h2, hts, hns, hK, hZ, ⟨hX0, hb0, hA0⟩, ⟨hX1, hb1, hA1⟩, hA⟩ := hC
  unfold o_i1 at h
  split at h
  · rename_i x r
    exact lv_i2b hx hb hd rfl (hN _ _ _ _ h hlo ad cA H locs cells slots ls hW hl)
  · exact h.elim
theorem s_i2s {own : String} {cc : ByteArray} {nL : Nat} {nm : String} {rt : Option FieldType} {fr lc kc ks pc : Nat} (hd : decode cc pc = .ok (.i2s, 1)) : zS own cc nL nm rt fr lc kc ks pc (pc + 1) (o_i1 (fun x => x.toInt16.toInt32)) := by
  intro p l e R s m args below meth c Q D A ad0 n0 s0 nS f0 f1 hC next jump ret hN hJ hR lo st L M h hlo ad cA H locs cells slots ls hW hl
  obtain ⟨hx, hb, hml, hnm, hrt, hlk, hown, hfr, hlc, hkc, hks, h2, hts, hns, hK, hZ, ⟨hX0, hb0, hA0⟩, ⟨hX1, hb1, hA1⟩, hA⟩ := hC
  unfold o_i1 at h
  split at h
  · rename_i x r
    exact lv_i2s hx hb hd rfl (hN _ _ _ _ h hlo ad cA H locs cells slots ls hW hl)
  · exact h.elim
theorem s_i2l {own : String} {cc : ByteArray} {nL : Nat} {nm : String} {rt : Option FieldType} {fr lc kc ks pc : Nat} (hd : decode cc pc = .ok (.i2l, 1)) : zS own cc nL nm rt fr lc kc ks pc (pc + 1) (o_i2l) := by
  intro p l e R s m args below meth c Q D A ad0 n0 s0 nS f0 f1 hC next jump ret hN hJ hR lo st L M h hlo ad cA H locs cells slots ls hW hl
  obtain ⟨hx, hb, hml, hnm, hrt, hlk, hown, hfr, hlc, hkc, hks, h2, hts, hns, hK, hZ, ⟨hX0, hb0, hA0⟩, ⟨hX1, hb1, hA1⟩, hA⟩ := hC
  unfold o_i2l at h
  split at h
  · rename_i x r
    exact lv_i2l hx hb hd rfl (hN _ _ _ _ h hlo ad cA H locs cells slots ls hW hl)
  · exact h.elim
theorem s_l2i {own : String} {cc : ByteArray} {nL : Nat} {nm : String} {rt : Option FieldType} {fr lc kc ks pc : Nat} (hd : decode cc pc = .ok (.l2i, 1)) : zS own cc nL nm rt fr lc kc ks pc (pc + 1) (o_l2i) := by
  intro p l e R s m args below meth c Q D A ad0 n0 s0 nS f0 f1 hC next jump ret hN hJ hR lo st L M h hlo ad cA H locs cells slots ls hW hl
  obtain ⟨hx, hb, hml, hnm, hrt, hlk, hown, hfr, hlc, hkc, hks, h2, hts, hns, hK, hZ, ⟨hX0, hb0, hA0⟩, ⟨hX1, hb1, hA1⟩, hA⟩ := hC
  unfold o_l2i at h
  split at h
  · rename_i x r
    exact lv_l2i hx hb hd rfl (hN _ _ _ _ h hlo ad cA H locs cells slots ls hW hl)
  · exact h.elim
theorem s_dup {own : String} {cc : ByteArray} {nL : Nat} {nm : String} {rt : Option FieldType} {fr lc kc ks pc : Nat} (hd : decode cc pc = .ok (.dup, 1)) : zS own cc nL nm rt fr lc kc ks pc (pc + 1) (o_dup) := by
  intro p l e R s m args below meth c Q D A ad0 n0 s0 nS f0 f1 hC next jump ret hN hJ hR lo st L M h hlo ad cA H locs cells slots ls hW hl
  obtain ⟨hx, hb, hml, hnm, hrt, hlk, hown, hfr, hlc, hkc, hks, h2, hts, hns, hK, hZ, ⟨hX0, hb0, hA0⟩, ⟨hX1, hb1, hA1⟩, hA⟩ := hC
  unfold o_dup at h
  split at h
  · rename_i v r
    cases hb9 : Nat.beq v.category 1 with
    | false => rw [hb9] at h; exact h.elim
    | true =>
      rw [hb9] at h
      exact lv_dup hx hb hd (by rw [z_v_cat]; exact Nat.eq_of_beq_eq_true hb9) (hN _ _ _ _ h hlo ad cA H locs cells slots ls hW hl)
  · exact h.elim
theorem s_dup2 {own : String} {cc : ByteArray} {nL : Nat} {nm : String} {rt : Option FieldType} {fr lc kc ks pc : Nat} (hd : decode cc pc = .ok (.dup2, 1)) : zS own cc nL nm rt fr lc kc ks pc (pc + 1) (o_dup2) := by
  intro p l e R s m args below meth c Q D A ad0 n0 s0 nS f0 f1 hC next jump ret hN hJ hR lo st L M h hlo ad cA H locs cells slots ls hW hl
  obtain ⟨hx, hb, hml, hnm, hrt, hlk, hown, hfr, hlc, hkc, hks, h2, hts, hns, hK, hZ, ⟨hX0, hb0, hA0⟩, ⟨hX1, hb1, hA1⟩, hA⟩ := hC
  unfold o_dup2 at h
  split at h
  · rename_i v w r
    cases hb9 : (Nat.beq v.category 1 && Nat.beq w.category 1) with
    | false => rw [hb9] at h; exact h.elim
    | true =>
      rw [hb9] at h
      obtain ⟨h7, h8⟩ := Bool.and_eq_true_iff.mp hb9
      exact lv_dup2_11 hx hb hd (by rw [z_v_cat]; exact Nat.eq_of_beq_eq_true h7) (by rw [z_v_cat]; exact Nat.eq_of_beq_eq_true h8) (hN _ _ _ _ h hlo ad cA H locs cells slots ls hW hl)
  · exact h.elim
theorem s_if_eq {own : String} {cc : ByteArray} {nL : Nat} {nm : String} {rt : Option FieldType} {fr lc kc ks pc : Nat} {off : Int} {t : Nat} (hd : decode cc pc = .ok (.ifCond .eq off, 3)) (ht : (pc : Int) + off = (t : Int)) : zS own cc nL nm rt fr lc kc ks pc (pc + 3) (o_if (fun x => x = 0) t) := by
  intro p l e R s m args below meth c Q D A ad0 n0 s0 nS f0 f1 hC next jump ret hN hJ hR lo st L M h hlo ad cA H locs cells slots ls hW hl
  obtain ⟨hx, hb, hml, hnm, hrt, hlk, hown, hfr, hlc, hkc, hks, h2, hts, hns, hK, hZ, ⟨hX0, hb0, hA0⟩, ⟨hX1, hb1, hA1⟩, hA⟩ := hC
  unfold o_if at h
  split at h
  · rename_i x r
    exact lv_if_eq hx hb hd ht (fun q => hJ _ _ _ _ _ (h.1 q) hlo ad cA H locs cells slots ls hW hl) (fun q => hN _ _ _ _ (h.2 q) hlo ad cA H locs cells slots ls hW hl)
  · exact h.elim
theorem s_icmp_eq {own : String} {cc : ByteArray} {nL : Nat} {nm : String} {rt : Option FieldType} {fr lc kc ks pc : Nat} {off : Int} {t : Nat} (hd : decode cc pc = .ok (.if_icmp .eq off, 3)) (ht : (pc : Int) + off = (t : Int)) : zS own cc nL nm rt fr lc kc ks pc (pc + 3) (o_cmp (fun x y => x = y) t) := by
  intro p l e R s m args below meth c Q D A ad0 n0 s0 nS f0 f1 hC next jump ret hN hJ hR lo st L M h hlo ad cA H locs cells slots ls hW hl
  obtain ⟨hx, hb, hml, hnm, hrt, hlk, hown, hfr, hlc, hkc, hks, h2, hts, hns, hK, hZ, ⟨hX0, hb0, hA0⟩, ⟨hX1, hb1, hA1⟩, hA⟩ := hC
  unfold o_cmp at h
  split at h
  · rename_i y x r
    exact lv_icmp_eq hx hb hd ht (fun q => hJ _ _ _ _ _ (h.1 q) hlo ad cA H locs cells slots ls hW hl) (fun q => hN _ _ _ _ (h.2 q) hlo ad cA H locs cells slots ls hW hl)
  · exact h.elim
theorem s_if_lt {own : String} {cc : ByteArray} {nL : Nat} {nm : String} {rt : Option FieldType} {fr lc kc ks pc : Nat} {off : Int} {t : Nat} (hd : decode cc pc = .ok (.ifCond .lt off, 3)) (ht : (pc : Int) + off = (t : Int)) : zS own cc nL nm rt fr lc kc ks pc (pc + 3) (o_if (fun x => x < 0) t) := by
  intro p l e R s m args below meth c Q D A ad0 n0 s0 nS f0 f1 hC next jump ret hN hJ hR lo st L M h hlo ad cA H locs cells slots ls hW hl
  obtain ⟨hx, hb, hml, hnm, hrt, hlk, hown, hfr, hlc, hkc, hks, h2, hts, hns, hK, hZ, ⟨hX0, hb0, hA0⟩, ⟨hX1, hb1, hA1⟩, hA⟩ := hC
  unfold o_if at h
  split at h
  · rename_i x r
    exact lv_if_lt hx hb hd ht (fun q => hJ _ _ _ _ _ (h.1 q) hlo ad cA H locs cells slots ls hW hl) (fun q => hN _ _ _ _ (h.2 q) hlo ad cA H locs cells slots ls hW hl)
  · exact h.elim
theorem s_icmp_lt {own : String} {cc : ByteArray} {nL : Nat} {nm : String} {rt : Option FieldType} {fr lc kc ks pc : Nat} {off : Int} {t : Nat} (hd : decode cc pc = .ok (.if_icmp .lt off, 3)) (ht : (pc : Int) + off = (t : Int)) : zS own cc nL nm rt fr lc kc ks pc (pc + 3) (o_cmp (fun x y => x < y) t) := by
  intro p l e R s m args below meth c Q D A ad0 n0 s0 nS f0 f1 hC next jump ret hN hJ hR lo st L M h hlo ad cA H locs cells slots ls hW hl
  obtain ⟨hx, hb, hml, hnm, hrt, hlk, hown, hfr, hlc, hkc, hks, h2, hts, hns, hK, hZ, ⟨hX0, hb0, hA0⟩, ⟨hX1, hb1, hA1⟩, hA⟩ := hC
  unfold o_cmp at h
  split at h
  · rename_i y x r
    exact lv_icmp_lt hx hb hd ht (fun q => hJ _ _ _ _ _ (h.1 q) hlo ad cA H locs cells slots ls hW hl) (fun q => hN _ _ _ _ (h.2 q) hlo ad cA H locs cells slots ls hW hl)
  · exact h.elim
theorem s_if_ge {own : String} {cc : ByteArray} {nL : Nat} {nm : String} {rt : Option FieldType} {fr lc kc ks pc : Nat} {off : Int} {t : Nat} (hd : decode cc pc = .ok (.ifCond .ge off, 3)) (ht : (pc : Int) + off = (t : Int)) : zS own cc nL nm rt fr lc kc ks pc (pc + 3) (o_if (fun x => 0 ≤ x) t) := by
  intro p l e R s m args below meth c Q D A ad0 n0 s0 nS f0 f1 hC next jump ret hN hJ hR lo st L M h hlo ad cA H locs cells slots ls hW hl
  obtain ⟨hx, hb, hml, hnm, hrt, hlk, hown, hfr, hlc, hkc, hks, h2, hts, hns, hK, hZ, ⟨hX0, hb0, hA0⟩, ⟨hX1, hb1, hA1⟩, hA⟩ := hC
  unfold o_if at h
  split at h
  · rename_i x r
    exact lv_if_ge hx hb hd ht (fun q => hJ _ _ _ _ _ (h.1 q) hlo ad cA H locs cells slots ls hW hl) (fun q => hN _ _ _ _ (h.2 q) hlo ad cA H locs cells slots ls hW hl)
  · exact h.elim
theorem s_icmp_ge {own : String} {cc : ByteArray} {nL : Nat} {nm : String} {rt : Option FieldType} {fr lc kc ks pc : Nat} {off : Int} {t : Nat} (hd : decode cc pc = .ok (.if_icmp .ge off, 3)) (ht : (pc : Int) + off = (t : Int)) : zS own cc nL nm rt fr lc kc ks pc (pc + 3) (o_cmp (fun x y => y ≤ x) t) := by
  intro p l e R s m args below meth c Q D A ad0 n0 s0 nS f0 f1 hC next jump ret hN hJ hR lo st L M h hlo ad cA H locs cells slots ls hW hl
  obtain ⟨hx, hb, hml, hnm, hrt, hlk, hown, hfr, hlc, hkc, hks, h2, hts, hns, hK, hZ, ⟨hX0, hb0, hA0⟩, ⟨hX1, hb1, hA1⟩, hA⟩ := hC
  unfold o_cmp at h
  split at h
  · rename_i y x r
    exact lv_icmp_ge hx hb hd ht (fun q => hJ _ _ _ _ _ (h.1 q) hlo ad cA H locs cells slots ls hW hl) (fun q => hN _ _ _ _ (h.2 q) hlo ad cA H locs cells slots ls hW hl)
  · exact h.elim
theorem s_if_gt {own : String} {cc : ByteArray} {nL : Nat} {nm : String} {rt : Option FieldType} {fr lc kc ks pc : Nat} {off : Int} {t : Nat} (hd : decode cc pc = .ok (.ifCond .gt off, 3)) (ht : (pc : Int) + off = (t : Int)) : zS own cc nL nm rt fr lc kc ks pc (pc + 3) (o_if (fun x => 0 < x) t) := by
  intro p l e R s m args below meth c Q D A ad0 n0 s0 nS f0 f1 hC next jump ret hN hJ hR lo st L M h hlo ad cA H locs cells slots ls hW hl
  obtain ⟨hx, hb, hml, hnm, hrt, hlk, hown, hfr, hlc, hkc, hks, h2, hts, hns, hK, hZ, ⟨hX0, hb0, hA0⟩, ⟨hX1, hb1, hA1⟩, hA⟩ := hC
  unfold o_if at h
  split at h
  · rename_i x r
    exact lv_if_gt hx hb hd ht (fun q => hJ _ _ _ _ _ (h.1 q) hlo ad cA H locs cells slots ls hW hl) (fun q => hN _ _ _ _ (h.2 q) hlo ad cA H locs cells slots ls hW hl)
  · exact h.elim
theorem s_icmp_gt {own : String} {cc : ByteArray} {nL : Nat} {nm : String} {rt : Option FieldType} {fr lc kc ks pc : Nat} {off : Int} {t : Nat} (hd : decode cc pc = .ok (.if_icmp .gt off, 3)) (ht : (pc : Int) + off = (t : Int)) : zS own cc nL nm rt fr lc kc ks pc (pc + 3) (o_cmp (fun x y => y < x) t) := by
  intro p l e R s m args below meth c Q D A ad0 n0 s0 nS f0 f1 hC next jump ret hN hJ hR lo st L M h hlo ad cA H locs cells slots ls hW hl
  obtain ⟨hx, hb, hml, hnm, hrt, hlk, hown, hfr, hlc, hkc, hks, h2, hts, hns, hK, hZ, ⟨hX0, hb0, hA0⟩, ⟨hX1, hb1, hA1⟩, hA⟩ := hC
  unfold o_cmp at h
  split at h
  · rename_i y x r
    exact lv_icmp_gt hx hb hd ht (fun q => hJ _ _ _ _ _ (h.1 q) hlo ad cA H locs cells slots ls hW hl) (fun q => hN _ _ _ _ (h.2 q) hlo ad cA H locs cells slots ls hW hl)
  · exact h.elim
theorem s_if_le {own : String} {cc : ByteArray} {nL : Nat} {nm : String} {rt : Option FieldType} {fr lc kc ks pc : Nat} {off : Int} {t : Nat} (hd : decode cc pc = .ok (.ifCond .le off, 3)) (ht : (pc : Int) + off = (t : Int)) : zS own cc nL nm rt fr lc kc ks pc (pc + 3) (o_if (fun x => x ≤ 0) t) := by
  intro p l e R s m args below meth c Q D A ad0 n0 s0 nS f0 f1 hC next jump ret hN hJ hR lo st L M h hlo ad cA H locs cells slots ls hW hl
  obtain ⟨hx, hb, hml, hnm, hrt, hlk, hown, hfr, hlc, hkc, hks, h2, hts, hns, hK, hZ, ⟨hX0, hb0, hA0⟩, ⟨hX1, hb1, hA1⟩, hA⟩ := hC
  unfold o_if at h
  split at h
  · rename_i x r
    exact lv_if_le hx hb hd ht (fun q => hJ _ _ _ _ _ (h.1 q) hlo ad cA H locs cells slots ls hW hl) (fun q => hN _ _ _ _ (h.2 q) hlo ad cA H locs cells slots ls hW hl)
  · exact h.elim
theorem s_icmp_le {own : String} {cc : ByteArray} {nL : Nat} {nm : String} {rt : Option FieldType} {fr lc kc ks pc : Nat} {off : Int} {t : Nat} (hd : decode cc pc = .ok (.if_icmp .le off, 3)) (ht : (pc : Int) + off = (t : Int)) : zS own cc nL nm rt fr lc kc ks pc (pc + 3) (o_cmp (fun x y => x ≤ y) t) := by
  intro p l e R s m args below meth c Q D A ad0 n0 s0 nS f0 f1 hC next jump ret hN hJ hR lo st L M h hlo ad cA H locs cells slots ls hW hl
  obtain ⟨hx, hb, hml, hnm, hrt, hlk, hown, hfr, hlc, hkc, hks, h2, hts, hns, hK, hZ, ⟨hX0, hb0, hA0⟩, ⟨hX1, hb1, hA1⟩, hA⟩ := hC
  unfold o_cmp at h
  split at h
  · rename_i y x r
    exact lv_icmp_le hx hb hd ht (fun q => hJ _ _ _ _ _ (h.1 q) hlo ad cA H locs cells slots ls hW hl) (fun q => hN _ _ _ _ (h.2 q) hlo ad cA H locs cells slots ls hW hl)
  · exact h.elim
theorem s_if_ne {own : String} {cc : ByteArray} {nL : Nat} {nm : String} {rt : Option FieldType} {fr lc kc ks pc : Nat} {off : Int} {t : Nat} (hd : decode cc pc = .ok (.ifCond .ne off, 3)) (ht : (pc : Int) + off = (t : Int)) : zS own cc nL nm rt fr lc kc ks pc (pc + 3) (o_in (fun x => x = 0) t) := by
  intro p l e R s m args below meth c Q D A ad0 n0 s0 nS f0 f1 hC next jump ret hN hJ hR lo st L M h hlo ad cA H locs cells slots ls hW hl
  obtain ⟨hx, hb, hml, hnm, hrt, hlk, hown, hfr, hlc, hkc, hks, h2, hts, hns, hK, hZ, ⟨hX0, hb0, hA0⟩, ⟨hX1, hb1, hA1⟩, hA⟩ := hC
  unfold o_in at h
  split at h
  · rename_i x r
    exact lv_if_ne hx hb hd ht (fun q => hJ _ _ _ _ _ (h.2 q) hlo ad cA H locs cells slots ls hW hl) (fun q => hN _ _ _ _ (h.1 q) hlo ad cA H locs cells slots ls hW hl)
  · exact h.elim
theorem s_icmp_ne {own : String} {cc : ByteArray} {nL : Nat} {nm : String} {rt : Option FieldType} {fr lc kc ks pc : Nat} {off : Int} {t : Nat} (hd : decode cc pc = .ok (.if_icmp .ne off, 3)) (ht : (pc : Int) + off = (t : Int)) : zS own cc nL nm rt fr lc kc ks pc (pc + 3) (o_cn (fun x y => x = y) t) := by
  intro p l e R s m args below meth c Q D A ad0 n0 s0 nS f0 f1 hC next jump ret hN hJ hR lo st L M h hlo ad cA H locs cells slots ls hW hl
  obtain ⟨hx, hb, hml, hnm, hrt, hlk, hown, hfr, hlc, hkc, hks, h2, hts, hns, hK, hZ, ⟨hX0, hb0, hA0⟩, ⟨hX1, hb1, hA1⟩, hA⟩ := hC
  unfold o_cn at h
  split at h
  · rename_i y x r
    exact lv_icmp_ne hx hb hd ht (fun q => hJ _ _ _ _ _ (h.2 q) hlo ad cA H locs cells slots ls hW hl) (fun q => hN _ _ _ _ (h.1 q) hlo ad cA H locs cells slots ls hW hl)
  · exact h.elim
theorem s_goto {own : String} {cc : ByteArray} {nL : Nat} {nm : String} {rt : Option FieldType} {fr lc kc ks pc : Nat} {off : Int} {t : Nat} (hd : decode cc pc = .ok (.goto off, 3)) (ht : (pc : Int) + off = (t : Int)) : zS own cc nL nm rt fr lc kc ks pc (pc + 3) (o_go t) := by
  intro p l e R s m args below meth c Q D A ad0 n0 s0 nS f0 f1 hC next jump ret hN hJ hR lo st L M h hlo ad cA H locs cells slots ls hW hl
  obtain ⟨hx, hb, hml, hnm, hrt, hlk, hown, hfr, hlc, hkc, hks, h2, hts, hns, hK, hZ, ⟨hX0, hb0, hA0⟩, ⟨hX1, hb1, hA1⟩, hA⟩ := hC
  exact lv_goto hx hb hd ht (hJ _ _ _ _ _ h hlo ad cA H locs cells slots ls hW hl)
theorem s_gotob {own : String} {cc : ByteArray} {nL : Nat} {nm : String} {rt : Option FieldType} {fr lc kc ks pc : Nat} {off : Int} {t : Nat} {ks9 : List Nat} (hd : decode cc pc = .ok (.goto off, 3)) (ht : (pc : Int) + off = (t : Int)) : zS own cc nL nm rt fr lc kc ks pc (pc + 3) (o_gb t ks9) := by
  intro p l e R s m args below meth c Q D A ad0 n0 s0 nS f0 f1 hC next jump ret hN hJ hR lo st L M h hlo ad cA H locs cells slots ls hW hl
  obtain ⟨hx, hb, hml, hnm, hrt, hlk, hown, hfr, hlc, hkc, hks, h2, hts, hns, hK, hZ, ⟨hX0, hb0, hA0⟩, ⟨hX1, hb1, hA1⟩, hA⟩ := hC
  exact lv_goto hx hb hd ht (hJ _ _ _ _ _ h (by rw [z_fg_len]; exact hlo) ad cA H locs cells slots ls hW (z_Lo_fg _ hl))
theorem s_lcmp {own : String} {cc : ByteArray} {nL : Nat} {nm : String} {rt : Option FieldType} {fr lc kc ks pc : Nat} (hd : decode cc pc = .ok (.lcmp, 1)) : zS own cc nL nm rt fr lc kc ks pc (pc + 1) (o_jc lg_cmp) := by
  intro p l e R s m args below meth c Q D A ad0 n0 s0 nS f0 f1 hC next jump ret hN hJ hR lo st L M h hlo ad cA H locs cells slots ls hW hl
  obtain ⟨hx, hb, hml, hnm, hrt, hlk, hown, hfr, hlc, hkc, hks, h2, hts, hns, hK, hZ, ⟨hX0, hb0, hA0⟩, ⟨hX1, hb1, hA1⟩, hA⟩ := hC
  unfold o_jc at h
  split at h
  · rename_i y x r
    exact W.lcmp hx hb hd (hN _ _ _ _ h hlo ad cA H locs cells slots ls hW hl)
  · exact h.elim
theorem s_tsw {own : String} {cc : ByteArray} {nL : Nat} {nm : String} {rt : Option FieldType} {fr lc kc ks pc : Nat} {ln npc : Nat} {lw dflt hi : Int} {offs : Array Int} {ts : List Nat} {d : Nat} (hd : decode cc pc = .ok (.tableswitch dflt lw hi offs, ln)) (hh : hi + 1 = lw + ts.length) (hdf : (pc : Int) + dflt = (d : Int)) (hof : offs.toList = ts.map (fun (t : Nat) => ((t : Int) - (pc : Int)))) : zS own cc nL nm rt fr lc kc ks pc npc (o_sw lw ts d) := by
  intro p l e R s m args below meth c Q D A ad0 n0 s0 nS f0 f1 hC next jump ret hN hJ hR lo st L M h hlo ad cA H locs cells slots ls hW hl
  obtain ⟨hx, hb, hml, hnm, hrt, hlk, hown, hfr, hlc, hkc, hks, h2, hts, hns, hK, hZ, ⟨hX0, hb0, hA0⟩, ⟨hX1, hb1, hA1⟩, hA⟩ := hC
  unfold o_sw at h
  split at h
  · rename_i x r
    by_cases h1 : x.toInt < lw ∨ hi < x.toInt
    · exact lv_tableOut hx hb hd h1 hdf (hJ _ _ _ _ _ (h.1 (by omega)) hlo ad cA H locs cells slots ls hW hl)
    · have h3 : ¬ x.toInt < lw := fun q => h1 (Or.inl q)
      have h4 : ¬ hi < x.toInt := fun q => h1 (Or.inr q)
      have hk : (x.toInt - lw).toNat < ts.length := by omega
      have ht : ts[(x.toInt - lw).toNat]? = some ts[(x.toInt - lw).toNat] := List.getElem?_eq_getElem hk
      have ho : offs[(x.toInt - lw).toNat]? = some ((ts[(x.toInt - lw).toNat] : Int) - pc) := by
        rw [← Array.getElem?_toList, hof, List.getElem?_map, ht]
        rfl
      exact lv_tableIn hx hb hd h3 h4 ho (by omega) (hJ _ _ _ _ _ (h.2 _ _ ht (by omega)) hlo ad cA H locs cells slots ls hW hl)
  · exact h.elim
theorem s_getf {own : String} {cc : ByteArray} {nL : Nat} {nm : String} {rt : Option FieldType} {fr lc kc ks pc : Nat} {ci k ix N : Nat} {C : String} {T : u_T} (hcl : vwCl[ci]? = some (C, T, N)) (hin : ∀ w ∈ u_ws C T N, w ∈ z_Ts) (hk : k < N) (hl0 : Cond.fieldLink own ix (T k).1 (T k).2.1 (T k).2.2.1 ∈ z_Ts) (hd : decode cc pc = .ok (.getfield ix, 3)) : zS own cc nL nm rt fr lc kc ks pc (pc + 3) (o_gf ci k) := by
  intro p l e R s m args below meth c Q D A ad0 n0 s0 nS f0 f1 hC next jump ret hN hJ hR lo st L M h hlo ad cA H locs cells slots ls hW hl
  obtain ⟨hx, hb, hml, hnm, hrt, hlk, hown, hfr, hlc, hkc, hks, h2, hts, hns, hK, hZ, ⟨hX0, hb0, hA0⟩, ⟨hX1, hb1, hA1⟩, hA⟩ := hC
  unfold o_gf at h
  split at h
  · rename_i q r
    split at h
    · rename_i fs ho
      have hL := z_obj_at ho
      have hq := hW.place hL (fun n hn => by cases hn)
      split at h
      · rename_i hf
        exact va_get (v := .int (M q k)) hx hb hts hin hown hK hW.1 (q - 2) (z_ws_at hq hL) hcl k hk (hts _ hl0) (fun _ h9 => h9) (by rw [z_f_at, hf]; rfl) hd (hN _ _ _ _ h hlo ad cA H locs cells slots ls hW hl)
      · rename_i v hf
        exact va_get (v := z_v ad v) hx hb hts hin hown hK hW.1 (q - 2) (z_ws_at hq hL) hcl k hk (hts _ hl0) (fun _ h9 => h9) (by rw [z_f_at, hf]; rfl) hd (hN _ _ _ _ h hlo ad cA H locs cells slots ls hW hl)
      · exact h.elim
    · exact h.elim
  · exact h.elim
theorem s_getfN {own : String} {cc : ByteArray} {nL : Nat} {nm : String} {rt : Option FieldType} {fr lc kc ks pc : Nat} {ci k ix N : Nat} {C : String} {T : u_T} (hcl : vwCl[ci]? = some (C, T, N)) (hin : ∀ w ∈ u_ws C T N, w ∈ z_Ts) (hk : k < N) {host : String} (hl0 : Cond.fieldLinkNest own ix (T k).1 (T k).2.1 (T k).2.2.1 host ∈ z_Ns) (hd : decode cc pc = .ok (.getfield ix, 3)) : zS own cc nL nm rt fr lc kc ks pc (pc + 3) (o_gf ci k) := by
  intro p l e R s m args below meth c Q D A ad0 n0 s0 nS f0 f1 hC next jump ret hN hJ hR lo st L M h hlo ad cA H locs cells slots ls hW hl
  obtain ⟨hx, hb, hml, hnm, hrt, hlk, hown, hfr, hlc, hkc, hks, h2, hts, hns, hK, hZ, ⟨hX0, hb0, hA0⟩, ⟨hX1, hb1, hA1⟩, hA⟩ := hC
  unfold o_gf at h
  split at h
  · rename_i q r
    split at h
    · rename_i fs ho
      have hL := z_obj_at ho
      have hq := hW.place hL (fun n hn => by cases hn)
      split at h
      · rename_i hf
        exact va_getN (v := .int (M q k)) hx hb hts hin hown hK hW.1 (q - 2) (z_ws_at hq hL) hcl k hk (va_Nw.use rfl (hns _ hl0)) (fun _ h9 => h9) (by rw [z_f_at, hf]; rfl) hd (hN _ _ _ _ h hlo ad cA H locs cells slots ls hW hl)
      · rename_i v hf
        exact va_getN (v := z_v ad v) hx hb hts hin hown hK hW.1 (q - 2) (z_ws_at hq hL) hcl k hk (va_Nw.use rfl (hns _ hl0)) (fun _ h9 => h9) (by rw [z_f_at, hf]; rfl) hd (hN _ _ _ _ h hlo ad cA H locs cells slots ls hW hl)
      · exact h.elim
    · exact h.elim
  · exact h.elim
theorem z_Wd.mem {s : State} {R : Room} {D : va_G} {A : Nat → Prop} {ad0 : Nat → Nat} {n0 s0 nS : Nat} {f0 f1 : Nat → Int32} {ad : Nat → Nat} {cA : Nat → ClassId} {L : zL} {M M1 : zM} {H H1 : Heap} {locs locs1 : List Loc} {cells slots : Nat} (h : z_Wd s R D A ad0 n0 s0 nS f0 f1 ad cA L M H locs cells slots) (hP : va_P D vwCl (z_ws ad cA L M1) H1) (hD : va_D A (z_ws ad cA L M1)) (hS : va_S A s.heap H1 locs1) (h0 : M1 0 = M 0) (h1 : M1 1 = M 1) : z_Wd s R D A ad0 n0 s0 nS f0 f1 ad cA L M1 H1 locs1 cells slots := by
  obtain ⟨-, -, -, h4, h5, h6, z0, z1, z2, z3⟩ := h
  exact ⟨hP, hD, hS, h4, h5, h6, z0, z1, h0.trans z2, h1.trans z3⟩
theorem z_up0 {M : zM} {p : Nat} {f : Nat → Int32} (h : 2 ≤ p) : va_up M p f 0 = M 0 := by
  have : (0 : Nat) ≠ p := by omega
  simp [va_up, this]
theorem z_up1 {M : zM} {p : Nat} {f : Nat → Int32} (h : 2 ≤ p) : va_up M p f 1 = M 1 := by
  have : (1 : Nat) ≠ p := by omega
  simp [va_up, this]
theorem z_Wd.lay {s : State} {R : Room} {D : va_G} {A : Nat → Prop} {ad0 : Nat → Nat} {n0 s0 nS : Nat} {f0 f1 : Nat → Int32} {ad : Nat → Nat} {cA : Nat → ClassId} {L : zL} {M : zM} {H H1 : Heap} {locs locs1 : List Loc} {cells slots : Nat} (h : z_Wd s R D A ad0 n0 s0 nS f0 f1 ad cA L M H locs cells slots) {p ci : Nat} {fs fs' : List (Option Value)} (hp : L[p]? = some (.inr (ci, fs))) (hfs : fs'.length = fs.length) (hP : va_P D vwCl (z_ws ad cA (L.set p (.inr (ci, fs'))) M) H1) (hD : va_D A (z_ws ad cA (L.set p (.inr (ci, fs'))) M)) (hS : va_S A s.heap H1 locs1) : z_Wd s R D A ad0 n0 s0 nS f0 f1 ad cA (L.set p (.inr (ci, fs'))) M H1 locs1 cells slots := by
  have h2 := h.place hp (fun n hn => by cases hn)
  obtain ⟨-, -, -, h4, h5, h6, z0, z1, z2, z3⟩ := h
  refine ⟨hP, hD, hS, fun q k n hq h9 => ?_, fun q hq => h5 q (by rw [List.length_set] at hq; exact hq), ⟨by rw [List.length_set]; exact h6.1, by rw [z_sz_set hp hfs]; exact h6.2.1, h6.2.2⟩, ?_, ?_, z2, z3⟩
  · rw [List.getElem?_set] at hq
    by_cases e : p = q
    · rw [if_pos e] at hq
      split at hq <;> cases hq
    · rw [if_neg e] at hq
      exact h4 q k n hq h9
  · rw [List.getElem?_set, if_neg (by omega)]; exact z0
  · rw [List.getElem?_set, if_neg (by omega)]; exact z1
theorem s_putI {own : String} {cc : ByteArray} {nL : Nat} {nm : String} {rt : Option FieldType} {fr lc kc ks pc : Nat} {ci k ix N : Nat} {C : String} {T : u_T} (hcl : vwCl[ci]? = some (C, T, N)) (hin : ∀ w ∈ u_ws C T N, w ∈ z_Ts) (hk : k < N) (ty0 : Nat → FieldType) (hty : ∀ k, k < N → parseFieldDescriptor (T k).2.2.1 = some (ty0 k)) (hdis : ∀ a, a < N → ∀ b, b < N → a ≠ b → (T a).2.1 ≠ (T b).2.1) (hl0 : Cond.fieldLink own ix (T k).1 (T k).2.1 (T k).2.2.1 ∈ z_Ts) (hfin : (T k).2.2.2 = false) (hpd : parseFieldDescriptor (T k).2.2.1 = some .int) (hd : decode cc pc = .ok (.putfield ix, 3)) : zS own cc nL nm rt fr lc kc ks pc (pc + 3) (o_pi ci k) := by
  intro p l e R s m args below meth c Q D A ad0 n0 s0 nS f0 f1 hC next jump ret hN hJ hR lo st L M h hlo ad cA H locs cells slots ls hW hl
  obtain ⟨hx, hb, hml, hnm, hrt, hlk, hown, hfr, hlc, hkc, hks, h2, hts, hns, hK, hZ, ⟨hX0, hb0, hA0⟩, ⟨hX1, hb1, hA1⟩, hA⟩ := hC
  unfold o_pi at h
  split at h
  · rename_i x q r
    split at h
    · rename_i fs ho
      have hL := z_obj_at ho
      have hq := hW.place hL (fun n hn => by cases hn)
      split at h
      · rename_i hf
        refine va_put (v := .int x) hx hb hts hin ty0 hty hdis hown hK hW.1 hW.2.1 hW.2.2.1 (q - 2) (z_ws_at hq hL) hcl k hk (hts _ hl0) (fun _ h9 => h9) hfin hpd rfl rfl (by rw [z_f_len]; exact (List.getElem?_eq_some_iff.mp hf).1) hd (fun H1 locs1 hP hD hS => ?_)
        rw [z_ws_fi hq hL hf x] at hP hD
        exact hN _ _ _ _ h hlo ad cA H1 locs1 cells slots ls (hW.mem hP hD hS (z_up0 hq) (z_up1 hq)) hl
      · exact h.elim
    · exact h.elim
  · exact h.elim
theorem s_putZ {own : String} {cc : ByteArray} {nL : Nat} {nm : String} {rt : Option FieldType} {fr lc kc ks pc : Nat} {ci k ix N : Nat} {C : String} {T : u_T} (hcl : vwCl[ci]? = some (C, T, N)) (hin : ∀ w ∈ u_ws C T N, w ∈ z_Ts) (hk : k < N) (ty0 : Nat → FieldType) (hty : ∀ k, k < N → parseFieldDescriptor (T k).2.2.1 = some (ty0 k)) (hdis : ∀ a, a < N → ∀ b, b < N → a ≠ b → (T a).2.1 ≠ (T b).2.1) (hl0 : Cond.fieldLink own ix (T k).1 (T k).2.1 (T k).2.2.1 ∈ z_Ts) (hfin : (T k).2.2.2 = false) (hpd : parseFieldDescriptor (T k).2.2.1 = some .boolean) (hd : decode cc pc = .ok (.putfield ix, 3)) : zS own cc nL nm rt fr lc kc ks pc (pc + 3) (o_pz ci k) := by
  intro p l e R s m args below meth c Q D A ad0 n0 s0 nS f0 f1 hC next jump ret hN hJ hR lo st L M h hlo ad cA H locs cells slots ls hW hl
  obtain ⟨hx, hb, hml, hnm, hrt, hlk, hown, hfr, hlc, hkc, hks, h2, hts, hns, hK, hZ, ⟨hX0, hb0, hA0⟩, ⟨hX1, hb1, hA1⟩, hA⟩ := hC
  unfold o_pz at h
  split at h
  · rename_i x q r
    split at h
    · rename_i fs ho
      have hL := z_obj_at ho
      have hq := hW.place hL (fun n hn => by cases hn)
      split at h
      · rename_i hf
        refine va_put (v := .int x) hx hb hts hin ty0 hty hdis hown hK hW.1 hW.2.1 hW.2.2.1 (q - 2) (z_ws_at hq hL) hcl k hk (hts _ hl0) (fun _ h9 => h9) hfin hpd h.1.1 h.1.2 (by rw [z_f_len]; exact (List.getElem?_eq_some_iff.mp hf).1) hd (fun H1 locs1 hP hD hS => ?_)
        rw [z_ws_fi hq hL hf x] at hP hD
        exact hN _ _ _ _ h.2 hlo ad cA H1 locs1 cells slots ls (hW.mem hP hD hS (z_up0 hq) (z_up1 hq)) hl
      · exact h.elim
    · exact h.elim
  · exact h.elim
theorem s_putR {own : String} {cc : ByteArray} {nL : Nat} {nm : String} {rt : Option FieldType} {fr lc kc ks pc : Nat} {ci k ix N : Nat} {C : String} {T : u_T} (hcl : vwCl[ci]? = some (C, T, N)) (hin : ∀ w ∈ u_ws C T N, w ∈ z_Ts) (hk : k < N) (ty0 : Nat → FieldType) (hty : ∀ k, k < N → parseFieldDescriptor (T k).2.2.1 = some (ty0 k)) (hdis : ∀ a, a < N → ∀ b, b < N → a ≠ b → (T a).2.1 ≠ (T b).2.1) (hl0 : Cond.fieldLink own ix (T k).1 (T k).2.1 (T k).2.2.1 ∈ z_Ts) (hfin : (T k).2.2.2 = false) {ty : FieldType} (hpd : parseFieldDescriptor (T k).2.2.1 = some ty) (hnr : ∀ q, narrow ty (.ref q) = .ref q ∧ fits ty (.ref q) = true) (hd : decode cc pc = .ok (.putfield ix, 3)) : zS own cc nL nm rt fr lc kc ks pc (pc + 3) (o_pr ci k) := by
  intro p l e R s m args below meth c Q D A ad0 n0 s0 nS f0 f1 hC next jump ret hN hJ hR lo st L M h hlo ad cA H locs cells slots ls hW hl
  obtain ⟨hx, hb, hml, hnm, hrt, hlk, hown, hfr, hlc, hkc, hks, h2, hts, hns, hK, hZ, ⟨hX0, hb0, hA0⟩, ⟨hX1, hb1, hA1⟩, hA⟩ := hC
  unfold o_pr at h
  split at h
  · rename_i x q r
    split at h
    · rename_i fs ho
      have hL := z_obj_at ho
      have hq := hW.place hL (fun n hn => by cases hn)
      split at h
      · rename_i w hf
        cases hb9 : Nat.blt q 2 with
        | true => rw [hb9] at h; exact h.elim
        | false =>
          rw [hb9] at h
          refine va_put (v := .ref (ad x)) hx hb hts hin ty0 hty hdis hown hK hW.1 hW.2.1 hW.2.2.1 (q - 2) (z_ws_at hq hL) hcl k hk (hts _ hl0) (fun _ h9 => h9) hfin hpd (hnr _).1 (hnr _).2 (by rw [z_f_len]; exact (List.getElem?_eq_some_iff.mp hf).1) hd (fun H1 locs1 hP hD hS => ?_)
          rw [show Value.ref (ad x) = z_v ad (.ref x) from rfl, z_ws_fr hq hL hf (.ref x)] at hP hD
          exact hN _ _ _ _ h hlo ad cA H1 locs1 cells slots ls (hW.lay hL (by simp) hP hD hS) hl
      · exact h.elim
    · exact h.elim
  · exact h.elim
theorem s_putIN {own : String} {cc : ByteArray} {nL : Nat} {nm : String} {rt : Option FieldType} {fr lc kc ks pc : Nat} {ci k ix N : Nat} {C : String} {T : u_T} (hcl : vwCl[ci]? = some (C, T, N)) (hin : ∀ w ∈ u_ws C T N, w ∈ z_Ts) (hk : k < N) (ty0 : Nat → FieldType) (hty : ∀ k, k < N → parseFieldDescriptor (T k).2.2.1 = some (ty0 k)) (hdis : ∀ a, a < N → ∀ b, b < N → a ≠ b → (T a).2.1 ≠ (T b).2.1) {host : String} (hl0 : Cond.fieldLinkNest own ix (T k).1 (T k).2.1 (T k).2.2.1 host ∈ z_Ns) (hfin : (T k).2.2.2 = false) (hpd : parseFieldDescriptor (T k).2.2.1 = some .int) (hd : decode cc pc = .ok (.putfield ix, 3)) : zS own cc nL nm rt fr lc kc ks pc (pc + 3) (o_pi ci k) := by
  intro p l e R s m args below meth c Q D A ad0 n0 s0 nS f0 f1 hC next jump ret hN hJ hR lo st L M h hlo ad cA H locs cells slots ls hW hl
  obtain ⟨hx, hb, hml, hnm, hrt, hlk, hown, hfr, hlc, hkc, hks, h2, hts, hns, hK, hZ, ⟨hX0, hb0, hA0⟩, ⟨hX1, hb1, hA1⟩, hA⟩ := hC
  unfold o_pi at h
  split at h
  · rename_i x q r
    split at h
    · rename_i fs ho
      have hL := z_obj_at ho
      have hq := hW.place hL (fun n hn => by cases hn)
      split at h
      · rename_i hf
        refine va_putN (v := .int x) hx hb hts hin ty0 hty hdis hown hK hW.1 hW.2.1 hW.2.2.1 (q - 2) (z_ws_at hq hL) hcl k hk (va_Nw.use rfl (hns _ hl0)) (fun _ h9 => h9) hfin hpd rfl rfl (by rw [z_f_len]; exact (List.getElem?_eq_some_iff.mp hf).1) hd (fun H1 locs1 hP hD hS => ?_)
        rw [z_ws_fi hq hL hf x] at hP hD
        exact hN _ _ _ _ h hlo ad cA H1 locs1 cells slots ls (hW.mem hP hD hS (z_up0 hq) (z_up1 hq)) hl
      · exact h.elim
    · exact h.elim
  · exact h.elim
theorem s_putZN {own : String} {cc : ByteArray} {nL : Nat} {nm : String} {rt : Option FieldType} {fr lc kc ks pc : Nat} {ci k ix N : Nat} {C : String} {T : u_T} (hcl : vwCl[ci]? = some (C, T, N)) (hin : ∀ w ∈ u_ws C T N, w ∈ z_Ts) (hk : k < N) (ty0 : Nat → FieldType) (hty : ∀ k, k < N → parseFieldDescriptor (T k).2.2.1 = some (ty0 k)) (hdis : ∀ a, a < N → ∀ b, b < N → a ≠ b → (T a).2.1 ≠ (T b).2.1) {host : String} (hl0 : Cond.fieldLinkNest own ix (T k).1 (T k).2.1 (T k).2.2.1 host ∈ z_Ns) (hfin : (T k).2.2.2 = false) (hpd : parseFieldDescriptor (T k).2.2.1 = some .boolean) (hd : decode cc pc = .ok (.putfield ix, 3)) : zS own cc nL nm rt fr lc kc ks pc (pc + 3) (o_pz ci k) := by
  intro p l e R s m args below meth c Q D A ad0 n0 s0 nS f0 f1 hC next jump ret hN hJ hR lo st L M h hlo ad cA H locs cells slots ls hW hl
  obtain ⟨hx, hb, hml, hnm, hrt, hlk, hown, hfr, hlc, hkc, hks, h2, hts, hns, hK, hZ, ⟨hX0, hb0, hA0⟩, ⟨hX1, hb1, hA1⟩, hA⟩ := hC
  unfold o_pz at h
  split at h
  · rename_i x q r
    split at h
    · rename_i fs ho
      have hL := z_obj_at ho
      have hq := hW.place hL (fun n hn => by cases hn)
      split at h
      · rename_i hf
        refine va_putN (v := .int x) hx hb hts hin ty0 hty hdis hown hK hW.1 hW.2.1 hW.2.2.1 (q - 2) (z_ws_at hq hL) hcl k hk (va_Nw.use rfl (hns _ hl0)) (fun _ h9 => h9) hfin hpd h.1.1 h.1.2 (by rw [z_f_len]; exact (List.getElem?_eq_some_iff.mp hf).1) hd (fun H1 locs1 hP hD hS => ?_)
        rw [z_ws_fi hq hL hf x] at hP hD
        exact hN _ _ _ _ h.2 hlo ad cA H1 locs1 cells slots ls (hW.mem hP hD hS (z_up0 hq) (z_up1 hq)) hl
      · exact h.elim
    · exact h.elim
  · exact h.elim
theorem s_putRN {own : String} {cc : ByteArray} {nL : Nat} {nm : String} {rt : Option FieldType} {fr lc kc ks pc : Nat} {ci k ix N : Nat} {C : String} {T : u_T} (hcl : vwCl[ci]? = some (C, T, N)) (hin : ∀ w ∈ u_ws C T N, w ∈ z_Ts) (hk : k < N) (ty0 : Nat → FieldType) (hty : ∀ k, k < N → parseFieldDescriptor (T k).2.2.1 = some (ty0 k)) (hdis : ∀ a, a < N → ∀ b, b < N → a ≠ b → (T a).2.1 ≠ (T b).2.1) {host : String} (hl0 : Cond.fieldLinkNest own ix (T k).1 (T k).2.1 (T k).2.2.1 host ∈ z_Ns) (hfin : (T k).2.2.2 = false) {ty : FieldType} (hpd : parseFieldDescriptor (T k).2.2.1 = some ty) (hnr : ∀ q, narrow ty (.ref q) = .ref q ∧ fits ty (.ref q) = true) (hd : decode cc pc = .ok (.putfield ix, 3)) : zS own cc nL nm rt fr lc kc ks pc (pc + 3) (o_pr ci k) := by
  intro p l e R s m args below meth c Q D A ad0 n0 s0 nS f0 f1 hC next jump ret hN hJ hR lo st L M h hlo ad cA H locs cells slots ls hW hl
  obtain ⟨hx, hb, hml, hnm, hrt, hlk, hown, hfr, hlc, hkc, hks, h2, hts, hns, hK, hZ, ⟨hX0, hb0, hA0⟩, ⟨hX1, hb1, hA1⟩, hA⟩ := hC
  unfold o_pr at h
  split at h
  · rename_i x q r
    split at h
    · rename_i fs ho
      have hL := z_obj_at ho
      have hq := hW.place hL (fun n hn => by cases hn)
      split at h
      · rename_i w hf
        cases hb9 : Nat.blt q 2 with
        | true => rw [hb9] at h; exact h.elim
        | false =>
          rw [hb9] at h
          refine va_putN (v := .ref (ad x)) hx hb hts hin ty0 hty hdis hown hK hW.1 hW.2.1 hW.2.2.1 (q - 2) (z_ws_at hq hL) hcl k hk (va_Nw.use rfl (hns _ hl0)) (fun _ h9 => h9) hfin hpd (hnr _).1 (hnr _).2 (by rw [z_f_len]; exact (List.getElem?_eq_some_iff.mp hf).1) hd (fun H1 locs1 hP hD hS => ?_)
          rw [show Value.ref (ad x) = z_v ad (.ref x) from rfl, z_ws_fr hq hL hf (.ref x)] at hP hD
          exact hN _ _ _ _ h hlo ad cA H1 locs1 cells slots ls (hW.lay hL (by simp) hP hD hS) hl
      · exact h.elim
    · exact h.elim
  · exact h.elim
theorem s_putIF {own : String} {cc : ByteArray} {nL : Nat} {nm : String} {rt : Option FieldType} {fr lc kc ks pc : Nat} {ci k ix N : Nat} {C : String} {T : u_T} (hcl : vwCl[ci]? = some (C, T, N)) (hin : ∀ w ∈ u_ws C T N, w ∈ z_Ts) (hk : k < N) (ty0 : Nat → FieldType) (hty : ∀ k, k < N → parseFieldDescriptor (T k).2.2.1 = some (ty0 k)) (hdis : ∀ a, a < N → ∀ b, b < N → a ≠ b → (T a).2.1 ≠ (T b).2.1) (hl0 : Cond.fieldLink own ix (T k).1 (T k).2.1 (T k).2.2.1 ∈ z_Ts) (hfin : (T k).2.2.2 = true) (hini : nm = "<init>") (hdecl : (T k).1 = own) (hpd : parseFieldDescriptor (T k).2.2.1 = some .int) (hd : decode cc pc = .ok (.putfield ix, 3)) : zS own cc nL nm rt fr lc kc ks pc (pc + 3) (o_pi ci k) := by
  intro p l e R s m args below meth c Q D A ad0 n0 s0 nS f0 f1 hC next jump ret hN hJ hR lo st L M h hlo ad cA H locs cells slots ls hW hl
  obtain ⟨hx, hb, hml, hnm, hrt, hlk, hown, hfr, hlc, hkc, hks, h2, hts, hns, hK, hZ, ⟨hX0, hb0, hA0⟩, ⟨hX1, hb1, hA1⟩, hA⟩ := hC
  unfold o_pi at h
  split at h
  · rename_i x q r
    split at h
    · rename_i fs ho
      have hL := z_obj_at ho
      have hq := hW.place hL (fun n hn => by cases hn)
      split at h
      · rename_i hf
        refine va_putF (v := .int x) hx hb hts hin ty0 hty hdis hown hK hW.1 hW.2.1 hW.2.2.1 (q - 2) (z_ws_at hq hL) hcl k hk (hts _ hl0) (fun _ h9 => h9) hfin (hnm.trans hini) hdecl hpd rfl rfl (by rw [z_f_len]; exact (List.getElem?_eq_some_iff.mp hf).1) hd (fun H1 locs1 hP hD hS => ?_)
        rw [z_ws_fi hq hL hf x] at hP hD
        exact hN _ _ _ _ h hlo ad cA H1 locs1 cells slots ls (hW.mem hP hD hS (z_up0 hq) (z_up1 hq)) hl
      · exact h.elim
    · exact h.elim
  · exact h.elim
theorem s_putZF {own : String} {cc : ByteArray} {nL : Nat} {nm : String} {rt : Option FieldType} {fr lc kc ks pc : Nat} {ci k ix N : Nat} {C : String} {T : u_T} (hcl : vwCl[ci]? = some (C, T, N)) (hin : ∀ w ∈ u_ws C T N, w ∈ z_Ts) (hk : k < N) (ty0 : Nat → FieldType) (hty : ∀ k, k < N → parseFieldDescriptor (T k).2.2.1 = some (ty0 k)) (hdis : ∀ a, a < N → ∀ b, b < N → a ≠ b → (T a).2.1 ≠ (T b).2.1) (hl0 : Cond.fieldLink own ix (T k).1 (T k).2.1 (T k).2.2.1 ∈ z_Ts) (hfin : (T k).2.2.2 = true) (hini : nm = "<init>") (hdecl : (T k).1 = own) (hpd : parseFieldDescriptor (T k).2.2.1 = some .boolean) (hd : decode cc pc = .ok (.putfield ix, 3)) : zS own cc nL nm rt fr lc kc ks pc (pc + 3) (o_pz ci k) := by
  intro p l e R s m args below meth c Q D A ad0 n0 s0 nS f0 f1 hC next jump ret hN hJ hR lo st L M h hlo ad cA H locs cells slots ls hW hl
  obtain ⟨hx, hb, hml, hnm, hrt, hlk, hown, hfr, hlc, hkc, hks, h2, hts, hns, hK, hZ, ⟨hX0, hb0, hA0⟩, ⟨hX1, hb1, hA1⟩, hA⟩ := hC
  unfold o_pz at h
  split at h
  · rename_i x q r
    split at h
    · rename_i fs ho
      have hL := z_obj_at ho
      have hq := hW.place hL (fun n hn => by cases hn)
      split at h
      · rename_i hf
        refine va_putF (v := .int x) hx hb hts hin ty0 hty hdis hown hK hW.1 hW.2.1 hW.2.2.1 (q - 2) (z_ws_at hq hL) hcl k hk (hts _ hl0) (fun _ h9 => h9) hfin (hnm.trans hini) hdecl hpd h.1.1 h.1.2 (by rw [z_f_len]; exact (List.getElem?_eq_some_iff.mp hf).1) hd (fun H1 locs1 hP hD hS => ?_)
        rw [z_ws_fi hq hL hf x] at hP hD
        exact hN _ _ _ _ h.2 hlo ad cA H1 locs1 cells slots ls (hW.mem hP hD hS (z_up0 hq) (z_up1 hq)) hl
      · exact h.elim
    · exact h.elim
  · exact h.elim
theorem s_putRF {own : String} {cc : ByteArray} {nL : Nat} {nm : String} {rt : Option FieldType} {fr lc kc ks pc : Nat} {ci k ix N : Nat} {C : String} {T : u_T} (hcl : vwCl[ci]? = some (C, T, N)) (hin : ∀ w ∈ u_ws C T N, w ∈ z_Ts) (hk : k < N) (ty0 : Nat → FieldType) (hty : ∀ k, k < N → parseFieldDescriptor (T k).2.2.1 = some (ty0 k)) (hdis : ∀ a, a < N → ∀ b, b < N → a ≠ b → (T a).2.1 ≠ (T b).2.1) (hl0 : Cond.fieldLink own ix (T k).1 (T k).2.1 (T k).2.2.1 ∈ z_Ts) (hfin : (T k).2.2.2 = true) (hini : nm = "<init>") (hdecl : (T k).1 = own) {ty : FieldType} (hpd : parseFieldDescriptor (T k).2.2.1 = some ty) (hnr : ∀ q, narrow ty (.ref q) = .ref q ∧ fits ty (.ref q) = true) (hd : decode cc pc = .ok (.putfield ix, 3)) : zS own cc nL nm rt fr lc kc ks pc (pc + 3) (o_pr ci k) := by
  intro p l e R s m args below meth c Q D A ad0 n0 s0 nS f0 f1 hC next jump ret hN hJ hR lo st L M h hlo ad cA H locs cells slots ls hW hl
  obtain ⟨hx, hb, hml, hnm, hrt, hlk, hown, hfr, hlc, hkc, hks, h2, hts, hns, hK, hZ, ⟨hX0, hb0, hA0⟩, ⟨hX1, hb1, hA1⟩, hA⟩ := hC
  unfold o_pr at h
  split at h
  · rename_i x q r
    split at h
    · rename_i fs ho
      have hL := z_obj_at ho
      have hq := hW.place hL (fun n hn => by cases hn)
      split at h
      · rename_i w hf
        cases hb9 : Nat.blt q 2 with
        | true => rw [hb9] at h; exact h.elim
        | false =>
          rw [hb9] at h
          refine va_putF (v := .ref (ad x)) hx hb hts hin ty0 hty hdis hown hK hW.1 hW.2.1 hW.2.2.1 (q - 2) (z_ws_at hq hL) hcl k hk (hts _ hl0) (fun _ h9 => h9) hfin (hnm.trans hini) hdecl hpd (hnr _).1 (hnr _).2 (by rw [z_f_len]; exact (List.getElem?_eq_some_iff.mp hf).1) hd (fun H1 locs1 hP hD hS => ?_)
          rw [show Value.ref (ad x) = z_v ad (.ref x) from rfl, z_ws_fr hq hL hf (.ref x)] at hP hD
          exact hN _ _ _ _ h hlo ad cA H1 locs1 cells slots ls (hW.lay hL (by simp) hP hD hS) hl
      · exact h.elim
    · exact h.elim
  · exact h.elim
theorem s_gets {own : String} {cc : ByteArray} {nL : Nat} {nm : String} {rt : Option FieldType} {fr lc kc ks pc : Nat} {ix : Nat} (hl0 : Cond.fieldLink own ix "TownBagpipes" "DIGEST_HOURS" "[I" ∈ z_Ts) (hd : decode cc pc = .ok (.getstatic ix, 3)) : zS own cc nL nm rt fr lc kc ks pc (pc + 3) (o_gs) := by
  intro p l e R s m args below meth c Q D A ad0 n0 s0 nS f0 f1 hC next jump ret hN hJ hR lo st L M h hlo ad cA H locs cells slots ls hW hl
  obtain ⟨hx, hb, hml, hnm, hrt, hlk, hown, hfr, hlc, hkc, hks, h2, hts, hns, hK, hZ, ⟨hX0, hb0, hA0⟩, ⟨hX1, hb1, hA1⟩, hA⟩ := hC
  have h9 := hN _ _ _ _ h hlo ad cA H locs cells slots ls hW hl
  have e1 : ad 1 = ad0 1 := hW.2.2.2.2.1 1 (Or.inl (by omega))
  refine va_gets (v := .ref (ad0 1)) hx hb hZ hW.2.2.1 hown (hts _ hl0) (fun _ h9 => h9) hd ?_
  rw [← e1]
  exact h9
theorem s_iaload {own : String} {cc : ByteArray} {nL : Nat} {nm : String} {rt : Option FieldType} {fr lc kc ks pc : Nat} (hd : decode cc pc = .ok (.iaload, 1)) : zS own cc nL nm rt fr lc kc ks pc (pc + 1) (o_ia) := by
  intro p l e R s m args below meth c Q D A ad0 n0 s0 nS f0 f1 hC next jump ret hN hJ hR lo st L M h hlo ad cA H locs cells slots ls hW hl
  obtain ⟨hx, hb, hml, hnm, hrt, hlk, hown, hfr, hlc, hkc, hks, h2, hts, hns, hK, hZ, ⟨hX0, hb0, hA0⟩, ⟨hX1, hb1, hA1⟩, hA⟩ := hC
  unfold o_ia at h
  split at h
  · rename_i i q r
    split at h
    · rename_i n ho
      have h9 := hN _ _ _ _ h.2 hlo ad cA H locs cells slots ls hW hl
      rcases z_len_at ho with hL | ⟨hq, k, hL⟩
      · have hq := hW.place hL (fun n hn => by cases hn)
        exact va_iald hx hb (z_K1 hK hW.2.2.2.1 hL hq) hW.1 (q - 2) 0 (z_ws_at hq hL) rfl h.1 hd h9
      · have hz := hW.2.2.2.2.2.2
        rcases (show ∀ n : Nat, n < 2 → n = 0 ∨ n = 1 by omega) q hq with e | e
        · subst e
          have e2 := hz.1
          rw [hL] at e2
          cases e2
          have e1 : ad 0 = ad0 0 := hW.2.2.2.2.1 0 (Or.inl (by omega))
          have h10 := h.1
          rw [hz.2.2.1] at h9
          show W p l e R s m args below meth c H locs cells slots Q (F0 m pc ls (.int i :: .ref (ad 0) :: r.map (z_v ad)))
          rw [e1]
          exact va_sld hx hb hX0 hb0 hA0 hW.2.2.1 h10 hd h9
        · subst e
          have e2 := hz.2.1
          rw [hL] at e2
          cases e2
          have e1 : ad 1 = ad0 1 := hW.2.2.2.2.1 1 (Or.inl (by omega))
          have h10 := h.1
          rw [hz.2.2.2] at h9
          show W p l e R s m args below meth c H locs cells slots Q (F0 m pc ls (.int i :: .ref (ad 1) :: r.map (z_v ad)))
          rw [e1]
          exact va_sld hx hb hX1 hb1 hA1 hW.2.2.1 h10 hd h9
    · exact h.elim
  · exact h.elim
theorem s_baload {own : String} {cc : ByteArray} {nL : Nat} {nm : String} {rt : Option FieldType} {fr lc kc ks pc : Nat} (hd : decode cc pc = .ok (.baload, 1)) : zS own cc nL nm rt fr lc kc ks pc (pc + 1) (o_ba) := by
  intro p l e R s m args below meth c Q D A ad0 n0 s0 nS f0 f1 hC next jump ret hN hJ hR lo st L M h hlo ad cA H locs cells slots ls hW hl
  obtain ⟨hx, hb, hml, hnm, hrt, hlk, hown, hfr, hlc, hkc, hks, h2, hts, hns, hK, hZ, ⟨hX0, hb0, hA0⟩, ⟨hX1, hb1, hA1⟩, hA⟩ := hC
  unfold o_ba at h
  split at h
  · rename_i i q r
    split at h
    · rename_i n ho
      have hL := z_lenK_at ho
      have hq := hW.place hL (fun n hn => by cases hn)
      exact va_zald hx hb (z_K1 hK hW.2.2.2.1 hL hq) hW.1 (q - 2) 0 (z_ws_at hq hL) rfl h.1 hd (hN _ _ _ _ h.2 hlo ad cA H locs cells slots ls hW hl)
    · exact h.elim
  · exact h.elim
theorem s_iastore {own : String} {cc : ByteArray} {nL : Nat} {nm : String} {rt : Option FieldType} {fr lc kc ks pc : Nat} (hd : decode cc pc = .ok (.iastore, 1)) : zS own cc nL nm rt fr lc kc ks pc (pc + 1) (o_iw) := by
  intro p l e R s m args below meth c Q D A ad0 n0 s0 nS f0 f1 hC next jump ret hN hJ hR lo st L M h hlo ad cA H locs cells slots ls hW hl
  obtain ⟨hx, hb, hml, hnm, hrt, hlk, hown, hfr, hlc, hkc, hks, h2, hts, hns, hK, hZ, ⟨hX0, hb0, hA0⟩, ⟨hX1, hb1, hA1⟩, hA⟩ := hC
  unfold o_iw at h
  split at h
  · rename_i x i q r
    split at h
    · rename_i n ho
      have hL := z_lenK_at ho
      have hq := hW.place hL (fun n hn => by cases hn)
      refine va_iast hx hb (z_K1 hK hW.2.2.2.1 hL hq) hW.1 hW.2.1 hW.2.2.1 (q - 2) 0 (z_ws_at hq hL) rfl h.1 hd (fun H1 locs1 hP hD hS => ?_)
      rw [z_ws_arr hq hL] at hP hD
      exact hN _ _ _ _ h.2 hlo ad cA H1 locs1 cells slots ls (hW.mem hP hD hS (z_up0 hq) (z_up1 hq)) hl
    · exact h.elim
  · exact h.elim
theorem s_bastore {own : String} {cc : ByteArray} {nL : Nat} {nm : String} {rt : Option FieldType} {fr lc kc ks pc : Nat} (hd : decode cc pc = .ok (.bastore, 1)) : zS own cc nL nm rt fr lc kc ks pc (pc + 1) (o_bw) := by
  intro p l e R s m args below meth c Q D A ad0 n0 s0 nS f0 f1 hC next jump ret hN hJ hR lo st L M h hlo ad cA H locs cells slots ls hW hl
  obtain ⟨hx, hb, hml, hnm, hrt, hlk, hown, hfr, hlc, hkc, hks, h2, hts, hns, hK, hZ, ⟨hX0, hb0, hA0⟩, ⟨hX1, hb1, hA1⟩, hA⟩ := hC
  unfold o_bw at h
  split at h
  · rename_i x i q r
    split at h
    · rename_i n ho
      have hL := z_lenK_at ho
      have hq := hW.place hL (fun n hn => by cases hn)
      refine va_zast hx hb (z_K1 hK hW.2.2.2.1 hL hq) hW.1 hW.2.1 hW.2.2.1 (q - 2) 0 (z_ws_at hq hL) rfl h.1 hd (fun H1 locs1 hP hD hS => ?_)
      rw [z_ws_arr hq hL] at hP hD
      exact hN _ _ _ _ h.2 hlo ad cA H1 locs1 cells slots ls (hW.mem hP hD hS (z_up0 hq) (z_up1 hq)) hl
    · exact h.elim
  · exact h.elim
theorem s_alen {own : String} {cc : ByteArray} {nL : Nat} {nm : String} {rt : Option FieldType} {fr lc kc ks pc : Nat} (hd : decode cc pc = .ok (.arraylength, 1)) : zS own cc nL nm rt fr lc kc ks pc (pc + 1) (o_len) := by
  intro p l e R s m args below meth c Q D A ad0 n0 s0 nS f0 f1 hC next jump ret hN hJ hR lo st L M h hlo ad cA H locs cells slots ls hW hl
  obtain ⟨hx, hb, hml, hnm, hrt, hlk, hown, hfr, hlc, hkc, hks, h2, hts, hns, hK, hZ, ⟨hX0, hb0, hA0⟩, ⟨hX1, hb1, hA1⟩, hA⟩ := hC
  unfold o_len at h
  split at h
  · rename_i q r
    split at h
    · rename_i o hL
      obtain ⟨k, n⟩ := o
      have h9 := hN _ _ _ _ h hlo ad cA H locs cells slots ls hW hl
      rcases (show ∀ n : Nat, n = 0 ∨ n = 1 ∨ 2 ≤ n by omega) q with e | e | hq
      · subst e
        have e2 := hW.2.2.2.2.2.2.1
        rw [hL] at e2
        cases e2
        have e1 : ad 0 = ad0 0 := hW.2.2.2.2.1 0 (Or.inl (by omega))
        show W p l e R s m args below meth c H locs cells slots Q (F0 m pc ls (.ref (ad 0) :: r.map (z_v ad)))
        rw [e1]
        exact va_slen hx hb hX0 hb0 hA0 hW.2.2.1 hd h9
      · subst e
        have e2 := hW.2.2.2.2.2.2.2.1
        rw [hL] at e2
        cases e2
        have e1 : ad 1 = ad0 1 := hW.2.2.2.2.1 1 (Or.inl (by omega))
        show W p l e R s m args below meth c H locs cells slots Q (F0 m pc ls (.ref (ad 1) :: r.map (z_v ad)))
        rw [e1]
        exact va_slen hx hb hX1 hb1 hA1 hW.2.2.1 hd h9
      · exact va_alen hx hb (z_K1 hK hW.2.2.2.1 hL hq) hW.1 (q - 2) 0 (z_ws_at hq hL) rfl rfl hd h9
    · exact h.elim
  · exact h.elim
theorem s_ireturn {own : String} {cc : ByteArray} {nL : Nat} {nm : String} {rt : Option FieldType} {fr lc kc ks pc : Nat} {ty : FieldType} {npc : Nat} (hrt0 : rt = some ty) (hnar : ∀ x, narrow ty (.int x) = .int x) (hd : decode cc pc = .ok (.ireturn, 1)) : zS own cc nL nm rt fr lc kc ks pc npc (o_ir) := by
  intro p l e R s m args below meth c Q D A ad0 n0 s0 nS f0 f1 hC next jump ret hN hJ hR lo st L M h hlo ad cA H locs cells slots ls hW hl
  obtain ⟨hx, hb, hml, hnm, hrt, hlk, hown, hfr, hlc, hkc, hks, h2, hts, hns, hK, hZ, ⟨hX0, hb0, hA0⟩, ⟨hX1, hb1, hA1⟩, hA⟩ := hC
  unfold o_ir at h
  split at h
  · rename_i x
    exact hR _ _ _ h ad cA H locs cells slots ls pc _ hW hd (Or.inl ⟨rfl, x, ty, rfl, hrt0, hnar x⟩)
  · exact h.elim
theorem s_zreturn {own : String} {cc : ByteArray} {nL : Nat} {nm : String} {rt : Option FieldType} {fr lc kc ks pc : Nat} {npc : Nat} (hrt0 : rt = some .boolean) (hd : decode cc pc = .ok (.ireturn, 1)) : zS own cc nL nm rt fr lc kc ks pc npc (o_zr) := by
  intro p l e R s m args below meth c Q D A ad0 n0 s0 nS f0 f1 hC next jump ret hN hJ hR lo st L M h hlo ad cA H locs cells slots ls hW hl
  obtain ⟨hx, hb, hml, hnm, hrt, hlk, hown, hfr, hlc, hkc, hks, h2, hts, hns, hK, hZ, ⟨hX0, hb0, hA0⟩, ⟨hX1, hb1, hA1⟩, hA⟩ := hC
  unfold o_zr at h
  split at h
  · rename_i x
    exact hR _ _ _ h.2 ad cA H locs cells slots ls pc _ hW hd (Or.inl ⟨rfl, x, .boolean, rfl, hrt0, h.1⟩)
  · exact h.elim
theorem s_lreturn {own : String} {cc : ByteArray} {nL : Nat} {nm : String} {rt : Option FieldType} {fr lc kc ks pc : Nat} {npc : Nat} (hrt0 : rt = some .long) (hd : decode cc pc = .ok (.lreturn, 1)) : zS own cc nL nm rt fr lc kc ks pc npc (o_lr) := by
  intro p l e R s m args below meth c Q D A ad0 n0 s0 nS f0 f1 hC next jump ret hN hJ hR lo st L M h hlo ad cA H locs cells slots ls hW hl
  obtain ⟨hx, hb, hml, hnm, hrt, hlk, hown, hfr, hlc, hkc, hks, h2, hts, hns, hK, hZ, ⟨hX0, hb0, hA0⟩, ⟨hX1, hb1, hA1⟩, hA⟩ := hC
  unfold o_lr at h
  split at h
  · rename_i x
    exact hR _ _ _ h ad cA H locs cells slots ls pc _ hW hd (Or.inr (Or.inl ⟨rfl, x, rfl, hrt0⟩))
  · exact h.elim
theorem s_areturn {own : String} {cc : ByteArray} {nL : Nat} {nm : String} {rt : Option FieldType} {fr lc kc ks pc : Nat} {npc : Nat} {ty : FieldType} (hrt0 : rt = some ty) (hty : (∃ n, ty = .object n) ∨ ∃ t, ty = .array t) (hd : decode cc pc = .ok (.areturn, 1)) : zS own cc nL nm rt fr lc kc ks pc npc (o_ar) := by
  intro p l e R s m args below meth c Q D A ad0 n0 s0 nS f0 f1 hC next jump ret hN hJ hR lo st L M h hlo ad cA H locs cells slots ls hW hl
  obtain ⟨hx, hb, hml, hnm, hrt, hlk, hown, hfr, hlc, hkc, hks, h2, hts, hns, hK, hZ, ⟨hX0, hb0, hA0⟩, ⟨hX1, hb1, hA1⟩, hA⟩ := hC
  unfold o_ar at h
  split at h
  · rename_i x
    exact hR _ _ _ h ad cA H locs cells slots ls pc _ hW hd (Or.inr (Or.inr (Or.inl ⟨rfl, x, ty, rfl, hrt0, hty⟩)))
  · exact h.elim
theorem s_vreturn {own : String} {cc : ByteArray} {nL : Nat} {nm : String} {rt : Option FieldType} {fr lc kc ks pc : Nat} {npc : Nat} (hrt0 : rt = none) (hd : decode cc pc = .ok (.return_, 1)) : zS own cc nL nm rt fr lc kc ks pc npc (o_vr) := by
  intro p l e R s m args below meth c Q D A ad0 n0 s0 nS f0 f1 hC next jump ret hN hJ hR lo st L M h hlo ad cA H locs cells slots ls hW hl
  obtain ⟨hx, hb, hml, hnm, hrt, hlk, hown, hfr, hlc, hkc, hks, h2, hts, hns, hK, hZ, ⟨hX0, hb0, hA0⟩, ⟨hX1, hb1, hA1⟩, hA⟩ := hC
  unfold o_vr at h
  split at h
  · exact hR _ _ _ h ad cA H locs cells slots ls pc _ hW hd (Or.inr (Or.inr (Or.inr ⟨rfl, rfl, hrt0⟩)))
  · exact h.elim
theorem s_mmin {own : String} {cc : ByteArray} {nL : Nat} {nm : String} {rt : Option FieldType} {fr lc kc ks pc : Nat} {ix : Nat} (h1 : Cond.methodLink own ix Lib.Math.min.name ∈ z_Ts) (h3 : Cond.static Lib.Math.min.name ∈ z_Ts) (h4 : Cond.initialized "java/lang/Math" ∈ z_Ts) (h5 : Cond.code Lib.Math.min.name Lib.Math.min.code 2 (some .int) ∈ z_Ts) (hf : 1 ≤ fr) (hd : decode cc pc = .ok (.invokestatic ix, 3)) : zS own cc nL nm rt fr lc kc ks pc (pc + 3) (o_mi lc (fun x y => if y < x then y else x)) := by
  intro p l e R s m args below meth c Q D A ad0 n0 s0 nS f0 f1 hC next jump ret hN hJ hR lo st L M h hlo ad cA H locs cells slots ls hW hl
  obtain ⟨hx, hb, hml, hnm, hrt, hlk, hown, hfr, hlc, hkc, hks, h2, hts, hns, hK, hZ, ⟨hX0, hb0, hA0⟩, ⟨hX1, hb1, hA1⟩, hA⟩ := hC
  unfold o_mi at h
  split at h
  · rename_i y x r
    cases hb9 : Nat.ble (z_cat r + 13) lc with
    | false => rw [hb9] at h; exact h.elim
    | true =>
      rw [hb9] at h
      exact va_mmin hx hb (by rw [hml, hl.1, hlo]) hown (hts _ h1) (hts _ h3) (hts _ h4) (hts _ h5) (by rw [hfr]; exact hf) (by rw [z_cat_map, hlc]; exact Nat.le_of_ble_eq_true hb9) hW.2.2.2.2.2.1.2.2.1 hW.2.2.2.2.2.1.2.2.2 hd (hN _ _ _ _ h hlo ad cA H locs cells slots ls hW hl)
  · exact h.elim
theorem s_mmax {own : String} {cc : ByteArray} {nL : Nat} {nm : String} {rt : Option FieldType} {fr lc kc ks pc : Nat} {ix : Nat} (h1 : Cond.methodLink own ix Lib.Math.max.name ∈ z_Ts) (h3 : Cond.static Lib.Math.max.name ∈ z_Ts) (h4 : Cond.initialized "java/lang/Math" ∈ z_Ts) (h5 : Cond.code Lib.Math.max.name Lib.Math.max.code 2 (some .int) ∈ z_Ts) (hf : 1 ≤ fr) (hd : decode cc pc = .ok (.invokestatic ix, 3)) : zS own cc nL nm rt fr lc kc ks pc (pc + 3) (o_mi lc (fun x y => if x < y then y else x)) := by
  intro p l e R s m args below meth c Q D A ad0 n0 s0 nS f0 f1 hC next jump ret hN hJ hR lo st L M h hlo ad cA H locs cells slots ls hW hl
  obtain ⟨hx, hb, hml, hnm, hrt, hlk, hown, hfr, hlc, hkc, hks, h2, hts, hns, hK, hZ, ⟨hX0, hb0, hA0⟩, ⟨hX1, hb1, hA1⟩, hA⟩ := hC
  unfold o_mi at h
  split at h
  · rename_i y x r
    cases hb9 : Nat.ble (z_cat r + 13) lc with
    | false => rw [hb9] at h; exact h.elim
    | true =>
      rw [hb9] at h
      exact va_mmax hx hb (by rw [hml, hl.1, hlo]) hown (hts _ h1) (hts _ h3) (hts _ h4) (hts _ h5) (by rw [hfr]; exact hf) (by rw [z_cat_map, hlc]; exact Nat.le_of_ble_eq_true hb9) hW.2.2.2.2.2.1.2.2.1 hW.2.2.2.2.2.1.2.2.2 hd (hN _ _ _ _ h hlo ad cA H locs cells slots ls hW hl)
  · exact h.elim
theorem s_oinit {own : String} {cc : ByteArray} {nL : Nat} {nm : String} {rt : Option FieldType} {fr lc kc ks pc : Nat} {ix : Nat} (h1 : Cond.methodLink own ix Lib.objectInit ∈ z_Ts) (h3 : Cond.instanceMethod Lib.objectInit ∈ z_Ts) (h5 : Cond.code Lib.objectInit ⟨#[0xb1]⟩ 1 none ∈ z_Ts) (hf : 1 ≤ fr) (hd : decode cc pc = .ok (.invokespecial ix, 3)) : zS own cc nL nm rt fr lc kc ks pc (pc + 3) (o_oi lc) := by
  intro p l e R s m args below meth c Q D A ad0 n0 s0 nS f0 f1 hC next jump ret hN hJ hR lo st L M h hlo ad cA H locs cells slots ls hW hl
  obtain ⟨hx, hb, hml, hnm, hrt, hlk, hown, hfr, hlc, hkc, hks, h2, hts, hns, hK, hZ, ⟨hX0, hb0, hA0⟩, ⟨hX1, hb1, hA1⟩, hA⟩ := hC
  unfold o_oi at h
  split at h
  · rename_i q r
    cases hb9 : Nat.ble (z_cat r + 12) lc with
    | false => rw [hb9] at h; exact h.elim
    | true =>
      rw [hb9] at h
      refine W.objInit hx hb hown (hts _ h1) (hts _ h3) (hts _ h5) (g := F0 m pc ls (.ref (ad q) :: r.map (z_v ad))) rfl (by show ls.size = _; rw [hml, hl.1, hlo]) rfl hd (by rw [hfr]; exact hf) ?_ (hN _ _ _ _ h hlo ad cA H locs cells slots ls hW hl)
      show 2 * 0 + _ + 12 ≤ _
      rw [z_cat_map, hlc]
      have := Nat.le_of_ble_eq_true hb9
      omega
  · exact h.elim
theorem s_acopy {own : String} {cc : ByteArray} {nL : Nat} {nm : String} {rt : Option FieldType} {fr lc kc ks pc : Nat} {ix : Nat} (h1 : Cond.methodLink own ix arraycopyName ∈ z_Ts) (h3 : Cond.native arraycopyName ∈ z_Ts) (h4 : Cond.static arraycopyName ∈ z_Ts) (h5 : Cond.initialized "java/lang/System" ∈ z_Ts) (hf : 1 ≤ fr) (hd : decode cc pc = .ok (.invokestatic ix, 3)) : zS own cc nL nm rt fr lc kc ks pc (pc + 3) (o_cp lc) := by
  intro p l e R s m args below meth c Q D A ad0 n0 s0 nS f0 f1 hC next jump ret hN hJ hR lo st L M h hlo ad cA H locs cells slots ls hW hl
  obtain ⟨hx, hb, hml, hnm, hrt, hlk, hown, hfr, hlc, hkc, hks, h2, hts, hns, hK, hZ, ⟨hX0, hb0, hA0⟩, ⟨hX1, hb1, hA1⟩, hA⟩ := hC
  unfold o_cp at h
  split at h
  · rename_i n dp q sp q0 r
    split at h
    · rename_i m0 ho0
      split at h
      · rename_i m1 ho1
        cases hb9 : Nat.ble (z_cat r + (nativeFrameWords "java/lang/System" "arraycopy" 5 + 11)) lc with
        | false => rw [hb9] at h; exact h.elim
        | true =>
          rw [hb9] at h
          obtain ⟨⟨g1, g2, g3, g4, g5⟩, h⟩ := h
          have hL0 := z_lenK_at ho0
          have hL1 := z_lenK_at ho1
          have hq0 := hW.place hL0 (fun n hn => by cases hn)
          have hq1 := hW.place hL1 (fun n hn => by cases hn)
          have hKK : va_K D vwCl [(cA q0, .int), (cA q, .int)] s := (z_K1 hK hW.2.2.2.1 hL0 hq0).app (z_K1 hK hW.2.2.2.1 hL1 hq1)
          refine va_copyi hx hb (by rw [hml, hl.1, hlo]) hown (hts _ h1) (hts _ h3) (hts _ h4) (hts _ h5) hKK hW.1 hW.2.1 hW.2.2.1 (q0 - 2) (q - 2) 0 1 (z_ws_at hq0 hL0) (z_ws_at hq1 hL1) rfl rfl rfl g1 g2 g3 g4 g5 (fun _ _ => rfl) (by rw [hfr]; exact hf) (by rw [z_cat_map, hlc]; exact Nat.le_of_ble_eq_true hb9) hd (fun H1 locs1 hP hD hS => ?_)
          rw [z_ws_arr hq1 hL1] at hP hD
          exact hN _ _ _ _ h hlo ad cA H1 locs1 cells slots ls (hW.mem hP hD hS (z_up0 hq1) (z_up1 hq1)) hl
      · exact h.elim
    · exact h.elim
  · exact h.elim

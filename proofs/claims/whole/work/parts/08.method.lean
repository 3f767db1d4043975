/-! runs of the shadow machine, and a method's contract out of one -/
def z_run : List (Bool × Nat × zOp) → zJ → zR → zN
  | [], _, _ => fun _ _ _ _ => False
  | q :: r, jump, ret => q.2.2 (z_run r jump ret) jump ret
def z_from (pc : Nat) : List (Bool × Nat × zOp) → List (Bool × Nat × zOp)
  | [] => []
  | q :: r => bif q.1 && Nat.beq q.2.1 pc then q :: r else z_from pc r
def z_pcs (r : List (Bool × Nat × zOp)) : Nat := match r with
  | [] => 0
  | q :: _ => q.2.1
def z_OK (S : Nat → Nat → zOp → Prop) : List (Bool × Nat × zOp) → Prop
  | [] => True
  | q :: r => S q.2.1 (z_pcs r) q.2.2 ∧ z_OK S r
/-- from here the frame returns, as ret says -/
def z_E (P : List (Bool × Nat × zOp)) (ret : zR) (pc : Nat) (lo : zO) (st : List Value) (L : zL) (M : zM) : Prop :=
  ∀ X : zJ, (∀ pc lo st L M, (∃ Y : zJ, (∀ t lo st L M, Y t lo st L M → X t lo st L M) ∧ z_run (z_from pc P) Y ret lo st L M) → X pc lo st L M) → X pc lo st L M
theorem z_go {P : List (Bool × Nat × zOp)} {ret : zR} {pc : Nat} {lo : zO} {st : List Value} {L : zL} {M : zM} (h : z_run (z_from pc P) (z_E P ret) ret lo st L M) : z_E P ret pc lo st L M :=
  fun X hX => hX _ _ _ _ _ ⟨z_E P ret, fun _ _ _ _ _ h => h X hX, h⟩
theorem z_from_ok {S : Nat → Nat → zOp → Prop} (pc : Nat) : ∀ {P : List (Bool × Nat × zOp)}, z_OK S P → z_OK S (z_from pc P)
  | [], h => h
  | q :: r, h => by
    unfold z_from
    cases hb : (q.1 && Nat.beq q.2.1 pc) with
    | true => exact h
    | false => exact z_from_ok pc h.2
theorem z_from_pc (pc : Nat) : ∀ {P : List (Bool × Nat × zOp)}, z_from pc P = [] ∨ z_pcs (z_from pc P) = pc
  | [] => Or.inl rfl
  | q :: r => by
    unfold z_from
    cases hb : (q.1 && Nat.beq q.2.1 pc) with
    | true => exact Or.inr (Nat.eq_of_beq_eq_true (Bool.and_eq_true_iff.mp hb).2)
    | false => exact z_from_pc pc
theorem z_sound {own : String} {cc : ByteArray} {nL : Nat} {nm : String} {rt : Option FieldType} {fr lc kc ks : Nat} {P : List (Bool × Nat × zOp)} (hOK : z_OK (zS own cc nL nm rt fr lc kc ks) P)
    {p : Program} {l : Launch} {e : Env} {R : Room} {s : State} {m : MethodId} {args : Array Value} {below : List Frame} {meth : Method} {c : Code} {Q : State → Prop} {D : va_G} {A : Nat → Prop} {ad0 : Nat → Nat} {n0 s0 nS : Nat} {f0 f1 : Nat → Int32}
    (hC : z_Cx own cc nL nm rt fr lc kc ks p R s m args meth c D A ad0 n0 s0 nS f0 f1) {ret : zR} (hR : ∀ v L M, ret v L M → z_T cc rt p l e R s m args below meth c Q D A ad0 n0 s0 nS f0 f1 v L M)
    {pc : Nat} {lo : zO} {st : List Value} {L : zL} {M : zM} (h : z_E P ret pc lo st L M) : z_K p l e R s m args below meth c Q D A ad0 n0 s0 nS f0 f1 nL pc lo st L M := by
  refine h (fun t lo st L M => z_K p l e R s m args below meth c Q D A ad0 n0 s0 nS f0 f1 nL t lo st L M) ?_
  rintro t lo st L M ⟨Y, hY, hrun⟩
  have key : ∀ (r : List (Bool × Nat × zOp)), z_OK (zS own cc nL nm rt fr lc kc ks) r → ∀ lo st L M, z_run r Y ret lo st L M → z_K p l e R s m args below meth c Q D A ad0 n0 s0 nS f0 f1 nL (z_pcs r) lo st L M := by
    intro r
    induction r with
    | nil => intro _ lo st L M h; exact h.elim
    | cons q r ih =>
      intro hok lo st L M h
      exact hok.1 p l e R s m args below meth c Q D A ad0 n0 s0 nS f0 f1 hC (z_run r Y ret) Y ret (fun lo st L M h => ih hok.2 lo st L M h) hY hR lo st L M h
  have h1 := key _ (z_from_ok t hOK) lo st L M hrun
  rcases z_from_pc t (P := P) with e1 | e1
  · rw [e1] at hrun; exact hrun.elim
  · rw [e1] at h1; exact h1
-- the locals at a method's entry
def z_sl : List Value → zO
  | [] => []
  | v :: r => bif Nat.beq v.category 2 then some v :: none :: z_sl r else some v :: z_sl r
def z_lo (n : Nat) (as : List Value) : zO := z_sl as ++ List.replicate (n - (z_sl as).length) none
theorem z_sl_len (ad : Nat → Nat) : ∀ (as : List Value), (lg_sl (as.map (z_v ad))).length = (z_sl as).length
  | [] => rfl
  | v :: r => by
    have ih := z_sl_len ad r
    cases hb : Nat.beq v.category 2 with
    | true =>
      have e := Nat.eq_of_beq_eq_true hb
      have e2 : (z_v ad v).category = 2 := by rw [z_v_cat]; exact e
      simp [z_sl, hb, lg_sl, e2]
      simpa [lg_sl] using ih
    | false =>
      have e2 : ¬ (z_v ad v).category = 2 := by rw [z_v_cat]; intro h; rw [h] at hb; cases hb
      simp [z_sl, hb, lg_sl, e2]
      have := ih
      simp [lg_sl] at this
      omega
theorem z_sl_at (ad : Nat → Nat) : ∀ (as : List Value) (k i : Nat) (v : Value), (z_sl as)[i]? = some (some v) → (k + i, z_v ad v) ∈ lv_args k (as.map (z_v ad))
  | [], _, _, _, h => by cases h
  | w :: r, k, i, v, h => by
    unfold z_sl at h
    cases hb : Nat.beq w.category 2 with
    | true =>
      rw [hb] at h
      have e2 : (z_v ad w).category = 2 := by rw [z_v_cat]; exact Nat.eq_of_beq_eq_true hb
      simp only [List.map_cons, lv_args, e2, if_true]
      match i, h with
      | 0, h => cases h; exact List.mem_cons_self
      | 1, h => cases h
      | j + 2, h =>
        have := z_sl_at ad r (k + 2) j v h
        rw [show k + (j + 2) = k + 2 + j by omega]
        exact List.mem_cons_of_mem _ this
    | false =>
      rw [hb] at h
      have e2 : ¬ (z_v ad w).category = 2 := by rw [z_v_cat]; intro h; rw [h] at hb; cases hb
      simp only [List.map_cons, lv_args, e2, if_false]
      match i, h with
      | 0, h => cases h; exact List.mem_cons_self
      | j + 1, h =>
        have := z_sl_at ad r (k + 1) j v h
        rw [show k + (j + 1) = k + 1 + j by omega]
        exact List.mem_cons_of_mem _ this
theorem z_entry (ad : Nat → Nat) (as : List Value) (n : Nat) (h : (z_sl as).length ≤ n) : z_Lo ad ((lg_sl (as.map (z_v ad)) ++ List.replicate (n - (lg_sl (as.map (z_v ad))).length) Slot.unset).toArray) (z_lo n as) ∧ (z_lo n as).length = n := by
  have hl := lv_entry (as.map (z_v ad)) (n := n) (by rw [z_sl_len]; exact h)
  have e : (z_lo n as).length = n := by simp [z_lo]; omega
  refine ⟨⟨hl.1.trans e.symm, hl.2.1, fun i v hi => ?_⟩, e⟩
  unfold z_lo at hi
  by_cases hlt : i < (z_sl as).length
  · rw [List.getElem?_append_left hlt] at hi
    have := z_sl_at ad as 0 i v hi
    rw [Nat.zero_add] at this
    exact hl.2.2 _ this
  · rw [List.getElem?_append_right (by omega)] at hi
    have := List.eq_of_mem_replicate (List.mem_of_getElem? hi)
    cases this
/-- a method's contract out of a run -/
theorem z_meth {i : zI} {P : List (Bool × Nat × zOp)} {L L' : zL} {M : zM} {Q : Option Value → zM → Prop} {as : List Value} (hOK : z_OK (zS i.1.cls i.2.1 i.2.2.1 i.1.name i.2.2.2.1 i.2.2.2.2.1 i.2.2.2.2.2 L'.length (z_sz L')) P) (hy : plainName i.1.cls = true)
    (h1 : L.length ≤ L'.length) (h2 : z_sz L ≤ z_sz L') (h3 : 2 ≤ L.length) (hn : Nat.ble (z_sl as).length i.2.2.1 = true)
    (h : ∀ ret : zR, (∀ v M', Q v M' → ret v L' M') → z_E P ret 0 (z_lo i.2.2.1 as) [] L M) : zMet i as L M L' Q := by
  refine ⟨h1, h2, fun l D ad cA nS f0 f1 sz => ?_⟩
  refine Met.ofW (cc := i.2.1) (maxL := i.2.2.1) (ret := i.2.2.2.1) hy rfl ?_
  intro p e s m args below meth c s₁ B hml hv
  obtain ⟨rfl, hsz, hP, hD0, hAr, hFz, hE⟩ := hv
  have hts := atoms_spec (ws := Cond.code i.1 i.2.1 i.2.2.1 i.2.2.2.1 :: z_Ts) B.pre
  have hlocks := B.notSynchronized
  subst hsz
  have hD := hD0.self (sz := s.heap.size)
  have hC : z_Cx i.1.cls i.2.1 i.2.2.1 i.1.name i.2.2.2.1 i.2.2.2.2.1 i.2.2.2.2.2 L'.length (z_sz L') p (headSpec (Cond.code i.1 i.2.1 i.2.2.1 i.2.2.2.1 :: z_Ts) { frames := i.2.2.2.2.1, cells := L'.length - L.length, slots := z_sz L' - z_sz L, locals := i.2.2.2.2.2 }).room s m (as.map (z_v ad)).toArray meth c D (va_A (z_ws ad cA L M) s.heap.size) ad L.length (z_sz L) nS f0 f1 :=
    ⟨B.exec, B.bytes, hml, (name_of_methodNamed B.named B.method).1, B.returns, hlocks, findClass_of_methodNamed B.named, rfl, rfl, by show L'.length - L.length + L.length = _; omega, by show z_sz L' - z_sz L + z_sz L = _; omega, h3, fun w hw => hts w (List.mem_cons_of_mem _ hw), hE⟩
  have hent := z_entry ad as i.2.2.1 (Nat.le_of_ble_eq_true hn)
  rw [lg_entry_eq]
  refine z_sound hOK hC (ret := fun v' L'' M'' => Q v' M'' ∧ L'' = L') ?_ (h _ (fun _ _ hq => ⟨hq, rfl⟩)) hent.2 ad cA s.heap [] 0 0 _ ⟨hP, hD, va_S.rf, hAr, fun _ _ => rfl, ⟨by omega, by omega, by omega, by omega⟩, hFz⟩ hent.1
  rintro v' L'' M'' ⟨hq, rfl⟩
  intro ad1 cA1 H locs cells slots ls pc ins hW hd hri
  obtain ⟨q1, q2, q3, q4, q5, ⟨k1, k2, k3, k4⟩, q7⟩ := hW
  have ec : cells = L''.length - L.length := by omega
  have es : slots = z_sz L'' - z_sz L := by omega
  subst ec; subst es
  have post : ∀ t : State, t.heap = H → s.WarmedH t.vm → z_Post D ad cA nS f0 f1 s.heap.size L M L'' Q s (.returned (v'.map (z_v ad1))) t := fun t ht hWm => ⟨v', M'', ad1, cA1, hq, rfl, q5, by rw [ht]; exact q1, q2, q4.moved hWm.alike, q7, q3.F ht⟩
  rcases hri with ⟨rfl, x, ty, rfl, hr, hnar⟩ | ⟨rfl, x, rfl, hr⟩ | ⟨rfl, x, ty, rfl, hr, hty⟩ | ⟨rfl, rfl, hr⟩
  · exact W.zret B.exec B.bytes (B.returns.trans hr) hnar post q3.2.2 hd
  · exact W.lret B.exec B.bytes (B.returns.trans hr) post q3.2.2 hd
  · exact W.aret B.exec B.bytes (B.returns.trans hr) hty (Or.inr ⟨ad1 x, rfl⟩) post q3.2.2 hd
  · exact W.vret B.exec B.bytes (B.returns.trans hr) post q3.2.2 hd
theorem s_ldcw {own : String} {cc : ByteArray} {nL : Nat} {nm : String} {rt : Option FieldType} {fr lc kc ks pc : Nat} {ix : Nat} {v : Int32} (hk : Cond.constant own ix v ∈ z_Ts) (hd : decode cc pc = .ok (.ldc_w ix, 3)) : zS own cc nL nm rt fr lc kc ks pc (pc + 3) (o_ic v) := by
  intro p l e R s m args below meth c Q D A ad0 n0 s0 nS f0 f1 hC next jump ret hN hJ hR lo st L M h hlo ad cA H locs cells slots ls hW hl
  obtain ⟨hx, hb, hml, hnm, hrt, hlk, hown, hfr, hlc, hkc, hks, h2, hts, hE⟩ := hC
  exact lv_ldcw hx hb hown (hts _ hk) hd (hN _ _ _ _ h hlo ad cA H locs cells slots ls hW hl)

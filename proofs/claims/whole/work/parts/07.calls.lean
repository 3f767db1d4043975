/-! making, calls, and a method's contract out of a run of the shadow machine -/
theorem z_Wd.push {s : State} {R : Room} {D : va_G} {A : Nat → Prop} {ad0 : Nat → Nat} {n0 s0 nS : Nat} {f0 f1 : Nat → Int32} {ad : Nat → Nat} {cA : Nat → ClassId} {L : zL} {M : zM} {H H1 : Heap} {locs : List Loc} {cells slots q : Nat} {cQ : ClassId} {c : (Nat × Nat) ⊕ (Nat × List (Option Value))} {e : va_E}
    (h : z_Wd s R D A ad0 n0 s0 nS f0 f1 ad cA L M H locs cells slots) (h2 : 2 ≤ n0) (hL : L.all (z_cok L.length) = true) (he : e = z_e (va_up ad L.length q) cQ (fun _ => 0) c)
    (hP : va_P D vwCl (z_ws ad cA L M ++ [(q, e)]) H1) (hD : va_D A (z_ws ad cA L M ++ [(q, e)])) (hS : va_S A s.heap H1 locs) (hc : cells + 1 ≤ R.cells) (hs : slots + z_sz [c] ≤ R.slots) (hAr : ∀ k n, c = .inl (k, n) → k < 2 ∧ ArrOfT s cQ (z_ty k) ∧ va_RA s cQ (z_ty k)) :
    z_Wd s R D A ad0 n0 s0 nS f0 f1 (va_up ad L.length q) (va_up cA L.length cQ) (L ++ [c]) (va_up M L.length (fun _ => 0)) H1 locs (cells + 1) (slots + z_sz [c]) := by
  obtain ⟨-, -, -, h4, h5, ⟨k1, k2, -, -⟩, z0, z1, z2, z3⟩ := h
  have hn : 2 ≤ L.length := by omega
  rw [z_ws_push hn hL q cQ (fun _ => 0) c e he] at hP hD
  refine ⟨hP, hD, hS, fun p k n hp hp2 => ?_, fun p hp => ?_, ⟨by simp; omega, by rw [z_sz_app]; omega, hc, hs⟩, ?_, ?_, ?_, ?_⟩
  · by_cases e1 : p < L.length
    · rw [List.getElem?_append_left e1] at hp
      have := h4 p k n hp hp2
      simp only [va_up, Nat.ne_of_lt e1, if_false]
      exact this
    · by_cases e2 : p = L.length
      · subst e2
        have : c = .inl (k, n) := by simpa using hp
        simp only [va_up, if_true]
        exact hAr k n this
      · rw [List.getElem?_eq_none (by simp; omega)] at hp
        cases hp
  · have e1 : p ≠ L.length := by
      rcases hp with hp | hp
      · omega
      · simp at hp; omega
    simp only [va_up, e1, if_false]
    refine h5 p ?_
    rcases hp with hp | hp
    · exact Or.inl hp
    · simp at hp; exact Or.inr (by omega)
  · rw [List.getElem?_append_left (by omega)]; exact z0
  · rw [List.getElem?_append_left (by omega)]; exact z1
  · have : (0 : Nat) ≠ L.length := by omega
    simp only [va_up, this, if_false]; exact z2
  · have : (1 : Nat) ≠ L.length := by omega
    simp only [va_up, this, if_false]; exact z3
theorem s_new {own : String} {cc : ByteArray} {nL : Nat} {nm : String} {rt : Option FieldType} {fr lc kc ks pc : Nat} {ci ix N : Nat} {C : String} {T : u_T} (hcl : vwCl[ci]? = some (C, T, N)) (hin : ∀ w ∈ u_ws C T N, w ∈ z_Ts) (ty0 : Nat → FieldType) (hty : ∀ k, k < N → parseFieldDescriptor (T k).2.2.1 = some (ty0 k)) (hl0 : Cond.classLink own ix C ∈ z_Ts) (hi0 : Cond.instantiable C N ∈ z_Ts) (hn0 : Cond.initialized C ∈ z_Ts)
    {fs : List (Option Value)} {fv : List Value} (hfv : ∀ ad, z_f ad (fun _ => 0) fs = fv) (hfs : ∀ j, j < N → defaultValue (ty0 j) = vp_V fv j) (hfl : fs.length = N) (hd : decode cc pc = .ok (.new ix, 3)) : zS own cc nL nm rt fr lc kc ks pc (pc + 3) (o_new kc ks ci fs) := by
  intro p l e R s m args below meth c Q D A ad0 n0 s0 nS f0 f1 hC next jump ret hN hJ hR lo st L M h hlo ad cA H locs cells slots ls hW hl
  obtain ⟨hx, hb, hml, hnm, hrt, hlk, hown, hfr, hlc, hkc, hks, h2, hts, hns, hK, hZ, ⟨hX0, hb0, hA0⟩, ⟨hX1, hb1, hA1⟩, hA⟩ := hC
  unfold o_new at h
  cases hb9 : (z_ok lo st L && (Nat.ble (L.length + 1) kc && Nat.ble (z_sz L + fs.length) ks)) with
  | false => rw [hb9] at h; exact h.elim
  | true =>
    rw [hb9] at h
    obtain ⟨g1, g2⟩ := Bool.and_eq_true_iff.mp hb9
    obtain ⟨g3, g4⟩ := Bool.and_eq_true_iff.mp g2
    obtain ⟨g5, g6⟩ := Bool.and_eq_true_iff.mp g1
    obtain ⟨g7, g8⟩ := Bool.and_eq_true_iff.mp g6
    have g3 := Nat.le_of_ble_eq_true g3
    have g4 := Nat.le_of_ble_eq_true g4
    obtain ⟨k1, k2, -, -⟩ := hW.2.2.2.2.2.1
    have c1 : cells + 1 ≤ R.cells := by omega
    have c2 : slots + N ≤ R.slots := by omega
    refine va_new hx hb hts hin ty0 hty hown (hts _ hl0) (hts _ hi0) (hts _ hn0) hK hW.1 hW.2.1 hW.2.2.1 hA hcl hfs c1 c2 hd (fun q H1 hP hD hS => ?_)
    have c3 : slots + z_sz [(.inr (ci, fs) : (Nat × Nat) ⊕ (Nat × List (Option Value)))] ≤ R.slots := by simp [z_sz, hfl]; exact c2
    have hW1 := hW.push (q := q) (cQ := cA L.length) (c := .inr (ci, fs)) (e := .inr (ci, fv)) h2 g8 (by rw [← hfv (va_up ad L.length q)]; rfl) hP hD hS c1 c3 (fun k n hkn => by cases hkn)
    have hag : ∀ p, p < L.length → va_up ad L.length q p = ad p := fun p hp => by simp [va_up, Nat.ne_of_lt hp]
    have h9 := hN _ _ _ _ h hlo _ _ _ _ _ _ ls hW1 (z_Lo_ag hag hl g5)
    rw [List.map_cons, z_st_ag hag g7] at h9
    have e1 : z_v (va_up ad L.length q) (.ref L.length) = .ref q := by simp [z_v, va_up]
    rw [e1, show z_sz [(.inr (ci, fs) : (Nat × Nat) ⊕ (Nat × List (Option Value)))] = N by simp [z_sz, hfl]] at h9
    exact h9
theorem s_newa {own : String} {cc : ByteArray} {nL : Nat} {nm : String} {rt : Option FieldType} {fr lc kc ks pc : Nat} {at0 : ArrayType} {k : Nat} (hk : k < 2) (hty : newarray.typeOf at0 = z_ty k) (hw : Cond.arrayClass (newarray.typeOf at0) ∈ z_Ts) (hd : decode cc pc = .ok (.newarray at0, 2)) : zS own cc nL nm rt fr lc kc ks pc (pc + 2) (o_na kc ks k) := by
  intro p l e R s m args below meth c Q D A ad0 n0 s0 nS f0 f1 hC next jump ret hN hJ hR lo st L M h hlo ad cA H locs cells slots ls hW hl
  obtain ⟨hx, hb, hml, hnm, hrt, hlk, hown, hfr, hlc, hkc, hks, h2, hts, hns, hK, hZ, ⟨hX0, hb0, hA0⟩, ⟨hX1, hb1, hA1⟩, hA⟩ := hC
  unfold o_na at h
  split at h
  · rename_i x r
    cases hb9 : (z_ok lo r L && (decide (¬ x < 0) && (Nat.ble x.toNatClampNeg 10000 && (Nat.ble (L.length + 1) kc && Nat.ble (z_sz L + x.toNatClampNeg) ks)))) with
    | false => rw [hb9] at h; exact h.elim
    | true =>
      rw [hb9] at h
      obtain ⟨g1, g2⟩ := Bool.and_eq_true_iff.mp hb9
      obtain ⟨g0, g2⟩ := Bool.and_eq_true_iff.mp g2
      obtain ⟨g9, g2⟩ := Bool.and_eq_true_iff.mp g2
      obtain ⟨g3, g4⟩ := Bool.and_eq_true_iff.mp g2
      obtain ⟨g5, g6⟩ := Bool.and_eq_true_iff.mp g1
      obtain ⟨g7, g8⟩ := Bool.and_eq_true_iff.mp g6
      have g3 := Nat.le_of_ble_eq_true g3
      have g4 := Nat.le_of_ble_eq_true g4
      have g9 := Nat.le_of_ble_eq_true g9
      have g0 := of_decide_eq_true g0
      obtain ⟨k1, k2, -, -⟩ := hW.2.2.2.2.2.1
      have c1 : cells + 1 ≤ R.cells := by omega
      have c2 : slots + x.toNatClampNeg ≤ R.slots := by omega
      have hde : defaultValue (z_ty k) = .int 0 := by
        rcases (show ∀ n : Nat, n < 2 → n = 0 ∨ n = 1 by omega) k hk with e | e <;> subst e <;> rfl
      have hcb : componentBytes (z_ty k) ≤ 4 := by
        rcases (show ∀ n : Nat, n < 2 → n = 0 ∨ n = 1 by omega) k hk with e | e <;> subst e <;> decide
      refine va_newa hx hb (hts _ hw) hty hK hW.1 hW.2.1 hW.2.2.1 hA (N' := x.toNatClampNeg) (a0 := (x.toNatClampNeg, .inl (fun _ => 0))) (fun cA => by rw [hde]; rfl) g0 rfl (Nat.le_trans (Nat.mul_le_mul g9 hcb) (by decide)) c1 c2 hd (fun q cQ H1 hK1 hP hD hS => ?_)
      have c3 : slots + z_sz [(.inl (k, x.toNatClampNeg) : (Nat × Nat) ⊕ (Nat × List (Option Value)))] ≤ R.slots := by simp [z_sz]; exact c2
      have hW1 := hW.push (q := q) (cQ := cQ) (c := .inl (k, x.toNatClampNeg)) (e := .inl (cQ, x.toNatClampNeg, .inl (fun _ => 0))) h2 g8 rfl hP hD hS c1 c3 (fun k' n hkn => by cases hkn; exact ⟨hk, hK1.2 0 (cQ, z_ty k) rfl⟩)
      have hag : ∀ p, p < L.length → va_up ad L.length q p = ad p := fun p hp => by simp [va_up, Nat.ne_of_lt hp]
      have h9 := hN _ _ _ _ h hlo _ _ _ _ _ _ ls hW1 (z_Lo_ag hag hl g5)
      rw [List.map_cons, z_st_ag hag g7] at h9
      have e1 : z_v (va_up ad L.length q) (.ref L.length) = .ref q := by simp [z_v, va_up]
      rw [e1, show z_sz [(.inl (k, x.toNatClampNeg) : (Nat × Nat) ⊕ (Nat × List (Option Value)))] = x.toNatClampNeg by simp [z_sz]] at h9
      exact h9
  · exact h.elim
-- calls
theorem z_gin {ws : List Cond} (h : ∀ w ∈ ws, w ∈ z_Ts) : GoodIn z_Ts ws := fun w hw => ⟨h w hw, good_of_word (z_good w (h w hw))⟩
theorem z_gcal {i : zI} {n : Nat} (h : z_Cal i n) : GoodIn z_Ts (Cond.code i.1 i.2.1 i.2.2.1 i.2.2.2.1 :: z_Ts) := z_gin (fun w hw => by
  rcases List.mem_cons.mp hw with e | e
  · subst e; exact h.1
  · exact e)
theorem z_blind {D : va_G} {ad : Nat → Nat} {cA : Nat → ClassId} {nS : Nat} {f0 f1 : Nat → Int32} {sz : Nat} {L : zL} {M : zM} {as : List Value} : FrameBlind (va_Pc as (z_Pre D ad cA nS f0 f1 sz L M)) := by
  intro a U g mk h
  obtain ⟨h0, q0, q1, q2, q3, q4, q5, q6, q7, q8⟩ := h
  exact ⟨h0, q0, q1, q2, fun p k n hp h2 => q3 p k n hp h2, q4, fun w hw => va_Nw.same (u := U) (U := U.calling g mk a) (by have := (List.mem_filter.mp hw).2; cases w <;> first | (cases this; done) | rfl) rfl (q5 w hw), va_K.moved (u := U) (U := U.calling g mk a) (Vm.Alike.refl U.vm) q6, va_Z.moved (u := U) (U := U.calling g mk a) (Vm.Alike.refl U.vm) q7, ⟨va_X.moved (u := U) (U := U.calling g mk a) (Vm.Alike.refl U.vm) q8.1.1, q8.1.2⟩, ⟨va_X.moved (u := U) (U := U.calling g mk a) (Vm.Alike.refl U.vm) q8.2.1.1, q8.2.1.2⟩, q8.2.2⟩
theorem z_sub {s : State} {R : Room} {D : va_G} {A : Nat → Prop} {ad0 : Nat → Nat} {n0 s0 nS : Nat} {f0 f1 : Nat → Int32} {ad : Nat → Nat} {cA : Nat → ClassId} {L : zL} {M : zM} {H : Heap} {locs : List Loc} {cells slots : Nat} (h : z_Wd s R D A ad0 n0 s0 nS f0 f1 ad cA L M H locs cells slots) (hA : ∀ q, s.heap.size ≤ q → A q) : ∀ q, va_A (z_ws ad cA L M) H.size q → A q := by
  intro q hq
  rcases hq with ⟨k, e, hk⟩ | hq
  · exact h.2.1.2 k (q, e) hk
  · exact hA q (Nat.le_trans h.2.2.1.1 hq)
theorem z_Ar.moved {u U : State} (hvm : u.vm.Alike U.vm) {cA : Nat → ClassId} {L : zL} (h : z_Ar u cA L) : z_Ar U cA L := fun p k n hp h2 => ⟨(h p k n hp h2).1, arrOfT_moved hvm (h p k n hp h2).2.1, (h p k n hp h2).2.2.moved hvm⟩
/-- what a callee needs of the world -/
theorem z_pre {s : State} {R : Room} {D : va_G} {A : Nat → Prop} {ad0 : Nat → Nat} {n0 s0 nS : Nat} {f0 f1 : Nat → Int32} {ad : Nat → Nat} {cA : Nat → ClassId} {L : zL} {M : zM} {H : Heap} {locs : List Loc} {cells slots : Nat} (h : z_Wd s R D A ad0 n0 s0 nS f0 f1 ad cA L M H locs cells slots) (h2 : 2 ≤ n0) (hE : z_En D A (ad0 0) (ad0 1) nS f0 f1 s) {U : State} (hU : U.heap = H) (hW : s.WarmedH U.vm) : z_Pre D ad cA nS f0 f1 H.size L M U := by
  obtain ⟨hns, hK, hZ, ⟨hX0, hb0, hA0⟩, ⟨hX1, hb1, hA1⟩, hA⟩ := hE
  have hsub := z_sub h hA
  have hS := h.2.2.1
  have e0 : ad 0 = ad0 0 := h.2.2.2.2.1 0 (Or.inl (by omega))
  have e1 : ad 1 = ad0 1 := h.2.2.2.2.1 1 (Or.inl (by omega))
  refine ⟨by rw [hU], by rw [hU]; exact h.1, h.2.1.weaken (fun _ _ _ _ => trivial), h.2.2.2.1.moved hW.alike, h.2.2.2.2.2.2, fun w hw => z_warm (List.mem_filter.mp hw).2 hW (hns w hw), va_K.moved hW.alike hK, ?_, ⟨?_, ?_, ?_⟩, ⟨?_, ?_, ?_⟩, fun q hq => ?_⟩
  · rw [hU, e1]
    exact (va_Z.moved hW.alike (hZ.kept hS.2.1)).narrow hsub
  · rw [hU, e0]
    exact va_X.moved hW.alike (hX0.kept (hS.2.1 _ hb0 hA0))
  · rw [hU, e0]; exact Nat.lt_of_lt_of_le hb0 hS.1
  · rw [e0]; exact fun q => hA0 (hsub _ q)
  · rw [hU, e1]
    exact va_X.moved hW.alike (hX1.kept (hS.2.1 _ hb1 hA1))
  · rw [hU, e1]; exact Nat.lt_of_lt_of_le hb1 hS.1
  · rw [e1]; exact fun q => hA1 (hsub _ q)
  · rw [hU] at hq; exact Or.inr hq
/-- behind a call -/
theorem z_after {p : Program} {l : Launch} {e : Env} {R : Room} {s : State} {m : MethodId} {args : Array Value} {below : List Frame} {meth : Method} {c : Code} {Q : State → Prop} {D : va_G} {A : Nat → Prop} {ad0 : Nat → Nat} {n0 s0 nS : Nat} {f0 f1 : Nat → Int32} {ad : Nat → Nat} {cA : Nat → ClassId} {L L' : zL} {M : zM} {H : Heap} {locs : List Loc} {cells slots : Nat} {pc : Nat} {ls : Array Slot} {st0 rest : List Value} {Q9 : Option Value → zM → Prop} {mc ms : Nat}
    (hr : va_Run p l e R s m args below meth c H locs cells slots mc ms (F0 m pc ls st0) rest (z_Post D ad cA nS f0 f1 H.size L M L' Q9) (va_A (z_ws ad cA L M) H.size))
    (hW : z_Wd s R D A ad0 n0 s0 nS f0 f1 ad cA L M H locs cells slots) (hA : ∀ q, s.heap.size ≤ q → A q) (h1 : L.length + mc = L'.length) (h2 : z_sz L + ms = z_sz L') (hc : cells + mc ≤ R.cells) (hs : slots + ms ≤ R.slots)
    (kk : ∀ (v : Option Value) (M' : zM) (ad' : Nat → Nat) (cA' : Nat → ClassId) (H1 : Heap) (locs1 : List Loc), Q9 v M' → (∀ p, p < L.length ∨ L'.length ≤ p → ad' p = ad p) → z_Wd s R D A ad0 n0 s0 nS f0 f1 ad' cA' L' M' H1 locs1 (cells + mc) (slots + ms) → W p l e R s m args below meth c H1 locs1 (cells + mc) (slots + ms) Q (F0 m (pc + 3) ls ((v.map (z_v ad')).toList ++ rest))) :
    W p l e R s m args below meth c H locs cells slots Q (F0 m pc ls st0) := by
  intro T hT X
  obtain ⟨v', st₀, t, T', Lx, h0, X', hLx, e1, e2, ⟨v, M', ad', cA', hq, hv, hag, hP', hD', hAr', hFz', hz, hk⟩, st⟩ := hr T hT X
  cases hv
  rw [h0] at hz hk
  have hsub := z_sub hW hA
  obtain ⟨q1, q2, hS, q4, q5, ⟨k1, k2, k3, k4⟩, q7⟩ := hW
  obtain ⟨t2, a1, b1⟩ := kk v M' ad' cA' T'.heap (locs ++ Lx) hq hag ⟨by rw [e1]; exact hP', hD'.weaken (fun _ q _ z => hsub _ z), ⟨Nat.le_trans hS.1 (by rw [e1]; exact hz), fun q h1 h2 => by rw [e1, hk q (Nat.lt_of_lt_of_le h1 hS.1) (fun z => h2 (hsub q z))]; exact hS.2.1 q h1 h2, fun q hq => by
      rcases List.mem_append.mp hq with h | h
      · exact hS.2.2 q h
      · exact hsub _ (hLx q h)⟩, hAr'.moved (by rw [← e2]; exact X'.warmed.alike.symm), fun p hp => (hag p (by omega)).trans (q5 p (by omega)), ⟨by omega, by omega, hc, hs⟩, hFz'⟩ T' rfl X'
  exact ⟨t2, st t2 a1, b1⟩
theorem z_frees {ad ad' : Nat → Nat} {n : Nat} (h : ∀ p, p < n ∨ n ≤ p → ad' p = ad p) : ad' = ad := funext fun p => h p (by omega)
theorem z_vmap (ad : Nat → Nat) (v : Option Value) (r : List Value) : (v.map (z_v ad)).toList ++ r.map (z_v ad) = (v.toList ++ r).map (z_v ad) := by cases v <;> simp
theorem z_stk {ad : Nat → Nat} {st r : List Value} {b n : Nat} (h : st.drop n = .ref b :: r) : st.map (z_v ad) = (((st.take n).reverse.map (z_v ad))).reverse ++ .ref (ad b) :: r.map (z_v ad) := by
  have e : st = st.take n ++ st.drop n := (List.take_append_drop n st).symm
  rw [h] at e
  conv => lhs; rw [e]
  simp [List.map_append, List.map_reverse, z_v]
theorem z_stk0 {ad : Nat → Nat} {st : List Value} {n : Nat} : st.map (z_v ad) = (((st.take n).reverse.map (z_v ad))).reverse ++ (st.drop n).map (z_v ad) := by
  conv => lhs; rw [(List.take_append_drop n st).symm]
  simp [List.map_append, List.map_reverse]
theorem z_room {m : MethodId} {pc : Nat} {ls : Array Slot} {ad : Nat → Nat} {st r : List Value} (h : Nat.ble (z_cat r) 8 = true) : 2 * (F0 m pc ls st).monitorRoom + ((r.map (z_v ad)).map fun v => v.category).sum ≤ 8 := lv_room (by rw [z_cat_map]; exact Nat.le_of_ble_eq_true h)
theorem s_callV {own : String} {cc : ByteArray} {nL : Nat} {nm : String} {rt : Option FieldType} {fr lc kc ks pc : Nat} {i : zI} {n ci ix N : Nat} {C : String} {T : u_T} (hcl : vwCl[ci]? = some (C, T, N)) (hcal : z_Cal i n) (hins : Cond.instanceMethod i.1 ∈ z_Ts ∧ Cond.selects C i.1 i.1 ∈ z_Ts) (h1 : Cond.methodLink own ix i.1 ∈ z_Ts) (hR0 : Nat.ble (i.2.2.2.2.1 + 1) fr = true ∧ Nat.ble (8 + (i.2.2.1 + 11) + i.2.2.2.2.2) lc = true) (hd : decode cc pc = .ok (.invokevirtual ix, 3)) : zS own cc nL nm rt fr lc kc ks pc (pc + 3) (o_cv i n ci) := by
  intro p l e R s m args below meth c Q D A ad0 n0 s0 nS f0 f1 hC next jump ret hN hJ hR lo st L M h hlo ad cA H locs cells slots ls hW hl
  obtain ⟨hx, hb, hml, hnm, hrt, hlk, hown, hfr, hlc, hkc, hks, h2, hts, hE⟩ := hC
  have hK := hE.2.1
  have hA := hE.2.2.2.2.2
  unfold o_cv at h
  split at h
  · rename_i b r hst
    split at h
    · rename_i fs ho
      cases hb9 : Nat.ble (z_cat r) 8 with
      | false => rw [hb9] at h; exact h.elim
      | true =>
        rw [hb9] at h
        obtain ⟨Q9, hM, h⟩ := h
        obtain ⟨-, -, hM⟩ := hM
        have hM := hM l D ad cA nS f0 f1 H.size
        have hL := z_obj_at ho
        have hq := hW.place hL (fun n hn => by cases hn)
        obtain ⟨-, -, k3, k4⟩ := hW.2.2.2.2.2.1
        have hn : ((st.take n).reverse.map (z_v ad)).length = n := by
          have : n < st.length := by
            rcases Nat.lt_or_ge n st.length with q | q
            · exact q
            · rw [List.drop_eq_nil_of_le q] at hst; cases hst
          simp; omega
        have hRR : i.2.2.2.2.1 + 1 ≤ R.frames ∧ 8 + (i.2.2.1 + 11) + i.2.2.2.2.2 ≤ R.locals := ⟨by rw [hfr]; exact Nat.le_of_ble_eq_true hR0.1, by rw [hlc]; exact Nat.le_of_ble_eq_true hR0.2⟩
        rw [z_stk hst]
        simp only [Nat.sub_self] at hM
        refine z_after (mc := 0) (ms := 0) (va_runV (C := C) (b := ad b) (As := (st.take n).reverse.map (z_v ad)) ⟨hx, hb, hml, hown, hts⟩ hM ⟨callB_of n hts (z_gcal hcal) rfl rfl rfl (hts _ hcal.2.1) (hts _ h1) hcal.2.2 hRR, hts _ hins.1, hts _ hins.2⟩ ⟨z_blind, va_recv hK hW.1 hcl (z_ws_at hq hL), fun U hU hU2 => ⟨rfl, z_pre hW h2 hE hU hU2⟩⟩ rfl hn (by show ls.size = nL; rw [hl.1, hlo]) rfl (z_room hb9) hd ⟨k3, k4⟩) hW hA (Nat.add_zero _) (Nat.add_zero _) k3 k4 (fun v M' ad' cA' H1 locs1 hq hag hW1 => ?_)
        have e9 := z_frees hag
        subst e9
        rw [z_vmap]
        exact hN _ _ _ _ (h v M' hq) hlo _ _ _ _ _ _ ls hW1 hl
    · exact h.elim
  · exact h.elim
theorem s_callVN {own : String} {cc : ByteArray} {nL : Nat} {nm : String} {rt : Option FieldType} {fr lc kc ks pc : Nat} {i : zI} {n ci ix N : Nat} {C : String} {T : u_T} (hcl : vwCl[ci]? = some (C, T, N)) (hcal : z_Cal i n) (hins : Cond.instanceMethod i.1 ∈ z_Ts ∧ Cond.selects C i.1 i.1 ∈ z_Ts) {host : String} (h1 : Cond.methodLinkNest own ix i.1 host ∈ z_Ns) (hR0 : Nat.ble (i.2.2.2.2.1 + 1) fr = true ∧ Nat.ble (8 + (i.2.2.1 + 11) + i.2.2.2.2.2) lc = true) (hd : decode cc pc = .ok (.invokevirtual ix, 3)) : zS own cc nL nm rt fr lc kc ks pc (pc + 3) (o_cv i n ci) := by
  intro p l e R s m args below meth c Q D A ad0 n0 s0 nS f0 f1 hC next jump ret hN hJ hR lo st L M h hlo ad cA H locs cells slots ls hW hl
  obtain ⟨hx, hb, hml, hnm, hrt, hlk, hown, hfr, hlc, hkc, hks, h2, hts, hE⟩ := hC
  have hK := hE.2.1
  have hA := hE.2.2.2.2.2
  unfold o_cv at h
  split at h
  · rename_i b r hst
    split at h
    · rename_i fs ho
      cases hb9 : Nat.ble (z_cat r) 8 with
      | false => rw [hb9] at h; exact h.elim
      | true =>
        rw [hb9] at h
        obtain ⟨Q9, hM, h⟩ := h
        obtain ⟨-, -, hM⟩ := hM
        have hM := hM l D ad cA nS f0 f1 H.size
        have hL := z_obj_at ho
        have hq := hW.place hL (fun n hn => by cases hn)
        obtain ⟨-, -, k3, k4⟩ := hW.2.2.2.2.2.1
        have hn : ((st.take n).reverse.map (z_v ad)).length = n := by
          have : n < st.length := by
            rcases Nat.lt_or_ge n st.length with q | q
            · exact q
            · rw [List.drop_eq_nil_of_le q] at hst; cases hst
          simp; omega
        have hRR : i.2.2.2.2.1 + 1 ≤ R.frames ∧ 8 + (i.2.2.1 + 11) + i.2.2.2.2.2 ≤ R.locals := ⟨by rw [hfr]; exact Nat.le_of_ble_eq_true hR0.1, by rw [hlc]; exact Nat.le_of_ble_eq_true hR0.2⟩
        rw [z_stk hst]
        simp only [Nat.sub_self] at hM
        refine z_after (mc := 0) (ms := 0) (va_runVN (C := C) (b := ad b) (As := (st.take n).reverse.map (z_v ad)) ⟨hx, hb, hml, hown, hts⟩ hM ⟨va_cnB n hts (z_gcal hcal) rfl rfl rfl (hE.1 _ h1) (hts _ hcal.2.1) hcal.2.2 hRR, hts _ hins.1, hts _ hins.2⟩ ⟨z_blind, va_recv hK hW.1 hcl (z_ws_at hq hL), fun U hU hU2 => ⟨rfl, z_pre hW h2 hE hU hU2⟩⟩ rfl hn (by show ls.size = nL; rw [hl.1, hlo]) rfl (z_room hb9) hd ⟨k3, k4⟩) hW hA (Nat.add_zero _) (Nat.add_zero _) k3 k4 (fun v M' ad' cA' H1 locs1 hq hag hW1 => ?_)
        have e9 := z_frees hag
        subst e9
        rw [z_vmap]
        exact hN _ _ _ _ (h v M' hq) hlo _ _ _ _ _ _ ls hW1 hl
    · exact h.elim
  · exact h.elim
theorem s_callS {own : String} {cc : ByteArray} {nL : Nat} {nm : String} {rt : Option FieldType} {fr lc kc ks pc : Nat} {i : zI} {n ix : Nat} (hcal : z_Cal i n) (hsta : Cond.static i.1 ∈ z_Ts) (h1 : Cond.methodLink own ix i.1 ∈ z_Ts) (hR0 : Nat.ble (i.2.2.2.2.1 + 1) fr = true ∧ Nat.ble (8 + (i.2.2.1 + 11) + i.2.2.2.2.2) lc = true) (hd : decode cc pc = .ok (.invokestatic ix, 3)) : zS own cc nL nm rt fr lc kc ks pc (pc + 3) (o_cs i n) := by
  intro p l e R s m args below meth c Q D A ad0 n0 s0 nS f0 f1 hC next jump ret hN hJ hR lo st L M h hlo ad cA H locs cells slots ls hW hl
  obtain ⟨hx, hb, hml, hnm, hrt, hlk, hown, hfr, hlc, hkc, hks, h2, hts, hE⟩ := hC
  have hK := hE.2.1
  have hA := hE.2.2.2.2.2
  unfold o_cs at h
  cases hb8 : (Nat.ble n st.length && Nat.ble (z_cat (st.drop n)) 8) with
  | false => rw [hb8] at h; exact h.elim
  | true =>
    rw [hb8] at h
    obtain ⟨hb7, hb9⟩ := Bool.and_eq_true_iff.mp hb8
    obtain ⟨Q9, hM, h⟩ := h
    obtain ⟨-, -, hM⟩ := hM
    have hM := hM l D ad cA nS f0 f1 H.size
    obtain ⟨-, -, k3, k4⟩ := hW.2.2.2.2.2.1
    have hn : ((st.take n).reverse.map (z_v ad)).length = n := by
      have := Nat.le_of_ble_eq_true hb7
      simp; omega
    have hRR : i.2.2.2.2.1 + 1 ≤ R.frames ∧ 8 + (i.2.2.1 + 11) + i.2.2.2.2.2 ≤ R.locals := ⟨by rw [hfr]; exact Nat.le_of_ble_eq_true hR0.1, by rw [hlc]; exact Nat.le_of_ble_eq_true hR0.2⟩
    rw [z_stk0 (n := n)]
    simp only [Nat.sub_self] at hM
    refine z_after (mc := 0) (ms := 0) (va_runS (As := (st.take n).reverse.map (z_v ad)) ⟨hx, hb, hml, hown, hts⟩ hM ⟨callB_of n hts (z_gcal hcal) rfl rfl rfl (hts _ hcal.2.1) (hts _ h1) hcal.2.2 hRR, hts _ hsta⟩ ⟨z_blind, fun U hU hU2 => ⟨rfl, z_pre hW h2 hE hU hU2⟩⟩ rfl hn (by show ls.size = nL; rw [hl.1, hlo]) rfl (z_room hb9) hd ⟨k3, k4⟩) hW hA (Nat.add_zero _) (Nat.add_zero _) k3 k4 (fun v M' ad' cA' H1 locs1 hq hag hW1 => ?_)
    have e9 := z_frees hag
    subst e9
    rw [z_vmap]
    exact hN _ _ _ _ (h v M' hq) hlo _ _ _ _ _ _ ls hW1 hl
theorem s_callSN {own : String} {cc : ByteArray} {nL : Nat} {nm : String} {rt : Option FieldType} {fr lc kc ks pc : Nat} {i : zI} {n ix : Nat} (hcal : z_Cal i n) (hsta : Cond.static i.1 ∈ z_Ts) {host : String} (h1 : Cond.methodLinkNest own ix i.1 host ∈ z_Ns) (hR0 : Nat.ble (i.2.2.2.2.1 + 1) fr = true ∧ Nat.ble (8 + (i.2.2.1 + 11) + i.2.2.2.2.2) lc = true) (hd : decode cc pc = .ok (.invokestatic ix, 3)) : zS own cc nL nm rt fr lc kc ks pc (pc + 3) (o_cs i n) := by
  intro p l e R s m args below meth c Q D A ad0 n0 s0 nS f0 f1 hC next jump ret hN hJ hR lo st L M h hlo ad cA H locs cells slots ls hW hl
  obtain ⟨hx, hb, hml, hnm, hrt, hlk, hown, hfr, hlc, hkc, hks, h2, hts, hE⟩ := hC
  have hK := hE.2.1
  have hA := hE.2.2.2.2.2
  unfold o_cs at h
  cases hb8 : (Nat.ble n st.length && Nat.ble (z_cat (st.drop n)) 8) with
  | false => rw [hb8] at h; exact h.elim
  | true =>
    rw [hb8] at h
    obtain ⟨hb7, hb9⟩ := Bool.and_eq_true_iff.mp hb8
    obtain ⟨Q9, hM, h⟩ := h
    obtain ⟨-, -, hM⟩ := hM
    have hM := hM l D ad cA nS f0 f1 H.size
    obtain ⟨-, -, k3, k4⟩ := hW.2.2.2.2.2.1
    have hn : ((st.take n).reverse.map (z_v ad)).length = n := by
      have := Nat.le_of_ble_eq_true hb7
      simp; omega
    have hRR : i.2.2.2.2.1 + 1 ≤ R.frames ∧ 8 + (i.2.2.1 + 11) + i.2.2.2.2.2 ≤ R.locals := ⟨by rw [hfr]; exact Nat.le_of_ble_eq_true hR0.1, by rw [hlc]; exact Nat.le_of_ble_eq_true hR0.2⟩
    rw [z_stk0 (n := n)]
    simp only [Nat.sub_self] at hM
    refine z_after (mc := 0) (ms := 0) (va_runSN (As := (st.take n).reverse.map (z_v ad)) ⟨hx, hb, hml, hown, hts⟩ hM ⟨va_cnB n hts (z_gcal hcal) rfl rfl rfl (hE.1 _ h1) (hts _ hcal.2.1) hcal.2.2 hRR, hts _ hsta, trivial⟩ ⟨z_blind, fun U hU hU2 => ⟨rfl, z_pre hW h2 hE hU hU2⟩⟩ rfl hn (by show ls.size = nL; rw [hl.1, hlo]) rfl (z_room hb9) hd ⟨k3, k4⟩) hW hA (Nat.add_zero _) (Nat.add_zero _) k3 k4 (fun v M' ad' cA' H1 locs1 hq hag hW1 => ?_)
    have e9 := z_frees hag
    subst e9
    rw [z_vmap]
    exact hN _ _ _ _ (h v M' hq) hlo _ _ _ _ _ _ ls hW1 hl
theorem s_callI {own : String} {cc : ByteArray} {nL : Nat} {nm : String} {rt : Option FieldType} {fr lc kc ks pc : Nat} {i : zI} {n ix : Nat} (hcal : z_Cal i n) (hins : Cond.instanceMethod i.1 ∈ z_Ts) (hini : i.1.name = "<init>") (hret : i.2.2.2.1 = none) (h1 : Cond.methodLink own ix i.1 ∈ z_Ts) (hR0 : Nat.ble (i.2.2.2.2.1 + 1) fr = true ∧ Nat.ble (8 + (i.2.2.1 + 11) + i.2.2.2.2.2) lc = true) (hd : decode cc pc = .ok (.invokespecial ix, 3)) : zS own cc nL nm rt fr lc kc ks pc (pc + 3) (o_ci kc ks i n) := by
  intro p l e R s m args below meth c Q D A ad0 n0 s0 nS f0 f1 hC next jump ret hN hJ hR lo st L M h hlo ad cA H locs cells slots ls hW hl
  obtain ⟨hx, hb, hml, hnm, hrt, hlk, hown, hfr, hlc, hkc, hks, h2, hts, hE⟩ := hC
  have hK := hE.2.1
  have hA := hE.2.2.2.2.2
  unfold o_ci at h
  split at h
  · rename_i b r hst
    cases hb8 : (z_ok lo r L && Nat.ble (z_cat r) 8) with
    | false => rw [hb8] at h; exact h.elim
    | true =>
      rw [hb8] at h
      obtain ⟨g1, hb9⟩ := Bool.and_eq_true_iff.mp hb8
      obtain ⟨g5, g6⟩ := Bool.and_eq_true_iff.mp g1
      obtain ⟨g7, g8⟩ := Bool.and_eq_true_iff.mp g6
      obtain ⟨L', Q9, hM, ⟨hc1, hc2⟩, h⟩ := h
      obtain ⟨hl1, hl2, hM⟩ := hM
      have hM := hM l D ad cA nS f0 f1 H.size
      obtain ⟨k1, k2, k3, k4⟩ := hW.2.2.2.2.2.1
      have hn : ((st.take n).reverse.map (z_v ad)).length = n := by
        have : n < st.length := by
          rcases Nat.lt_or_ge n st.length with q | q
          · exact q
          · rw [List.drop_eq_nil_of_le q] at hst; cases hst
        simp; omega
      have hRR : i.2.2.2.2.1 + 1 ≤ R.frames ∧ 8 + (i.2.2.1 + 11) + i.2.2.2.2.2 ≤ R.locals := ⟨by rw [hfr]; exact Nat.le_of_ble_eq_true hR0.1, by rw [hlc]; exact Nat.le_of_ble_eq_true hR0.2⟩
      have c1 : cells + (L'.length - L.length) ≤ R.cells := by omega
      have c2 : slots + (z_sz L' - z_sz L) ≤ R.slots := by omega
      rw [z_stk hst]
      refine z_after (va_runI (b := ad b) (As := (st.take n).reverse.map (z_v ad)) ⟨hx, hb, hml, hown, hts⟩ hM ⟨callB_of n hts (z_gcal hcal) (by rw [hret]) rfl rfl (hts _ hcal.2.1) (hts _ h1) hcal.2.2 hRR, hini, hts _ hins⟩ ⟨z_blind, fun U hU hU2 => ⟨rfl, z_pre hW h2 hE hU hU2⟩⟩ rfl hn (by show ls.size = nL; rw [hl.1, hlo]) rfl (z_room hb9) hd ⟨c1, c2⟩) hW hA (by omega) (by omega) c1 c2 (fun v M' ad' cA' H1 locs1 hq hag hW1 => ?_)
      have hag2 : ∀ p, p < L.length → ad' p = ad p := fun p hp => hag p (Or.inl hp)
      obtain ⟨rfl, h⟩ := h v M' hq
      have h9 := hN _ _ _ _ h hlo _ _ _ _ _ _ ls hW1 (z_Lo_ag hag2 hl g5)
      rw [z_st_ag hag2 g7] at h9
      exact h9
  · exact h.elim
theorem s_callIN {own : String} {cc : ByteArray} {nL : Nat} {nm : String} {rt : Option FieldType} {fr lc kc ks pc : Nat} {i : zI} {n ix : Nat} (hcal : z_Cal i n) (hins : Cond.instanceMethod i.1 ∈ z_Ts) (hini : i.1.name = "<init>") (hret : i.2.2.2.1 = none) {host : String} (h1 : Cond.methodLinkNest own ix i.1 host ∈ z_Ns) (hR0 : Nat.ble (i.2.2.2.2.1 + 1) fr = true ∧ Nat.ble (8 + (i.2.2.1 + 11) + i.2.2.2.2.2) lc = true) (hd : decode cc pc = .ok (.invokespecial ix, 3)) : zS own cc nL nm rt fr lc kc ks pc (pc + 3) (o_ci kc ks i n) := by
  intro p l e R s m args below meth c Q D A ad0 n0 s0 nS f0 f1 hC next jump ret hN hJ hR lo st L M h hlo ad cA H locs cells slots ls hW hl
  obtain ⟨hx, hb, hml, hnm, hrt, hlk, hown, hfr, hlc, hkc, hks, h2, hts, hE⟩ := hC
  have hK := hE.2.1
  have hA := hE.2.2.2.2.2
  unfold o_ci at h
  split at h
  · rename_i b r hst
    cases hb8 : (z_ok lo r L && Nat.ble (z_cat r) 8) with
    | false => rw [hb8] at h; exact h.elim
    | true =>
      rw [hb8] at h
      obtain ⟨g1, hb9⟩ := Bool.and_eq_true_iff.mp hb8
      obtain ⟨g5, g6⟩ := Bool.and_eq_true_iff.mp g1
      obtain ⟨g7, g8⟩ := Bool.and_eq_true_iff.mp g6
      obtain ⟨L', Q9, hM, ⟨hc1, hc2⟩, h⟩ := h
      obtain ⟨hl1, hl2, hM⟩ := hM
      have hM := hM l D ad cA nS f0 f1 H.size
      obtain ⟨k1, k2, k3, k4⟩ := hW.2.2.2.2.2.1
      have hn : ((st.take n).reverse.map (z_v ad)).length = n := by
        have : n < st.length := by
          rcases Nat.lt_or_ge n st.length with q | q
          · exact q
          · rw [List.drop_eq_nil_of_le q] at hst; cases hst
        simp; omega
      have hRR : i.2.2.2.2.1 + 1 ≤ R.frames ∧ 8 + (i.2.2.1 + 11) + i.2.2.2.2.2 ≤ R.locals := ⟨by rw [hfr]; exact Nat.le_of_ble_eq_true hR0.1, by rw [hlc]; exact Nat.le_of_ble_eq_true hR0.2⟩
      have c1 : cells + (L'.length - L.length) ≤ R.cells := by omega
      have c2 : slots + (z_sz L' - z_sz L) ≤ R.slots := by omega
      rw [z_stk hst]
      refine z_after (va_runIN (b := ad b) (As := (st.take n).reverse.map (z_v ad)) ⟨hx, hb, hml, hown, hts⟩ hM ⟨va_cnB n hts (z_gcal hcal) (by rw [hret]) rfl rfl (hE.1 _ h1) (hts _ hcal.2.1) hcal.2.2 hRR, hini, hts _ hins⟩ ⟨z_blind, fun U hU hU2 => ⟨rfl, z_pre hW h2 hE hU hU2⟩⟩ rfl hn (by show ls.size = nL; rw [hl.1, hlo]) rfl (z_room hb9) hd ⟨c1, c2⟩) hW hA (by omega) (by omega) c1 c2 (fun v M' ad' cA' H1 locs1 hq hag hW1 => ?_)
      have hag2 : ∀ p, p < L.length → ad' p = ad p := fun p hp => hag p (Or.inl hp)
      obtain ⟨rfl, h⟩ := h v M' hq
      have h9 := hN _ _ _ _ h hlo _ _ _ _ _ _ ls hW1 (z_Lo_ag hag2 hl g5)
      rw [z_st_ag hag2 g7] at h9
      exact h9
  · exact h.elim

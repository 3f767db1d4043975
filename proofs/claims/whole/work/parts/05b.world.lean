/-! the store's cells as the kit's world -/
theorem z_v_cat (ad : Nat → Nat) (v : Value) : (z_v ad v).category = v.category := by cases v <;> rfl
theorem z_cat_map (ad : Nat → Nat) (st : List Value) : ((st.map (z_v ad)).map fun v => v.category).sum = z_cat st := by
  unfold z_cat
  rw [List.map_map]
  congr 1
  exact List.map_congr_left (fun v _ => z_v_cat ad v)
theorem z_ws_at {ad : Nat → Nat} {cA : Nat → ClassId} {L : zL} {M : zM} {p : Nat} {c : (Nat × Nat) ⊕ (Nat × List (Option Value))} (h2 : 2 ≤ p) (h : L[p]? = some c) : (z_ws ad cA L M)[p - 2]? = some (ad p, z_e ad (cA p) (M p) c) := by
  obtain ⟨k, rfl⟩ : ∃ k, p = k + 2 := ⟨p - 2, by omega⟩
  unfold z_ws
  rw [List.getElem?_mapIdx, List.getElem?_drop, show 2 + (k + 2 - 2) = k + 2 by omega, h]
  simp
theorem z_ws_inv {ad : Nat → Nat} {cA : Nat → ClassId} {L : zL} {M : zM} {k : Nat} {q : Nat × va_E} (h : (z_ws ad cA L M)[k]? = some q) : ∃ c, L[k + 2]? = some c ∧ q = (ad (k + 2), z_e ad (cA (k + 2)) (M (k + 2)) c) := by
  unfold z_ws at h
  rw [List.getElem?_mapIdx, List.getElem?_drop] at h
  rw [show 2 + k = k + 2 by omega] at h
  cases hc : L[k + 2]? with
  | none => rw [hc] at h; cases h
  | some c =>
    rw [hc] at h
    exact ⟨c, rfl, (Option.some.inj h).symm⟩
theorem z_ws_len {ad : Nat → Nat} {cA : Nat → ClassId} {L : zL} {M : zM} : (z_ws ad cA L M).length = L.length - 2 := by simp [z_ws]
theorem z_f_at {ad : Nat → Nat} {f : Nat → Int32} {fs : List (Option Value)} {k : Nat} : (z_f ad f fs)[k]? = (fs[k]?).map (fun o => match o with
  | none => Value.int (f k)
  | some v => z_v ad v) := by
  unfold z_f
  rw [List.getElem?_mapIdx]
  cases fs[k]? with
  | none => rfl
  | some o => cases o <;> rfl
theorem z_f_len {ad : Nat → Nat} {f : Nat → Int32} {fs : List (Option Value)} : (z_f ad f fs).length = fs.length := by simp [z_f]
/-- an element is written -/
theorem z_ws_arr {ad : Nat → Nat} {cA : Nat → ClassId} {L : zL} {M : zM} {p k n : Nat} (h2 : 2 ≤ p) (h : L[p]? = some (.inl (k, n))) (f : Nat → Int32) : (z_ws ad cA L M).set (p - 2) (ad p, .inl (cA p, n, .inl f)) = z_ws ad cA L (va_up M p f) := by
  apply List.ext_getElem?
  intro j
  rw [List.getElem?_set]
  have hl : p < L.length := (List.getElem?_eq_some_iff.mp h).1
  by_cases hj : p - 2 = j
  · rw [if_pos hj, if_pos (by rw [z_ws_len]; omega)]
    have e : p = j + 2 := by omega
    subst e
    rw [show j = (j + 2) - 2 by omega, z_ws_at h2 h]
    simp [z_e, va_up]
  · rw [if_neg hj]
    unfold z_ws
    rw [List.getElem?_mapIdx, List.getElem?_mapIdx]
    have e : j + 2 ≠ p := by omega
    simp [va_up, e]
/-- an int field is written -/
theorem z_ws_fi {ad : Nat → Nat} {cA : Nat → ClassId} {L : zL} {M : zM} {p ci k : Nat} {fs : List (Option Value)} (h2 : 2 ≤ p) (h : L[p]? = some (.inr (ci, fs))) (hk : fs[k]? = some none) (x : Int32) : (z_ws ad cA L M).set (p - 2) (ad p, .inr (ci, (z_f ad (M p) fs).set k (.int x))) = z_ws ad cA L (va_up M p (upd (M p) k x)) := by
  apply List.ext_getElem?
  intro j
  rw [List.getElem?_set]
  have hl : p < L.length := (List.getElem?_eq_some_iff.mp h).1
  by_cases hj : p - 2 = j
  · rw [if_pos hj, if_pos (by rw [z_ws_len]; omega)]
    have e : p = j + 2 := by omega
    subst e
    rw [show j = (j + 2) - 2 by omega, z_ws_at h2 h]
    have e2 : (z_f ad (M (j + 2)) fs).set k (.int x) = z_f ad (upd (M (j + 2)) k x) fs := by
      apply List.ext_getElem?
      intro i
      rw [List.getElem?_set, z_f_at, z_f_at]
      by_cases hi : k = i
      · subst hi
        rw [if_pos rfl, if_pos (by rw [z_f_len]; exact (List.getElem?_eq_some_iff.mp hk).1), hk]
        simp [upd]
      · rw [if_neg hi]
        congr 1
        funext o
        cases o with
        | none => simp [upd, Ne.symm hi]
        | some v => rfl
    simp [z_e, va_up, e2]
  · rw [if_neg hj]
    unfold z_ws
    rw [List.getElem?_mapIdx, List.getElem?_mapIdx]
    have e : j + 2 ≠ p := by omega
    simp [va_up, e]
/-- a field that holds a reference is written -/
theorem z_ws_fr {ad : Nat → Nat} {cA : Nat → ClassId} {L : zL} {M : zM} {p ci k : Nat} {fs : List (Option Value)} {w : Value} (h2 : 2 ≤ p) (h : L[p]? = some (.inr (ci, fs))) (hk : fs[k]? = some (some w)) (v : Value) : (z_ws ad cA L M).set (p - 2) (ad p, .inr (ci, (z_f ad (M p) fs).set k (z_v ad v))) = z_ws ad cA (L.set p (.inr (ci, fs.set k (some v)))) M := by
  apply List.ext_getElem?
  intro j
  rw [List.getElem?_set]
  have hl : p < L.length := (List.getElem?_eq_some_iff.mp h).1
  by_cases hj : p - 2 = j
  · rw [if_pos hj, if_pos (by rw [z_ws_len]; omega)]
    have e : p = j + 2 := by omega
    subst e
    have h3 : (L.set (j + 2) (.inr (ci, fs.set k (some v))))[j + 2]? = some (.inr (ci, fs.set k (some v))) := by simp [hl]
    have h4 := z_ws_at (ad := ad) (cA := cA) (M := M) h2 h3
    rw [Nat.add_sub_cancel] at h4
    rw [h4]
    have e2 : (z_f ad (M (j + 2)) fs).set k (z_v ad v) = z_f ad (M (j + 2)) (fs.set k (some v)) := by
      apply List.ext_getElem?
      intro i
      rw [List.getElem?_set, z_f_at, z_f_at, List.getElem?_set]
      by_cases hi : k = i
      · subst hi
        have hkl := (List.getElem?_eq_some_iff.mp hk).1
        rw [if_pos rfl, if_pos (by rw [z_f_len]; exact hkl), if_pos rfl, if_pos hkl]
        rfl
      · rw [if_neg hi, if_neg hi]
    simp [z_e, e2]
  · rw [if_neg hj]
    unfold z_ws
    rw [List.getElem?_mapIdx, List.getElem?_mapIdx, List.getElem?_drop, List.getElem?_drop, List.getElem?_set, if_neg (by omega)]
theorem z_v_up {ad : Nat → Nat} {n q : Nat} {v : Value} (h : z_rok n v = true) : z_v (va_up ad n q) v = z_v ad v := by
  cases v <;> first | rfl | skip
  rename_i p
  have : p < n := Nat.blt_eq.mp h |> fun h => h
  simp [z_v, va_up, Nat.ne_of_lt this]
theorem z_v_ag {ad ad' : Nat → Nat} {n : Nat} (hag : ∀ p, p < n → ad' p = ad p) {v : Value} (h : z_rok n v = true) : z_v ad' v = z_v ad v := by
  cases v <;> first | rfl | skip
  rename_i p
  have : p < n := Nat.blt_eq.mp h |> fun h => h
  simp [z_v, hag p this]
theorem z_st_ag {ad ad' : Nat → Nat} {n : Nat} (hag : ∀ p, p < n → ad' p = ad p) {st : List Value} (h : st.all (z_rok n) = true) : st.map (z_v ad') = st.map (z_v ad) :=
  List.map_congr_left (fun v hv => z_v_ag hag (List.all_eq_true.mp h v hv))
theorem z_e_ag {ad ad' : Nat → Nat} {n : Nat} (hag : ∀ p, p < n → ad' p = ad p) {c : (Nat × Nat) ⊕ (Nat × List (Option Value))} (h : z_cok n c = true) (cA : ClassId) (f : Nat → Int32) : z_e ad' cA f c = z_e ad cA f c := by
  cases c with
  | inl q => rfl
  | inr o =>
    show Sum.inr (o.1, z_f ad' f o.2) = Sum.inr (o.1, z_f ad f o.2)
    congr 2
    apply List.ext_getElem?
    intro i
    rw [z_f_at, z_f_at]
    cases ho : o.2[i]? with
    | none => rfl
    | some x =>
      cases x with
      | none => rfl
      | some v =>
        have h1 := List.all_eq_true.mp h _ (List.mem_of_getElem? ho)
        simp only [Option.map_some]
        rw [z_v_ag hag h1]
/-- a new cell -/
theorem z_ws_push {ad : Nat → Nat} {cA : Nat → ClassId} {L : zL} {M : zM} (h2 : 2 ≤ L.length) (hL : L.all (z_cok L.length) = true) (q : Nat) (cQ : ClassId) (f : Nat → Int32) (c : (Nat × Nat) ⊕ (Nat × List (Option Value))) (e : va_E) (he : e = z_e (va_up ad L.length q) cQ f c) :
    z_ws ad cA L M ++ [(q, e)] = z_ws (va_up ad L.length q) (va_up cA L.length cQ) (L ++ [c]) (va_up M L.length f) := by
  apply List.ext_getElem?
  intro j
  have hag : ∀ p, p < L.length → va_up ad L.length q p = ad p := fun p hp => by simp [va_up, Nat.ne_of_lt hp]
  by_cases hj : j < L.length - 2
  · rw [List.getElem?_append_left (by rw [z_ws_len]; exact hj)]
    have hlt : j + 2 < L.length := by omega
    have h1 : L[j + 2]? = some L[j + 2] := List.getElem?_eq_getElem hlt
    have h3 : (L ++ [c])[j + 2]? = some L[j + 2] := by rw [List.getElem?_append_left hlt]; exact h1
    rw [show j = (j + 2) - 2 by omega, z_ws_at (by omega) h1, z_ws_at (by omega) h3]
    have h4 := List.all_eq_true.mp hL _ (List.mem_of_getElem? h1)
    rw [z_e_ag hag h4, hag _ hlt]
    simp [va_up, Nat.ne_of_lt hlt]
  · by_cases hj2 : j = L.length - 2
    · subst hj2
      rw [List.getElem?_append_right (by rw [z_ws_len]; omega), z_ws_len, Nat.sub_self]
      have h3 : (L ++ [c])[L.length]? = some c := by simp
      rw [z_ws_at h2 h3, he]
      simp [va_up]
    · rw [List.getElem?_eq_none (by simp [z_ws_len]; omega), List.getElem?_eq_none (by rw [z_ws_len]; simp; omega)]
theorem z_sz_app (L : zL) (c : (Nat × Nat) ⊕ (Nat × List (Option Value))) : z_sz (L ++ [c]) = z_sz L + z_sz [c] := by
  induction L with
  | nil => simp [z_sz]
  | cons a r ih => cases a <;> simp [z_sz, ih, Nat.add_assoc]
theorem z_sz_set {L : zL} {p ci : Nat} {fs fs' : List (Option Value)} (h : L[p]? = some (.inr (ci, fs))) (hl : fs'.length = fs.length) : z_sz (L.set p (.inr (ci, fs'))) = z_sz L := by
  induction L generalizing p with
  | nil => cases h
  | cons a r ih =>
    cases p with
    | zero =>
      simp only [List.getElem?_cons_zero, Option.some.injEq] at h
      subst h
      simp [z_sz, hl]
    | succ p =>
      have h' : r[p]? = some (.inr (ci, fs)) := h
      cases a <;> simp [z_sz, ih h']
/-- the locals -/
def z_Lo (ad : Nat → Nat) (ls : Array Slot) (lo : zO) : Prop := ls.size = lo.length ∧ lv_wf ls ∧ ∀ (i : Nat) (v : Value), lo[i]? = some (some v) → ls[i]? = some (.val (z_v ad v))
def z_as (ad : Nat → Nat) (lo : zO) : List (Nat × Value) := (List.range lo.length).filterMap (fun j => match lo[j]? with
  | some (some v) => some (j, z_v ad v)
  | _ => none)
theorem z_as_mem {ad : Nat → Nat} {lo : zO} {q : Nat × Value} : q ∈ z_as ad lo ↔ ∃ v, lo[q.1]? = some (some v) ∧ q.2 = z_v ad v := by
  unfold z_as
  rw [List.mem_filterMap]
  constructor
  · rintro ⟨j, hj, h⟩
    split at h
    · rename_i v hv
      cases h
      exact ⟨v, hv, rfl⟩
    · cases h
  · rintro ⟨v, hv, h2⟩
    refine ⟨q.1, List.mem_range.mpr (List.getElem?_eq_some_iff.mp hv).1, ?_⟩
    rw [hv]
    show some (q.1, z_v ad v) = some q
    rw [← h2]
theorem z_Lo_has {ad : Nat → Nat} {ls : Array Slot} {lo : zO} (h : z_Lo ad ls lo) : lv_has ls lo.length (z_as ad lo) := by
  refine ⟨h.1, h.2.1, fun q hq => ?_⟩
  obtain ⟨v, h1, h2⟩ := z_as_mem.mp hq
  rw [h2]
  exact h.2.2 _ _ h1
theorem z_Lo_set1 {ad : Nat → Nat} {ls' : Array Slot} {lo : zO} {i : Nat} {v : Value} (hn : z_n1 lo i = true)
    (h : lv_has ls' lo.length ((i, z_v ad v) :: (z_as ad lo).filter (fun q => !(q.1 == i) && !(q.1 + 1 == i && q.2.category == 2)))) : z_Lo ad ls' (lo.set i (some v)) := by
  refine ⟨by rw [h.1, List.length_set], h.2.1, fun j w hj => ?_⟩
  rw [List.getElem?_set] at hj
  by_cases e : i = j
  · subst e
    rw [if_pos rfl] at hj
    split at hj
    · cases hj
      exact h.2.2 _ List.mem_cons_self
    · cases hj
  · rw [if_neg e] at hj
    refine h.2.2 (j, z_v ad w) (List.mem_cons_of_mem _ (List.mem_filter.mpr ⟨z_as_mem.mpr ⟨w, hj, rfl⟩, ?_⟩))
    simp only [Bool.and_eq_true, Bool.not_eq_true', beq_eq_false_iff_ne, ne_eq, Bool.and_eq_false_iff]
    refine ⟨fun q => e q.symm, ?_⟩
    by_cases e2 : j + 1 = i
    · right
      subst e2
      unfold z_n1 at hn
      simp only [hj] at hn
      rw [z_v_cat]
      cases w <;> first | (cases hn; done) | (simp [Value.category]; done)
    · left; exact e2
theorem z_Lo_set2 {ad : Nat → Nat} {ls' : Array Slot} {lo : zO} {i : Nat} {v : Value} (hn : z_n1 lo i = true)
    (h : lv_has ls' lo.length ((i, z_v ad v) :: (z_as ad lo).filter (fun q => !(q.1 == i) && (!(q.1 == i + 1) && !(q.1 + 1 == i && q.2.category == 2))))) : z_Lo ad ls' ((lo.set i (some v)).set (i + 1) none) := by
  refine ⟨by rw [h.1, List.length_set, List.length_set], h.2.1, fun j w hj => ?_⟩
  rw [List.getElem?_set] at hj
  by_cases e0 : i + 1 = j
  · rw [if_pos e0] at hj
    split at hj <;> cases hj
  rw [if_neg e0, List.getElem?_set] at hj
  by_cases e : i = j
  · subst e
    rw [if_pos rfl] at hj
    split at hj
    · cases hj
      exact h.2.2 _ List.mem_cons_self
    · cases hj
  · rw [if_neg e] at hj
    refine h.2.2 (j, z_v ad w) (List.mem_cons_of_mem _ (List.mem_filter.mpr ⟨z_as_mem.mpr ⟨w, hj, rfl⟩, ?_⟩))
    simp only [Bool.and_eq_true, Bool.not_eq_true', beq_eq_false_iff_ne, ne_eq, Bool.and_eq_false_iff]
    refine ⟨fun q => e q.symm, fun q => e0 q.symm, ?_⟩
    by_cases e2 : j + 1 = i
    · right
      subst e2
      unfold z_n1 at hn
      simp only [hj] at hn
      rw [z_v_cat]
      cases w <;> first | (cases hn; done) | (simp [Value.category]; done)
    · left; exact e2
theorem z_Lo_ag {ad ad' : Nat → Nat} {n : Nat} (hag : ∀ p, p < n → ad' p = ad p) {ls : Array Slot} {lo : zO} (h : z_Lo ad ls lo) (ho : lo.all (z_ook n) = true) : z_Lo ad' ls lo := by
  refine ⟨h.1, h.2.1, fun i v hv => ?_⟩
  have h1 := List.all_eq_true.mp ho _ (List.mem_of_getElem? hv)
  rw [z_v_ag hag h1]
  exact h.2.2 i v hv
theorem z_Lo_fg {ad : Nat → Nat} {ls : Array Slot} : ∀ (ks : List Nat) {lo : zO}, z_Lo ad ls lo → z_Lo ad ls (z_fg ks lo)
  | [], _, h => h
  | k :: r, lo, h => z_Lo_fg r (lo := lo.set k none) ⟨by rw [List.length_set]; exact h.1, h.2.1, fun i v hi => by
      rw [List.getElem?_set] at hi
      by_cases e : k = i
      · rw [if_pos e] at hi
        split at hi <;> cases hi
      · rw [if_neg e] at hi
        exact h.2.2 i v hi⟩
theorem z_fg_len : ∀ (ks : List Nat) (lo : zO), (z_fg ks lo).length = lo.length
  | [], _ => rfl
  | k :: r, lo => by
    show (z_fg r (lo.set k none)).length = _
    rw [z_fg_len r, List.length_set]

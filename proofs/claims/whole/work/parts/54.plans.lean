/-! plans -/
def pBest (g : Nat → Option Nat) : Nat → Option (Nat × Nat)
  | 0 => none
  | n + 1 => match g n with
    | none => pBest g n
    | some v => match pBest g n with
      | none => some (n, v)
      | some q => if v < q.2 then some (n, v) else some q
def pE : Option (Nat × Nat) → Int32
  | none => 2147483647
  | some q => nI (64 * q.2 + q.1)
def pB : Option (Nat × Nat) → Int32
  | none => -1
  | some q => nI q.1
def pM : Option (Nat × Nat) → Int32
  | none => 999
  | some q => nI q.2
def pAns (p : Option (Nat × Nat)) (j : Nat) : Int32 := match p with
  | none => -1
  | some q => if j = 0 then nI q.1 else nI q.2
theorem pBest_no {g : Nat → Option Nat} {n : Nat} (h : g n = none) : pBest g (n + 1) = pBest g n := by
  rw [pBest, h]
theorem pBest_lt {g : Nat → Option Nat} : ∀ (n : Nat) (q : Nat × Nat), pBest g n = some q → q.1 < n ∧ g q.1 = some q.2
  | 0, q, h => by cases h
  | n + 1, q, h => by
    unfold pBest at h
    cases hg : g n with
    | none =>
      rw [hg] at h
      have := pBest_lt n q h
      exact ⟨by omega, this.2⟩
    | some v =>
      rw [hg] at h
      cases hp : pBest g n with
      | none =>
        rw [hp] at h
        cases h
        exact ⟨Nat.lt_succ_self n, hg⟩
      | some r =>
        rw [hp] at h
        simp only at h
        by_cases hv : v < r.2
        · rw [if_pos hv] at h
          cases h
          exact ⟨Nat.lt_succ_self n, hg⟩
        · rw [if_neg hv] at h
          have hh := Option.some.inj h
          have := pBest_lt n r hp
          rw [← hh]
          exact ⟨by omega, this.2⟩
theorem pBest_st {g : Nat → Option Nat} {n v : Nat} (hb : ∀ i v, g i = some v → v < 999) (h : g n = some v) : (pM (pBest g n) ≤ nI v ∧ pBest g (n + 1) = pBest g n) ∨ (¬ pM (pBest g n) ≤ nI v ∧ pBest g (n + 1) = some (n, v)) := by
  have hv := hb n v h
  rw [pBest, h]
  cases hp : pBest g n with
  | none => exact Or.inr ⟨nI_ge (a := v) (b := 999) hv (by omega), rfl⟩
  | some q =>
    have hq := hb _ _ (pBest_lt n q hp).2
    simp only
    by_cases hl : v < q.2
    · right
      exact ⟨nI_ge hl (by omega), by rw [if_pos hl]⟩
    · left
      exact ⟨nI_le (by omega) (by omega), by rw [if_neg hl]⟩
theorem pE_st {g : Nat → Option Nat} {n v : Nat} (hn : n < 64) (hb : ∀ i v, g i = some v → v < 999) (h : g n = some v) : (if nI v * 64 + nI n < pE (pBest g n) then nI v * 64 + nI n else pE (pBest g n)) = pE (pBest g (n + 1)) := by
  have hv := hb n v h
  have e : nI v * 64 + nI n = nI (64 * v + n) := by rw [show (64 : Int32) = nI 64 from rfl, pk_mul, nI_add, Nat.mul_comm]
  rw [e, pBest, h]
  cases hp : pBest g n with
  | none =>
    rw [if_pos (show nI (64 * v + n) < pE none from nI_lt (a := 64 * v + n) (b := 2147483647) (by omega) (by omega))]
    rfl
  | some q =>
    have hq := hb _ _ (pBest_lt n q hp).2
    have hq1 := (pBest_lt n q hp).1
    simp only
    by_cases hl : v < q.2
    · rw [if_pos hl, if_pos (show nI (64 * v + n) < pE (some q) from nI_lt (by omega) (by omega))]
      rfl
    · rw [if_neg hl, if_neg (show ¬ nI (64 * v + n) < pE (some q) from fun c => by
        have := (nI_ltI (a := 64 * v + n) (b := 64 * q.2 + q.1) (by omega) (by omega)).mp c
        omega)]
theorem pE_part (p : Option (Nat × Nat)) (j : Nat) (hj : j ≤ 1) (hp : ∀ q, p = some q → q.1 < 64 ∧ q.2 < 999) : (if pE p = 2147483647 then -1 else if nI j = 0 then pE p - pE p / 64 * 64 else pE p / 64) = pAns p j := by
  cases p with
  | none => rfl
  | some q =>
    obtain ⟨h1, h2⟩ := hp q rfl
    have e1 : ¬ pE (some q) = 2147483647 := fun c => by
      have := (nI_eq (a := 64 * q.2 + q.1) (b := 2147483647) (by omega) (by omega)).mp c
      omega
    have ed : pE (some q) / 64 = nI q.2 := by
      have := pk_div (a := 64 * q.2 + q.1) (d := 64) (by omega) (by omega) (by omega)
      rw [show (64 * q.2 + q.1) / 64 = q.2 by omega] at this
      exact this
    rw [if_neg e1, ed]
    rcases (show j = 0 ∨ j = 1 by omega) with r | r
    · subst r
      rw [if_pos (show nI 0 = 0 from rfl)]
      show nI (64 * q.2 + q.1) - nI q.2 * 64 = nI q.1
      rw [show (64 : Int32) = nI 64 from rfl, pk_mul, pk_sub (by omega)]
      congr 1
      omega
    · subst r
      rw [if_neg (by decide)]
      rfl
theorem pB_ne (p : Option (Nat × Nat)) (hp : ∀ q, p = some q → q.1 < 64) : (pB p = -1 ∧ p = none) ∨ (¬ pB p = -1 ∧ ∃ q, p = some q) := by
  cases p with
  | none => exact Or.inl ⟨rfl, rfl⟩
  | some q =>
    have := hp q rfl
    refine Or.inr ⟨fun c => ?_, q, rfl⟩
    have h1 : ¬ nI q.1 < 0 := nI_pos (by omega)
    rw [show nI q.1 = -1 from c] at h1
    exact h1 (by decide)
noncomputable section
/-- who runs short in a trial: in all, and one house -/
def tAll (w : Rw) (thL thP : Nat → Bool) (sh : Int32) (wd el : Nat → Int32) (st : Int32) : Nat := sm (fun h => cnt (tSh w thL thP sh wd el st h) (tN w)) 40
def tOne (w : Rw) (thL thP : Nat → Bool) (sh : Int32) (wd el : Nat → Int32) (st : Int32) (k : Nat) : Nat := cnt (fun h => tSh w thL thP sh wd el st h k) 40
end
theorem tAll_lt (w : Rw) (thL thP : Nat → Bool) (sh : Int32) (wd el : Nat → Int32) (st : Int32) : tAll w thL thP sh wd el st < 999 := by
  have h8 := tN8 w
  have := sm_le (f := fun h => cnt (tSh w thL thP sh wd el st h) (tN w)) (c := 8) 40 (fun j _ => Nat.le_trans (cnt_le _ _) h8)
  unfold tAll
  omega
theorem tOne_lt (w : Rw) (thL thP : Nat → Bool) (sh : Int32) (wd el : Nat → Int32) (st : Int32) (k : Nat) : tOne w thL thP sh wd el st k < 999 := by
  have := cnt_le (fun h => tSh w thL thP sh wd el st h k) 40
  unfold tOne
  omega
theorem cTr_of {w : Rw} {M N : zM} {thL thP : Nat → Bool} {sh : Int32} {wd el : Nat → Int32} {st : Int32} (h : cC w M) (s : ∀ p, 8 ≤ p → p ≤ 20 → p ≠ 11 → p ≠ 15 → N p = M p) (a9 : N 7 9 = M 7 9) (a13 : N 7 13 = M 7 13) (a4 : N 7 4 = M 7 4) (a5 : N 7 5 = M 7 5)
    (c1 : ∀ i, i < w.2 2 → mThB (N 7 10) i = thL i) (c2 : ∀ i, i < w.2 3 → mThB (N 7 14) i = thP i) (c3 : N 7 15 = sh) (c4 : ∀ k, k < tN w → N 11 k = wd k) (c5 : ∀ h, h < 40 → N 15 h = el h) (c6 : N 7 3 = st) : cTr w N 15 thL thP sh wd el st := by
  obtain ⟨⟨b0, b1, b2, b3, b4, b5, b6, b7, b8, b9, b10, b11⟩, -⟩ := cC_tr h
  refine ⟨⟨b0, by rw [s 8 (by omega) (by omega) (by omega) (by omega)]; exact b1, fun k hk => ?_, a9.trans b3, a13.trans b4, (s 16 (by omega) (by omega) (by omega) (by omega)).trans b5, (s 17 (by omega) (by omega) (by omega) (by omega)).trans b6, (s 18 (by omega) (by omega) (by omega) (by omega)).trans b7, (s 19 (by omega) (by omega) (by omega) (by omega)).trans b8, (s 20 (by omega) (by omega) (by omega) (by omega)).trans b9, a4.trans b10, a5.trans b11⟩, c1, c2, c3, c4, c5, c6⟩
  rw [s 9 (by omega) (by omega) (by omega) (by omega), s 10 (by omega) (by omega) (by omega) (by omega), s 14 (by omega) (by omega) (by omega) (by omega)]
  exact b2 k hk
theorem rTr_of {w : Rw} {M N : zM} {thL thP : Nat → Bool} {sh : Int32} {wd el : Nat → Int32} {st : Int32} (h : rTd w M) (s : ∀ p, 46 ≤ p → p < 60 → p ≠ 50 → N p = M p) (a2 : N 45 2 = M 45 2) (a11 : N 45 11 = M 45 11) (a15 : N 45 15 = M 45 15)
    (c1 : ∀ i, i < w.2 2 → mThN (N 45 19) i = thL i) (c2 : ∀ i, i < w.2 3 → mThN (N 45 20) i = thP i) (c3 : N 45 21 = sh) (c4 : ∀ k, k < tN w → N 50 k = wd k) (c5 : ∀ h, h < 40 → N 60 h = el h) (c6 : N 45 22 = st) : rTr w N thL thP sh wd el st := by
  obtain ⟨⟨⟨b0, b1, b2, b3, b4, b5, b6, b7, b8, b9, b10, b11⟩, -⟩, -⟩ := h
  refine ⟨⟨b0, a2.trans b1, fun k hk => ?_, a11.trans b3, a15.trans b4, (s 55 (by omega) (by omega) (by omega)).trans b5, (s 56 (by omega) (by omega) (by omega)).trans b6, (s 57 (by omega) (by omega) (by omega)).trans b7, (s 58 (by omega) (by omega) (by omega)).trans b8, (s 59 (by omega) (by omega) (by omega)).trans b9, by rw [s 54 (by omega) (by omega) (by omega)]; exact b10, by rw [s 54 (by omega) (by omega) (by omega)]; exact b11⟩, c1, c2, c3, c4, c5, c6⟩
  rw [s 48 (by omega) (by omega) (by omega), s 49 (by omega) (by omega) (by omega), s 51 (by omega) (by omega) (by omega), s 52 (by omega) (by omega) (by omega)]
  exact b2 k hk
/-- the tried course alone has changed -/
abbrev kpT (M M' : zM) : Prop := ∀ p, p ≤ 28 ∨ 34 < p → M' p = M p
theorem cI_kpT {w : Rw} {M M' : zM} (h : cI w M) (s : kpT M M') : cI w M' := ⟨cC_sm h.1 ⟨fun p _ _ => s p (by omega), fun p _ _ => s p (by omega), by rw [s 2 (by omega)], by rw [s 2 (by omega)]⟩, cT_kp h.2.1 (by rw [s 2 (by omega)]) (fun p _ _ => s p (by omega)), cL_kp h.2.2 (by rw [s 2 (by omega)]) (s 35 (by omega))⟩
/-- the reference's trial cells alone have changed, and what is as told again -/
abbrev rkT (f : Nat) (M M' : zM) : Prop := (∀ p, p ≠ 45 → p < 61 ∨ 66 < p → M' p = M p) ∧ ∀ j, j ≠ f → j ≠ 23 → M' 45 j = M 45 j
theorem rSm_rkT {f : Nat} {M M' : zM} (h : rkT f M M') (h11 : 11 ≠ f) (h15 : 15 ≠ f) (h30 : 30 ≠ f) (h40 : 40 ≠ f) : rSm M M' := ⟨fun p hp => h.1 p (by omega) (by omega), h.2 11 h11 (by omega), h.2 15 h15 (by omega), h.2 30 h30 (by omega), h.2 40 h40 (by omega)⟩
/-- one more in one hour -/
def eUp (f : Nat → Int32) (h : Nat) : Nat → Int32 := upd f h (f h + 1)
theorem upd_eq {f : Nat → Int32} {i : Nat} {x : Int32} : upd f i x i = x := by simp [upd]
theorem upd_ne {f : Nat → Int32} {i j : Nat} {x : Int32} (h : j ≠ i) : upd f i x j = f j := by simp [upd, h]
/-- the town's cell has changed in its place j alone, the tried course besides -/
abbrev kpU (j : Nat) (M M' : zM) : Prop := (∀ p, p ≠ 7 → p ≤ 28 ∨ 34 < p → M' p = M p) ∧ ∀ i, i ≠ j → M' 7 i = M 7 i
theorem kpU_rf (j : Nat) (M : zM) : kpU j M M := ⟨fun _ _ _ => rfl, fun _ _ => rfl⟩
theorem kpU_fol {j : Nat} {v : Int32} {M M' M2 : zM} (h : kpU j M M') (q : ∀ p, p ≤ 28 ∨ 34 < p → M2 p = va_up M' 7 (upd (M' 7) j v) p) : kpU j M M2 := ⟨fun p h7 hp => by rw [q p hp, z_un h7]; exact h.1 p h7 hp, fun i hi => by rw [q 7 (by omega), z_us, upd_ne hi]; exact h.2 i hi⟩
theorem kpU_end {j : Nat} {x : Int32} {M M' : zM} (h : kpU j M M') (e : M 7 j = x) : kpT M (va_up M' 7 (upd (M' 7) j x)) := fun p hp => by
  by_cases h7 : p = 7
  · subst h7
    rw [z_us]
    funext i
    by_cases e2 : i = j
    · subst e2; rw [upd_eq, e]
    · rw [upd_ne e2]; exact h.2 i e2
  · rw [z_un h7]; exact h.1 p h7 hp
theorem rkT_rf (f : Nat) (M : zM) : rkT f M M := ⟨fun _ _ _ => rfl, fun _ _ _ => rfl⟩
theorem rkT_run {f : Nat} {v z : Int32} {M M' M2 : zM} (h : rkT f M M') (q1 : M2 45 = upd (va_up M' 45 (upd (M' 45) f v) 45) 23 z) (q2 : ∀ p, p ≠ 45 → p < 61 ∨ 66 < p → M2 p = va_up M' 45 (upd (M' 45) f v) p) : rkT f M M2 := ⟨fun p h45 hp => by rw [q2 p h45 hp, z_un h45]; exact h.1 p h45 hp, fun j hj h23 => by rw [q1, upd_ne h23, z_us, upd_ne hj]; exact h.2 j hj h23⟩
theorem cTr_3 {w : Rw} {M M' : zM} {v : Int32} (h : cC w M) (k : kpU 3 M M') : cTr w (va_up M' 7 (upd (M' 7) 3 v)) 15 allB allB (-1) (pWd (w.1 1) (w.2 0)) (eEl (w.1 2) (w.2 1)) v := by
  obtain ⟨-, b1, b2, b3, b4, b5, b6⟩ := cC_tr h
  refine cTr_of h (fun p p1 p2 p3 p4 => by rw [z_un (by omega)]; exact k.1 p (by omega) (by omega)) ?_ ?_ ?_ ?_ ?_ ?_ ?_ ?_ ?_ ?_
  · show M' 7 9 = _; exact k.2 9 (by omega)
  · show M' 7 13 = _; exact k.2 13 (by omega)
  · show M' 7 4 = _; exact k.2 4 (by omega)
  · show M' 7 5 = _; exact k.2 5 (by omega)
  · intro i hi; show mThB (M' 7 10) i = _; rw [k.2 10 (by omega)]; exact b1 i hi
  · intro i hi; show mThB (M' 7 14) i = _; rw [k.2 14 (by omega)]; exact b2 i hi
  · show M' 7 15 = _; rw [k.2 15 (by omega)]; exact b3
  · intro q hq; show M' 11 q = _; rw [k.1 11 (by omega) (by omega)]; exact b4 q hq
  · intro q hq; show M' 15 q = _; rw [k.1 15 (by omega) (by omega)]; exact b5 q hq
  · rfl
theorem cTr_10 {w : Rw} {M M' : zM} {v : Int32} (h : cC w M) (k : kpU 10 M M') {thL : Nat → Bool} (hth : ∀ i, i < w.2 2 → mThB v i = thL i) : cTr w (va_up M' 7 (upd (M' 7) 10 v)) 15 thL allB (-1) (pWd (w.1 1) (w.2 0)) (eEl (w.1 2) (w.2 1)) (w.1 0 0) := by
  obtain ⟨-, b1, b2, b3, b4, b5, b6⟩ := cC_tr h
  refine cTr_of h (fun p p1 p2 p3 p4 => by rw [z_un (by omega)]; exact k.1 p (by omega) (by omega)) ?_ ?_ ?_ ?_ ?_ ?_ ?_ ?_ ?_ ?_
  · show M' 7 9 = _; exact k.2 9 (by omega)
  · show M' 7 13 = _; exact k.2 13 (by omega)
  · show M' 7 4 = _; exact k.2 4 (by omega)
  · show M' 7 5 = _; exact k.2 5 (by omega)
  · exact hth
  · intro i hi; show mThB (M' 7 14) i = _; rw [k.2 14 (by omega)]; exact b2 i hi
  · show M' 7 15 = _; rw [k.2 15 (by omega)]; exact b3
  · intro q hq; show M' 11 q = _; rw [k.1 11 (by omega) (by omega)]; exact b4 q hq
  · intro q hq; show M' 15 q = _; rw [k.1 15 (by omega) (by omega)]; exact b5 q hq
  · show M' 7 3 = _; rw [k.2 3 (by omega)]; exact b6
theorem cTr_14 {w : Rw} {M M' : zM} {v : Int32} (h : cC w M) (k : kpU 14 M M') {thP : Nat → Bool} (hth : ∀ i, i < w.2 3 → mThB v i = thP i) : cTr w (va_up M' 7 (upd (M' 7) 14 v)) 15 allB thP (-1) (pWd (w.1 1) (w.2 0)) (eEl (w.1 2) (w.2 1)) (w.1 0 0) := by
  obtain ⟨-, b1, b2, b3, b4, b5, b6⟩ := cC_tr h
  refine cTr_of h (fun p p1 p2 p3 p4 => by rw [z_un (by omega)]; exact k.1 p (by omega) (by omega)) ?_ ?_ ?_ ?_ ?_ ?_ ?_ ?_ ?_ ?_
  · show M' 7 9 = _; exact k.2 9 (by omega)
  · show M' 7 13 = _; exact k.2 13 (by omega)
  · show M' 7 4 = _; exact k.2 4 (by omega)
  · show M' 7 5 = _; exact k.2 5 (by omega)
  · intro i hi; show mThB (M' 7 10) i = _; rw [k.2 10 (by omega)]; exact b1 i hi
  · exact hth
  · show M' 7 15 = _; rw [k.2 15 (by omega)]; exact b3
  · intro q hq; show M' 11 q = _; rw [k.1 11 (by omega) (by omega)]; exact b4 q hq
  · intro q hq; show M' 15 q = _; rw [k.1 15 (by omega) (by omega)]; exact b5 q hq
  · show M' 7 3 = _; rw [k.2 3 (by omega)]; exact b6
theorem cTr_15 {w : Rw} {M M' : zM} {v : Int32} (h : cC w M) (k : kpU 15 M M') : cTr w (va_up M' 7 (upd (M' 7) 15 v)) 15 allB allB v (pWd (w.1 1) (w.2 0)) (eEl (w.1 2) (w.2 1)) (w.1 0 0) := by
  obtain ⟨-, b1, b2, b3, b4, b5, b6⟩ := cC_tr h
  refine cTr_of h (fun p p1 p2 p3 p4 => by rw [z_un (by omega)]; exact k.1 p (by omega) (by omega)) ?_ ?_ ?_ ?_ ?_ ?_ ?_ ?_ ?_ ?_
  · show M' 7 9 = _; exact k.2 9 (by omega)
  · show M' 7 13 = _; exact k.2 13 (by omega)
  · show M' 7 4 = _; exact k.2 4 (by omega)
  · show M' 7 5 = _; exact k.2 5 (by omega)
  · intro i hi; show mThB (M' 7 10) i = _; rw [k.2 10 (by omega)]; exact b1 i hi
  · intro i hi; show mThB (M' 7 14) i = _; rw [k.2 14 (by omega)]; exact b2 i hi
  · rfl
  · intro q hq; show M' 11 q = _; rw [k.1 11 (by omega) (by omega)]; exact b4 q hq
  · intro q hq; show M' 15 q = _; rw [k.1 15 (by omega) (by omega)]; exact b5 q hq
  · show M' 7 3 = _; rw [k.2 3 (by omega)]; exact b6
theorem rTr_22 {w : Rw} {M M' : zM} {v : Int32} (h : rTd w M) (k : rkT 22 M M') : rTr w (va_up M' 45 (upd (M' 45) 22 v)) allB allB (-1) (pWd (w.1 1) (w.2 0)) (eEl (w.1 2) (w.2 1)) v := by
  obtain ⟨⟨-, b1, b2, b3, b4, b5, b6⟩, -⟩ := id h
  refine rTr_of h (fun p p1 p2 p3 => by rw [z_un (by omega)]; exact k.1 p (by omega) (by omega)) ?_ ?_ ?_ ?_ ?_ ?_ ?_ ?_ ?_
  · show M' 45 2 = _; exact k.2 2 (by omega) (by omega)
  · show M' 45 11 = _; exact k.2 11 (by omega) (by omega)
  · show M' 45 15 = _; exact k.2 15 (by omega) (by omega)
  · intro i hi; show mThN (M' 45 19) i = _; rw [k.2 19 (by omega) (by omega)]; exact b1 i hi
  · intro i hi; show mThN (M' 45 20) i = _; rw [k.2 20 (by omega) (by omega)]; exact b2 i hi
  · show M' 45 21 = _; rw [k.2 21 (by omega) (by omega)]; exact b3
  · intro q hq; show M' 50 q = _; rw [k.1 50 (by omega) (by omega)]; exact b4 q hq
  · intro q hq; show M' 60 q = _; rw [k.1 60 (by omega) (by omega)]; exact b5 q hq
  · rfl
theorem rTr_19 {w : Rw} {M M' : zM} {v : Int32} (h : rTd w M) (k : rkT 19 M M') {thL : Nat → Bool} (hth : ∀ i, i < w.2 2 → mThN v i = thL i) : rTr w (va_up M' 45 (upd (M' 45) 19 v)) thL allB (-1) (pWd (w.1 1) (w.2 0)) (eEl (w.1 2) (w.2 1)) (w.1 0 0) := by
  obtain ⟨⟨-, b1, b2, b3, b4, b5, b6⟩, -⟩ := id h
  refine rTr_of h (fun p p1 p2 p3 => by rw [z_un (by omega)]; exact k.1 p (by omega) (by omega)) ?_ ?_ ?_ ?_ ?_ ?_ ?_ ?_ ?_
  · show M' 45 2 = _; exact k.2 2 (by omega) (by omega)
  · show M' 45 11 = _; exact k.2 11 (by omega) (by omega)
  · show M' 45 15 = _; exact k.2 15 (by omega) (by omega)
  · exact hth
  · intro i hi; show mThN (M' 45 20) i = _; rw [k.2 20 (by omega) (by omega)]; exact b2 i hi
  · show M' 45 21 = _; rw [k.2 21 (by omega) (by omega)]; exact b3
  · intro q hq; show M' 50 q = _; rw [k.1 50 (by omega) (by omega)]; exact b4 q hq
  · intro q hq; show M' 60 q = _; rw [k.1 60 (by omega) (by omega)]; exact b5 q hq
  · show M' 45 22 = _; rw [k.2 22 (by omega) (by omega)]; exact b6
theorem rTr_20 {w : Rw} {M M' : zM} {v : Int32} (h : rTd w M) (k : rkT 20 M M') {thP : Nat → Bool} (hth : ∀ i, i < w.2 3 → mThN v i = thP i) : rTr w (va_up M' 45 (upd (M' 45) 20 v)) allB thP (-1) (pWd (w.1 1) (w.2 0)) (eEl (w.1 2) (w.2 1)) (w.1 0 0) := by
  obtain ⟨⟨-, b1, b2, b3, b4, b5, b6⟩, -⟩ := id h
  refine rTr_of h (fun p p1 p2 p3 => by rw [z_un (by omega)]; exact k.1 p (by omega) (by omega)) ?_ ?_ ?_ ?_ ?_ ?_ ?_ ?_ ?_
  · show M' 45 2 = _; exact k.2 2 (by omega) (by omega)
  · show M' 45 11 = _; exact k.2 11 (by omega) (by omega)
  · show M' 45 15 = _; exact k.2 15 (by omega) (by omega)
  · intro i hi; show mThN (M' 45 19) i = _; rw [k.2 19 (by omega) (by omega)]; exact b1 i hi
  · exact hth
  · show M' 45 21 = _; rw [k.2 21 (by omega) (by omega)]; exact b3
  · intro q hq; show M' 50 q = _; rw [k.1 50 (by omega) (by omega)]; exact b4 q hq
  · intro q hq; show M' 60 q = _; rw [k.1 60 (by omega) (by omega)]; exact b5 q hq
  · show M' 45 22 = _; rw [k.2 22 (by omega) (by omega)]; exact b6
theorem rTr_21 {w : Rw} {M M' : zM} {v : Int32} (h : rTd w M) (k : rkT 21 M M') : rTr w (va_up M' 45 (upd (M' 45) 21 v)) allB allB v (pWd (w.1 1) (w.2 0)) (eEl (w.1 2) (w.2 1)) (w.1 0 0) := by
  obtain ⟨⟨-, b1, b2, b3, b4, b5, b6⟩, -⟩ := id h
  refine rTr_of h (fun p p1 p2 p3 => by rw [z_un (by omega)]; exact k.1 p (by omega) (by omega)) ?_ ?_ ?_ ?_ ?_ ?_ ?_ ?_ ?_
  · show M' 45 2 = _; exact k.2 2 (by omega) (by omega)
  · show M' 45 11 = _; exact k.2 11 (by omega) (by omega)
  · show M' 45 15 = _; exact k.2 15 (by omega) (by omega)
  · intro i hi; show mThN (M' 45 19) i = _; rw [k.2 19 (by omega) (by omega)]; exact b1 i hi
  · intro i hi; show mThN (M' 45 20) i = _; rw [k.2 20 (by omega) (by omega)]; exact b2 i hi
  · rfl
  · intro q hq; show M' 50 q = _; rw [k.1 50 (by omega) (by omega)]; exact b4 q hq
  · intro q hq; show M' 60 q = _; rw [k.1 60 (by omega) (by omega)]; exact b5 q hq
  · show M' 45 22 = _; rw [k.2 22 (by omega) (by omega)]; exact b6
noncomputable section
def gElbow (w : Rw) (h : Nat) : Option Nat := some (tAll w allB allB (-1) (pWd (w.1 1) (w.2 0)) (eUp (eEl (w.1 2) (w.2 1)) h) (w.1 0 0))
def aElbow (w : Rw) (x : Int32) : Int32 := if 0 ≤ x ∧ x ≤ 1 then pAns (pBest (gElbow w) 40) x.toNatClampNeg else -2
end
theorem gElbow_lt (w : Rw) : ∀ i v, gElbow w i = some v → v < 999 := fun i v h => by
  cases h
  exact tAll_lt _ _ _ _ _ _ _
set_option maxRecDepth 10000 in
set_option maxHeartbeats 1000000 in
theorem d5_bestElbow (n : Nat) (M : zM) (w : Rw) (hI : cI w M) : zMet zi_X5_bestElbow [.ref 2] (zLay n 15) M (zLay n 15) (zr (some (.int (pE (pBest (gElbow w) 40)))) (fun M' => cI w M' ∧ ∀ p, 45 ≤ p → M' p = M p)) := by
  refine z_mr (zk_X5_bestElbow _ _) rfl (Nat.le_of_ble_eq_true rfl) rfl (fun ret hret => ?_)
  have loop := z_l2 (P := zp_X5_bestElbow) (ret := ret) (pc := 5) (L := zLay n 15) (N := 40) (lo := fun b x => [some (.ref 2), some (.int b), some (.int x)]) (I := fun h b x M' => kpT M M' ∧ b = pE (pBest (gElbow w) h) ∧ x = nI h) (by
    rintro h b x M' hh ⟨hM, rfl, rfl⟩ ih
    have hch : (nI h).toNatClampNeg = h := z_cl (by omega)
    have ht : cTr w (va_up M' 15 (upd (M' 15) (nI h).toNatClampNeg (M' 15 (nI h).toNatClampNeg + 1))) 15 allB allB (-1) (pWd (w.1 1) (w.2 0)) (eUp (eEl (w.1 2) (w.2 1)) h) (w.1 0 0) := by
      rw [hch]
      obtain ⟨-, b1, b2, b3, b4, b5, b6⟩ := cC_tr hI.1
      refine cTr_of hI.1 (fun p p1 p2 p3 p4 => by rw [z_un p4]; exact hM p (by omega)) ?_ ?_ ?_ ?_ ?_ ?_ ?_ ?_ ?_ ?_
      · show M' 7 9 = _; rw [hM 7 (by omega)]
      · show M' 7 13 = _; rw [hM 7 (by omega)]
      · show M' 7 4 = _; rw [hM 7 (by omega)]
      · show M' 7 5 = _; rw [hM 7 (by omega)]
      · show ∀ i, i < w.2 2 → mThB (M' 7 10) i = allB i; rw [hM 7 (by omega)]; exact b1
      · show ∀ i, i < w.2 3 → mThB (M' 7 14) i = allB i; rw [hM 7 (by omega)]; exact b2
      · show M' 7 15 = _; rw [hM 7 (by omega)]; exact b3
      · show ∀ k, k < tN w → M' 11 k = _; rw [hM 11 (by omega)]; exact b4
      · intro t ht
        rw [z_us, hM 15 (by omega)]
        unfold eUp
        by_cases e : t = h
        · subst e
          rw [upd_eq, upd_eq, b5 t ht]
        · rw [upd_ne e, upd_ne e, b5 t ht]
      · show M' 7 3 = _; rw [hM 7 (by omega)]; exact b6
    refine z_go ?_
    refine z_bf (nI_ge (a := h) (b := 40) hh (by omega)) ?_
    refine And.intro (z_inN0 (by omega) (by omega)) ?_
    refine And.intro (z_inN0 (by omega) (by omega)) ?_
    refine z_cx (d_fol28_15 n _ (ht)) (fun M2 h2 => ?_)
    obtain ⟨q1, q2⟩ := h2
    refine And.intro (z_inN0 (by omega) (by omega)) ?_
    refine And.intro (z_inN0 (by omega) (by omega)) ?_
    refine z_ca (c0_shortsInAll28 n 15 _ (tN w) _ (tN8 w) (fun t ht => (show M2 32 t = _ from crs_sh q2 t ht))) ?_
    refine ih _ _ _ ⟨?_, ?_, nI_1 h⟩
    · intro p hp
      by_cases e : p = 15
      · subst e
        rw [z_us, q1 15 (by omega), z_us, fa_upd_twice, upd_eq]
        show upd (M' 15) _ (M' 15 (nI h).toNatClampNeg + 1 - 1) = _
        rw [Int32.add_sub_cancel, ← hM 15 (by omega)]
        exact fa_upd_same rfl
      · rw [z_un e, q1 p hp, z_un e]
        exact hM p hp
    · exact pE_st (by omega) (gElbow_lt w) rfl) (by
    rintro b x M' ⟨hM, rfl, rfl⟩
    refine z_go ?_
    refine z_bt (nI_le (a := 40) (b := 40) (Nat.le_refl _) (by omega)) ?_
    refine z_go ?_
    exact z_rq hret rfl ⟨cI_kpT hI hM, fun p hp => hM p (by omega)⟩)
  exact loop 0 _ _ _ (Nat.zero_le _) ⟨fun _ _ => rfl, rfl, rfl⟩
set_option maxRecDepth 10000 in
set_option maxHeartbeats 1000000 in
theorem e5_elbow (n : Nat) (M : zM) (w : Rw) (hI : cI w M) (x : Int32) : zMet zi_X5_elbow [.ref 2, .int x] (zLay n 15) M (zLay n 15) (zr (some (.int (aElbow w x))) (fun M' => cI w M' ∧ ∀ p, 45 ≤ p → M' p = M p)) := by
  refine z_mr (zk_X5_elbow _ _) rfl (Nat.le_of_ble_eq_true rfl) rfl (fun ret hret => ?_)
  by_cases hx : 0 ≤ x ∧ x ≤ 1
  · obtain ⟨j, hj, rfl⟩ := rg 1 rfl (by omega) hx
    refine z_ca (z_cv 1 (c5_within _ _ _ _ _ (Nat.le_of_ble_eq_true rfl)) (zb_1 hx)) ?_
    refine z_bf (by decide) ?_
    refine z_cx (d5_bestElbow n M w hI) (fun M1 h1 => ?_)
    refine z_ca (z_cv _ (c5_partOf _ _ _ _ (Nat.le_of_ble_eq_true rfl)) (pE_part _ j hj (fun q hq => ⟨by have := (pBest_lt 40 q hq).1; omega, gElbow_lt w _ _ (pBest_lt 40 q hq).2⟩))) ?_
    refine z_go ?_
    exact z_rq hret (z_vi (by rw [aElbow, if_pos hx, z_cl (by omega)])) h1
  · refine z_ca (z_cv 0 (c5_within _ _ _ _ _ (Nat.le_of_ble_eq_true rfl)) (zb_0 hx)) ?_
    refine z_bt (by decide) ?_
    refine z_go ?_
    exact z_rq hret (z_vi (by rw [aElbow, if_neg hx])) ⟨hI, fun _ _ => rfl⟩

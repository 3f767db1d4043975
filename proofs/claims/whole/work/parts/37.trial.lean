/-! what is told, and what would come if it were otherwise: one course for class and reference -/
theorem pGo_ok {f : Nat → Int32} {n : Nat} : ∀ (g h : Nat), (pGo f n g h (pPos f n h)).2 ≠ 0 → (pGo f n g h (pPos f n h)).2 ≤ 8 ∧ h < (pGo f n g h (pPos f n h)).2 ∧ ∀ k, h ≤ k → k < (pGo f n g h (pPos f n h)).2 → ¬ pFail f n k (pPos f n k) < 4
  | 0, h, q => absurd rfl q
  | g + 1, h, q => by
    unfold pGo at q ⊢
    by_cases c : pFail f n h (pPos f n h) < 4
    · rw [if_pos c] at q; exact absurd rfl q
    · rw [if_neg c] at q ⊢
      by_cases c2 : pPos f n h + 3 + pLen f n (pPos f n h) = n
      · rw [if_pos c2] at q ⊢
        have h8 := (pFail_4 c).1.1
        refine ⟨by show h + 1 ≤ 8; omega, by show h < h + 1; omega, fun k k1 k2 => ?_⟩
        have e : k = h := by have : k < h + 1 := k2; omega
        rw [e]; exact c
      · rw [if_neg c2] at q ⊢
        by_cases c3 : f (pPos f n h + 3 + pLen f n (pPos f n h)) = 59
        · rw [if_pos c3] at q ⊢
          have ih := pGo_ok g (h + 1) q
          refine ⟨ih.1, Nat.lt_of_succ_lt ih.2.1, fun k k1 k2 => ?_⟩
          by_cases e : k = h
          · rw [e]; exact c
          · exact ih.2.2 k (by omega) k2
        · rw [if_neg c3] at q; exact absurd rfl q
theorem pRes_ok (f : Nat → Int32) (n : Nat) : (pRes f n).2 ≤ 8 ∧ ∀ k, k < (pRes f n).2 → ¬ pFail f n k (pPos f n k) < 4 := by
  unfold pRes
  by_cases h : n = 0
  · rw [if_pos h]; exact ⟨Nat.zero_le _, fun k hk => absurd hk (Nat.not_lt_zero k)⟩
  · rw [if_neg h]
    by_cases q : (pGo f n 9 0 (pPos f n 0)).2 = 0
    · have q' : (pGo f n 9 0 0).2 = 0 := q
      rw [q']; exact ⟨Nat.zero_le _, fun k hk => absurd hk (Nat.not_lt_zero k)⟩
    · have z := pGo_ok 9 0 q
      exact ⟨z.1, fun k hk => z.2.2 k (Nat.zero_le _) hk⟩
theorem pOn_ok (f : Nat → Int32) (n : Nat) : mOn (pRes f n).2 (pOn f n) := by
  intro j hj
  have z := (pFail_4 ((pRes_ok f n).2 j hj)).1
  have h8 := z.1
  unfold pOn
  by_cases e : f (pPos f n j) = 46
  · left; rw [if_pos e]
  · right
    rw [if_neg e]
    rcases z.2.2 with q | ⟨q1, q2⟩
    · exact absurd q e
    · by_cases j0 : j = 0
      · subst j0
        have : (0 : Int32) ≤ nI 0 - 1 := by rw [fa_le] at *; omega
        exact absurd this (by decide)
      · have e1 : nI j - 1 = nI (j - 1) := by rw [show (1 : Int32) = nI 1 from rfl, pk_sub (by omega)]
        rw [e1] at q2
        obtain ⟨i, hi, e2⟩ := nI_of2 (nI_toInt (n := j - 1) (by omega)) (Int32.not_lt.mpr q1) q2
        exact ⟨i, by omega, e2⟩
theorem pDn_ok (f : Nat → Int32) (n : Nat) {k i : Nat} (hk : k < (pRes f n).2) (hi : i < pLn f n k) : pDn f n k i = 0 ∨ pDn f n k i = 1 ∨ pDn f n k i = 2 := by
  have z := (pFail_4 ((pRes_ok f n).2 k hk)).2.2.2
  have q := (pLen_in z.1 z.2 hi).2
  unfold pDn
  rcases pWh_3 (f (pPos f n k + 3 + i)) with e | e
  · exact absurd e q
  · exact e
theorem pLn_1 (f : Nat → Int32) (n k : Nat) : 1 ≤ pLn f n k ∧ pLn f n k ≤ 3 := pLen_1 f n _
theorem mNeed_sh {d : Int32} (h : d = 0 ∨ d = 1 ∨ d = 2) : mNeed d = 1 <<< (d &&& 31) := by
  rcases h with e | e | e <;> subst e <;> decide
theorem mLk_cong {th th' : Nat → Bool} {fr mu pa : Nat → Int32} {h : Int32} : ∀ k, (∀ i, i < k → th i = th' i) → mLk th fr mu pa h k = mLk th' fr mu pa h k
  | 0, _ => rfl
  | k + 1, e => by
    unfold mLk
    rw [mLk_cong k (fun i hi => e i (by omega)), e k (by omega)]
theorem mPn_cong {th th' : Nat → Bool} {ph pq : Nat → Int32} {h : Int32} {j : Nat} : ∀ k, (∀ i, i < k → th i = th' i) → mPn th ph pq h j k = mPn th' ph pq h j k
  | 0, _ => rfl
  | k + 1, e => by
    unfold mPn
    rw [mPn_cong k (fun i hi => e i (by omega)), e k (by omega)]
/-- what is told: cells r (0: start, room, lift, finding; 1, 2: the texts; 3..5 leaks; 6, 7 pinches; 8..10 what was seen; 11..14 sheets) and numbers q (0, 1: the texts' sizes; 2 leaks; 3 pinches; 4 seen) -/
abbrev Rw : Type := (Nat → Nat → Int32) × (Nat → Nat)
noncomputable section
def tN (w : Rw) : Nat := (pRes (w.1 1) (w.2 0)).2
def tNd (w : Rw) (h k : Nat) : Int32 := 1 <<< (pDn (w.1 1) (w.2 0) k (h % pLn (w.1 1) (w.2 0) k) &&& 31)
def tOp (w : Rw) (thP : Nat → Bool) (sh : Int32) (wd : Nat → Int32) (h j : Nat) : Int32 := if nI j = sh ∨ mPn thP (w.1 6) (w.1 7) (nI h) j (w.2 3) = true then 0 else wd j
def tLk (w : Rw) (thL : Nat → Bool) (h : Nat) : Int32 := mLk thL (w.1 3) (w.1 4) (w.1 5) (nI h) (w.2 2)
/-- the hours, if these leaks and pinches are there, that house is shut, the pipes are so wide, the elbows so many, the start so much -/
def tHr (w : Rw) (thL thP : Nat → Bool) (sh : Int32) (wd el : Nat → Int32) (st : Int32) : Nat → Int32 × Int32 × Int32 × Int32 × (Nat → Int32) :=
  mHour (tN w) (pOn (w.1 1) (w.2 0)) (pNt (w.1 1) (w.2 0)) (tNd w) (tOp w thP sh wd) (tLk w thL) el st (w.1 0 1) (w.1 0 2)
/-- who is short in which hour -/
def tSh (w : Rw) (thL thP : Nat → Bool) (sh : Int32) (wd el : Nat → Int32) (st : Int32) (h k : Nat) : Bool := decide ((tHr w thL thP sh wd el st h).2.2.2.2 k < tNd w h k)
end
theorem tHr_short (w : Rw) (thL thP : Nat → Bool) (sh : Int32) (wd el : Nat → Int32) (st : Int32) (h : Nat) : (tHr w thL thP sh wd el st h).2.2.2.1 = nI (bw (tSh w thL thP sh wd el st h) (tN w)) := mHour_short (tN w) (pRes_ok _ _).1 _ _ _ _ _ _ _ _ _ h
/-- the class's town, but for what a trial changes -/
def cB (w : Rw) (M : zM) : Prop :=
  (w.2 2 ≤ 6 ∧ w.2 3 ≤ 6 ∧ ∀ i, i < w.2 3 → ∃ q, q < 8 ∧ w.1 7 i = nI q) ∧ M 8 6 = nI (tN w) ∧ (∀ k, k < tN w → M 9 k = pOn (w.1 1) (w.2 0) k ∧ M 10 k = pNt (w.1 1) (w.2 0) k ∧ ∀ t, t < 40 → M 14 (8 * t + k) = pDn (w.1 1) (w.2 0) k (t % pLn (w.1 1) (w.2 0) k)) ∧ M 7 9 = nI (w.2 2) ∧ M 7 13 = nI (w.2 3) ∧ M 16 = w.1 3 ∧ M 17 = w.1 4 ∧ M 18 = w.1 5 ∧ M 19 = w.1 6 ∧ M 20 = w.1 7 ∧ M 7 4 = w.1 0 1 ∧ M 7 5 = w.1 0 2
def cTr (w : Rw) (M : zM) (eb : Nat) (thL thP : Nat → Bool) (sh : Int32) (wd el : Nat → Int32) (st : Int32) : Prop :=
  cB w M ∧ (∀ i, i < w.2 2 → mThB (M 7 10) i = thL i) ∧ (∀ i, i < w.2 3 → mThB (M 7 14) i = thP i) ∧ M 7 15 = sh ∧ (∀ k, k < tN w → M 11 k = wd k) ∧ (∀ h, h < 40 → M eb h = el h) ∧ M 7 3 = st
theorem cTr_tw {w : Rw} {M : zM} {eb : Nat} {thL thP : Nat → Bool} {sh : Int32} {wd el : Nat → Int32} {st : Int32} (h : cTr w M eb thL thP sh wd el st) : cTw M (tN w) (w.2 2) (w.2 3) (tNd w) (tOp w thP sh wd) (tLk w thL) := by
  obtain ⟨⟨⟨a1, a2, a3⟩, b1, b2, b3, b4, b5, b6, b7, b8, b9, b10, b11⟩, c1, c2, c3, c4, c5, c6⟩ := h
  refine ⟨(pRes_ok _ _).1, b1, ?_, a1, b3, a2, b4, by rw [b9]; exact a3, fun t ht k hk => ?_, fun t ht j hj => ?_, fun t ht => ?_⟩
  · intro j hj
    have := pOn_ok (w.1 1) (w.2 0) j hj
    rw [← (b2 j hj).1] at this
    exact this
  · rw [(b2 k hk).2.2 t ht]
    exact mNeed_sh (pDn_ok _ _ hk (Nat.mod_lt _ (pLn_1 _ _ _).1))
  · unfold tOp
    rw [c3, b8, b9, mPn_cong _ c2, c4 j hj]
  · unfold tLk
    rw [b5, b6, b7, mLk_cong _ c1]
theorem cTr_hr {w : Rw} {M : zM} {eb : Nat} {thL thP : Nat → Bool} {sh : Int32} {wd el : Nat → Int32} {st : Int32} (h : cTr w M eb thL thP sh wd el st) {t : Nat} (ht : t < 40) : mHour (tN w) (M 9) (M 10) (tNd w) (tOp w thP sh wd) (tLk w thL) (M eb) (M 7 3) (M 7 4) (M 7 5) t = tHr w thL thP sh wd el st t := by
  have hT := cTr_tw h
  obtain ⟨⟨-, b1, b2, b3, b4, b5, b6, b7, b8, b9, b10, b11⟩, c1, c2, c3, c4, c5, c6⟩ := h
  unfold tHr
  rw [c6, b10, b11]
  exact mHour_cong hT.1 hT.2.2.1 (fun j hj => (b2 j hj).1) (fun j hj => (b2 j hj).2.1) (fun _ _ _ _ => rfl) (fun _ _ _ _ => rfl) (fun _ _ => rfl) c5 ht
/-- the reference's town, but for what a trial changes -/
def rBs (w : Rw) (M : zM) : Prop :=
  (w.2 2 ≤ 6 ∧ w.2 3 ≤ 6 ∧ ∀ i, i < w.2 3 → ∃ q, q < 8 ∧ w.1 7 i = nI q) ∧ M 45 2 = nI (tN w) ∧ (∀ k, k < tN w → M 48 k = pOn (w.1 1) (w.2 0) k ∧ M 49 k = pNt (w.1 1) (w.2 0) k ∧ M 51 k = nI (pLn (w.1 1) (w.2 0) k) ∧ ∀ i, i < pLn (w.1 1) (w.2 0) k → M 52 (3 * k + i) = pDn (w.1 1) (w.2 0) k i) ∧ M 45 11 = nI (w.2 2) ∧ M 45 15 = nI (w.2 3) ∧ M 55 = w.1 3 ∧ M 56 = w.1 4 ∧ M 57 = w.1 5 ∧ M 58 = w.1 6 ∧ M 59 = w.1 7 ∧ M 54 1 = w.1 0 1 ∧ M 54 2 = w.1 0 2
def rTr (w : Rw) (M : zM) (thL thP : Nat → Bool) (sh : Int32) (wd el : Nat → Int32) (st : Int32) : Prop :=
  rBs w M ∧ (∀ i, i < w.2 2 → mThN (M 45 19) i = thL i) ∧ (∀ i, i < w.2 3 → mThN (M 45 20) i = thP i) ∧ M 45 21 = sh ∧ (∀ k, k < tN w → M 50 k = wd k) ∧ (∀ h, h < 40 → M 60 h = el h) ∧ M 45 22 = st
theorem rTr_tw {w : Rw} {M : zM} {thL thP : Nat → Bool} {sh : Int32} {wd el : Nat → Int32} {st : Int32} (h : rTr w M thL thP sh wd el st) : rTw M (tN w) (w.2 2) (w.2 3) (tNd w) (tOp w thP sh wd) (tLk w thL) := by
  obtain ⟨⟨⟨a1, a2, a3⟩, b1, b2, b3, b4, b5, b6, b7, b8, b9, b10, b11⟩, c1, c2, c3, c4, c5, c6⟩ := h
  refine ⟨(pRes_ok _ _).1, b1, ?_, a1, b3, a2, b4, by rw [b9]; exact a3, fun k hk => ?_, fun t ht j hj => ?_, fun t ht => ?_⟩
  · intro j hj
    have := pOn_ok (w.1 1) (w.2 0) j hj
    rw [← (b2 j hj).1] at this
    exact this
  · have hl := pLn_1 (w.1 1) (w.2 0) k
    refine ⟨pLn (w.1 1) (w.2 0) k, by omega, hl.2, (b2 k hk).2.2.1, fun t ht => ?_⟩
    rw [(b2 k hk).2.2.2 _ (Nat.mod_lt _ (by omega))]
    rfl
  · unfold tOp
    rw [c3, b8, b9, mPn_cong _ c2, c4 j hj]
  · unfold tLk
    rw [b5, b6, b7, mLk_cong _ c1]
theorem rTr_hr {w : Rw} {M : zM} {thL thP : Nat → Bool} {sh : Int32} {wd el : Nat → Int32} {st : Int32} (h : rTr w M thL thP sh wd el st) {t : Nat} (ht : t < 40) : mHour (tN w) (M 48) (M 49) (tNd w) (tOp w thP sh wd) (tLk w thL) (M 60) (M 45 22) (M 54 1) (M 54 2) t = tHr w thL thP sh wd el st t := by
  have hT := rTr_tw h
  obtain ⟨⟨-, b1, b2, b3, b4, b5, b6, b7, b8, b9, b10, b11⟩, c1, c2, c3, c4, c5, c6⟩ := h
  unfold tHr
  rw [c6, b10, b11]
  exact mHour_cong hT.1 hT.2.2.1 (fun j hj => (b2 j hj).1) (fun j hj => (b2 j hj).2.1) (fun _ _ _ _ => rfl) (fun _ _ _ _ => rfl) (fun _ _ => rfl) c5 ht
theorem mRes_cong {C N : Nat} {hr hr' : Nat → Int32 × Int32 × Int32 × Int32 × (Nat → Int32)} {j : Nat} {M : zM} (h : mRes C N hr j M) (e : hr j = hr' j) : mRes C N hr' j M := by
  unfold mRes at *
  rw [← e]
  exact h
/-- a course holds the hours hr -/
def crs (C N : Nat) (hr : Nat → Int32 × Int32 × Int32 × Int32 × (Nat → Int32)) (M : zM) : Prop := ∀ j, j < 40 → mRes C N hr j M
theorem zMet_imp {i : zI} {as : List Value} {L : zL} {M : zM} {v : Option Value} {R R' : zM → Prop} (h : zMet i as L M L (zr v R)) (hi : ∀ M', R M' → R' M') : zMet i as L M L (zr v R') := by
  obtain ⟨h1, h2, h3⟩ := h
  refine ⟨h1, h2, fun l D ad cA nS f0 f1 sz => ?_⟩
  have h4 := h3 l D ad cA nS f0 f1 sz
  unfold Met at h4 ⊢
  intro p e ha hc hk s m args below hf hS hP ht
  obtain ⟨k, o, a1, a2, a3, ⟨v', M', ad', cA', ⟨hv, hR⟩, rest⟩, a5⟩ := h4 p e ha hc hk s m args below hf hS hP ht
  exact ⟨k, o, a1, a2, a3, ⟨v', M', ad', cA', ⟨hv, hi M' hR⟩, rest⟩, a5⟩

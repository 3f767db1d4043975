/-! the reference reads the houses -/
def rB (f : Nat → Int32) (n j : Nat) : Int32 := if j < n then f j else -1
/-- the bytes are bytes -/
def rBy (f : Nat → Int32) (n : Nat) : Prop := ∀ i, i < n → 0 ≤ (f i).toInt ∧ (f i).toInt ≤ 255
theorem rB_rng {f : Nat → Int32} {n : Nat} (h : rBy f n) (j : Nat) : -1 ≤ (rB f n j).toInt ∧ (rB f n j).toInt ≤ 255 := by
  unfold rB
  split
  · rename_i q
    have := h j q
    omega
  · decide
theorem rB_in (P : Int32 → Prop) (hP : ¬ P (-1)) {f : Nat → Int32} {n j : Nat} : P (rB f n j) ↔ j < n ∧ P (f j) := by
  unfold rB
  split
  · rename_i q; exact ⟨fun z => ⟨q, z⟩, fun z => z.2⟩
  · rename_i q; exact ⟨fun z => absurd z hP, fun z => absurd z.1 q⟩
theorem sub_toInt {b : Int32} (hb : -1 ≤ b.toInt ∧ b.toInt ≤ 255) {c : Int32} {k : Int} (hc : c.toInt = k) (hk : 0 ≤ k ∧ k ≤ 200) : (b - c).toInt = b.toInt - k := by
  rw [fb_subI (by omega) (by omega), hc]
theorem qN {b : Int32} (hb : -1 ≤ b.toInt ∧ b.toInt ≤ 255) : (97 ≤ b ∧ b ≤ 103) ↔ pN b := by
  unfold pN
  rw [fa_le, fa_le, fa_le, fa_le, sub_toInt hb (c := 97) (k := 97) (by decide) (by omega)]
  have h1 : (97 : Int32).toInt = 97 := by decide
  have h2 : (103 : Int32).toInt = 103 := by decide
  have h3 : (0 : Int32).toInt = 0 := by decide
  have h4 : (6 : Int32).toInt = 6 := by decide
  rw [h1, h2, h3, h4]
  omega
theorem qW {b : Int32} (hb : -1 ≤ b.toInt ∧ b.toInt ≤ 255) : (49 ≤ b ∧ b ≤ 57) ↔ pW b := by
  unfold pW
  rw [fa_le, fa_le, fa_le, fa_le, sub_toInt hb (c := 48) (k := 48) (by decide) (by omega)]
  have h1 : (49 : Int32).toInt = 49 := by decide
  have h2 : (57 : Int32).toInt = 57 := by decide
  have h3 : (1 : Int32).toInt = 1 := by decide
  have h4 : (9 : Int32).toInt = 9 := by decide
  rw [h1, h2, h3, h4]
  omega
theorem qP {b : Int32} (hb : -1 ≤ b.toInt ∧ b.toInt ≤ 255) {h : Nat} (hh : h ≤ 8) : (b = 46 ∨ (97 ≤ b ∧ b ≤ 97 + nI h - 1)) ↔ pP h b := by
  unfold pP
  have h1 : (97 : Int32).toInt = 97 := by decide
  have h2 : (1 : Int32).toInt = 1 := by decide
  have h3 : (0 : Int32).toInt = 0 := by decide
  have e1 : (nI h - 1).toInt = (h : Int) - 1 := by rw [fb_subI (by rw [nI_toInt (by omega), h2]; omega) (by rw [nI_toInt (by omega), h2]; omega), nI_toInt (by omega), h2]
  have e0 : (97 + nI h).toInt = 97 + (h : Int) := by rw [fb_addI (by rw [nI_toInt (by omega), h1]; omega) (by rw [nI_toInt (by omega), h1]; omega), nI_toInt (by omega), h1]
  have e2 : (97 + nI h - 1).toInt = 97 + (h : Int) - 1 := by rw [fb_subI (by rw [e0, h2]; omega) (by rw [e0, h2]; omega), e0, h2]
  rw [fa_le 97, fa_le b, fa_le 0, fa_le (b - 97), sub_toInt hb (c := 97) (k := 97) (by decide) (by omega), e1, e2, h1, h3]
  constructor
  · rintro (q | q)
    · exact Or.inl q
    · exact Or.inr (by omega)
  · rintro (q | q)
    · exact Or.inl q
    · exact Or.inr (by omega)
theorem nP (h : Nat) : ¬ pP h (-1) := by
  unfold pP
  rintro (q | ⟨q, -⟩)
  · exact absurd q (by decide)
  · exact absurd q (by decide)
theorem nN : ¬ pN (-1) := by unfold pN; decide
theorem nW : ¬ pW (-1) := by unfold pW; decide
theorem nLt : ¬ pL (-1) := by unfold pL; decide
/-- the reference's text of the houses -/
def rTx (M : zM) (f : Nat → Int32) (sz : Nat) : Prop := sz ≤ 55 ∧ M 46 0 = nI sz ∧ (∀ i, i < 55 → M 47 i = f i) ∧ rBy f sz
set_option maxRecDepth 10000 in
set_option maxHeartbeats 1000000 in
theorem c6_byteAt (n eb : Nat) (M : zM) (j : Nat) (hj9 : j < 1000) (f : Nat → Int32) (sz : Nat) (hT : rTx M f sz) : zMet zi_X6_byteAt [.ref 45, .int (nI j)] (zLay n eb) M (zLay n eb) (zx (some (.int (rB f sz j))) M) := by
  obtain ⟨hs55, hsz, htx, hby⟩ := hT
  refine z_me (zk_X6_byteAt _ _) rfl (Nat.le_of_ble_eq_true rfl) rfl (fun ret hret => ?_)
  refine And.intro (z_inN0 (i := 0) (n := 2) (by decide) (by decide)) ?_
  refine z_br (fun h1j => ?_) (fun h1n => ?_)
  · refine z_go ?_
    exact z_re hret (z_vi (by rw [rB, if_neg (fun q => absurd (show nI sz ≤ nI j by rw [← hsz]; exact h1j) (nI_ge q (by omega)))])) rfl
  · have hj : j < sz := by
      rcases Nat.lt_or_ge j sz with q | q
      · exact q
      · exact absurd (show M 46 0 ≤ nI j by rw [hsz]; exact nI_le q (by omega)) h1n
    refine And.intro (z_inN0 (by omega) (by omega)) ?_
    refine z_go ?_
    exact z_re hret (z_vi (by show M 47 (nI j).toNatClampNeg = _; rw [z_cl (by omega), htx j (by omega), rB, if_pos hj])) rfl
set_option maxRecDepth 10000 in
set_option maxHeartbeats 1000000 in
theorem c6_doneAt (n eb : Nat) (M : zM) (j : Nat) (hj9 : j < 1000) (f : Nat → Int32) (sz : Nat) (hT : rTx M f sz) : zMet zi_X6_doneAt [.ref 45, .int (nI j)] (zLay n eb) M (zLay n eb) (zx (some (.int (pWh (rB f sz j)))) M) := by
  refine z_me (zk_X6_doneAt _ _) rfl (Nat.le_of_ble_eq_true rfl) rfl (fun ret hret => ?_)
  refine z_ca (c6_byteAt n eb M j hj9 f sz hT) ?_
  refine z_br (fun h1n => ?_) (fun h1j => ?_)
  · refine z_go ?_
    exact z_re hret (z_vi (by simp [pWh, h1n])) rfl
  · refine z_go ?_
    refine z_br (fun h2n => ?_) (fun h2j => ?_)
    · refine z_go ?_
      exact z_re hret (z_vi (by simp [pWh, h1j, h2n])) rfl
    · refine z_go ?_
      refine z_br (fun h3n => ?_) (fun h3j => ?_)
      · refine z_go ?_
        exact z_re hret (z_vi (by simp [pWh, h1j, h2j, h3n])) rfl
      · refine z_go ?_
        exact z_re hret (z_vi (by simp [pWh, h1j, h2j, h3j])) rfl
def rNo (s : Nat) : Int32 := if s = 0 then -1 else if s = 1 then -2 else if s = 2 then -3 else -4
set_option maxRecDepth 10000 in
set_option maxHeartbeats 1000000 in
theorem c6_rhno (n eb : Nat) (M : zM) (h a : Nat) (hh : h ≤ 8) (ha : a < 100) (f : Nat → Int32) (sz : Nat) (hT : rTx M f sz) (hs4 : pFail f sz h a < 4) : zMet zi_X6_readsHouse [.ref 45, .int (nI h), .int (nI a)] (zLay n eb) M (zLay n eb) (zx (some (.int (rNo (pFail f sz h a)))) M) := by
  refine z_me (zk_X6_readsHouse _ _) rfl (Nat.le_of_ble_eq_true rfl) rfl (fun ret hret => ?_)
  have r0 := rB_rng hT.2.2.2 a
  have i0 := rB_in (pP h) (nP h) (f := f) (n := sz) (j := a)
  have i1 := rB_in pN nN (f := f) (n := sz) (j := a + 1)
  have i2 := rB_in pW nW (f := f) (n := sz) (j := a + 2)
  have i3 := rB_in pL nLt (f := f) (n := sz) (j := a + 3)
  have j0 := qP r0 (h := h) hh
  have j1 := qN (rB_rng hT.2.2.2 (a + 1))
  have j2 := qW (rB_rng hT.2.2.2 (a + 2))
  by_cases c0 : h < 8 ∧ a < sz ∧ pP h (f a)
  · have hP : pP h (rB f sz a) := i0.mpr c0.2
    have key : z_E zp_X6_readsHouse ret 47 [some (.ref 45), some (.int (nI h)), some (.int (nI a)), some (.int (rB f sz a)), some (.int 1), none] [] (zLay n eb) M := by
      refine z_go ?_
      by_cases c1 : a + 1 < sz ∧ pN (f (a + 1))
      · by_cases c2 : a + 2 < sz ∧ pW (f (a + 2))
        · have c3 : ¬ (a + 3 < sz ∧ pL (f (a + 3))) := fun z => absurd hs4 (by rw [pFail_is4 c0 c1 c2 z]; omega)
          have hs := pFail_is3 c0 c1 c2 c3
          refine z_ca ((show zMet zi_X6_byteAt [.ref 45, .int (nI a + 1)] (zLay n eb) _ (zLay n eb) _ from (by rw [show nI a + 1 = nI (a + 1) from by rw [show (1 : Int32) = nI 1 from rfl, nI_add]]; exact c6_byteAt n eb _ (a + 1) (by omega) f sz (by exact hT)))) ?_
          refine z_ca (c6_in _ _ _ _ _ (Nat.le_of_ble_eq_true rfl)) ?_
          refine z_bf (fun z => (zb_eq0.mp z) (j1.mpr (i1.mpr c1))) ?_
          refine z_go ?_
          refine z_ca ((show zMet zi_X6_byteAt [.ref 45, .int (nI a + 2)] (zLay n eb) _ (zLay n eb) _ from (by rw [show nI a + 2 = nI (a + 2) from by rw [show (2 : Int32) = nI 2 from rfl, nI_add]]; exact c6_byteAt n eb _ (a + 2) (by omega) f sz (by exact hT)))) ?_
          refine z_ca (c6_in _ _ _ _ _ (Nat.le_of_ble_eq_true rfl)) ?_
          refine z_bf (fun z => (zb_eq0.mp z) (j2.mpr (i2.mpr c2))) ?_
          refine z_go ?_
          refine z_ca ((show zMet zi_X6_doneAt [.ref 45, .int (nI a + 3)] (zLay n eb) _ (zLay n eb) _ from (by rw [show nI a + 3 = nI (a + 3) from by rw [show (3 : Int32) = nI 3 from rfl, nI_add]]; exact c6_doneAt n eb _ (a + 3) (by omega) f sz (by exact hT)))) ?_
          refine z_bt (Classical.not_not.mp (fun z => c3 (i3.mp z))) ?_
          exact z_re hret (z_vi (by rw [hs]; rfl)) rfl
        · have hs := pFail_is2 c0 c1 c2
          refine z_ca ((show zMet zi_X6_byteAt [.ref 45, .int (nI a + 1)] (zLay n eb) _ (zLay n eb) _ from (by rw [show nI a + 1 = nI (a + 1) from by rw [show (1 : Int32) = nI 1 from rfl, nI_add]]; exact c6_byteAt n eb _ (a + 1) (by omega) f sz (by exact hT)))) ?_
          refine z_ca (c6_in _ _ _ _ _ (Nat.le_of_ble_eq_true rfl)) ?_
          refine z_bf (fun z => (zb_eq0.mp z) (j1.mpr (i1.mpr c1))) ?_
          refine z_go ?_
          refine z_ca ((show zMet zi_X6_byteAt [.ref 45, .int (nI a + 2)] (zLay n eb) _ (zLay n eb) _ from (by rw [show nI a + 2 = nI (a + 2) from by rw [show (2 : Int32) = nI 2 from rfl, nI_add]]; exact c6_byteAt n eb _ (a + 2) (by omega) f sz (by exact hT)))) ?_
          refine z_ca (c6_in _ _ _ _ _ (Nat.le_of_ble_eq_true rfl)) ?_
          refine z_bt (zb_0 (fun z => c2 (i2.mp (j2.mp z)))) ?_
          exact z_re hret (z_vi (by rw [hs]; rfl)) rfl
      · have hs := pFail_is1 c0 c1
        refine z_ca ((show zMet zi_X6_byteAt [.ref 45, .int (nI a + 1)] (zLay n eb) _ (zLay n eb) _ from (by rw [show nI a + 1 = nI (a + 1) from by rw [show (1 : Int32) = nI 1 from rfl, nI_add]]; exact c6_byteAt n eb _ (a + 1) (by omega) f sz (by exact hT)))) ?_
        refine z_ca (c6_in _ _ _ _ _ (Nat.le_of_ble_eq_true rfl)) ?_
        refine z_bt (zb_0 (fun z => c1 (i1.mp (j1.mp z)))) ?_
        exact z_re hret (z_vi (by rw [hs]; rfl)) rfl
    rcases j0.mpr hP with hb | hin
    · refine z_ca (c6_byteAt n eb _ a (by omega) f sz (by exact hT)) ?_
      refine z_bt hb ?_
      refine z_go ?_
      refine z_go ?_
      refine z_bf (fun z => absurd ((nI_eq (a := h) (b := 8) (by omega) (by omega)).mp z) (by omega)) ?_
      refine z_bf (by decide) ?_
      exact key
    · by_cases hb : rB f sz a = 46
      · refine z_ca (c6_byteAt n eb _ a (by omega) f sz (by exact hT)) ?_
        refine z_bt hb ?_
        refine z_go ?_
        refine z_go ?_
        refine z_bf (fun z => absurd ((nI_eq (a := h) (b := 8) (by omega) (by omega)).mp z) (by omega)) ?_
        refine z_bf (by decide) ?_
        exact key
      · refine z_ca (c6_byteAt n eb _ a (by omega) f sz (by exact hT)) ?_
        refine z_bf hb ?_
        refine z_ca (c6_in _ _ _ _ _ (Nat.le_of_ble_eq_true rfl)) ?_
        refine z_bf (fun z => (zb_eq0.mp z) hin) ?_
        refine z_go ?_
        refine z_bf (fun z => absurd ((nI_eq (a := h) (b := 8) (by omega) (by omega)).mp z) (by omega)) ?_
        refine z_bf (by decide) ?_
        exact key
  · have hs := pFail_is0 c0
    by_cases hP : pP h (rB f sz a)
    · have h8 : ¬ h < 8 := fun z => c0 ⟨z, i0.mp hP⟩
      rcases j0.mpr hP with hb | hin
      · refine z_ca (c6_byteAt n eb _ a (by omega) f sz (by exact hT)) ?_
        refine z_bt hb ?_
        refine z_go ?_
        refine z_go ?_
        refine z_bt (show nI h = 8 by rw [show h = 8 by omega]; rfl) ?_
        refine z_go ?_
        exact z_re hret (z_vi (by rw [hs]; rfl)) rfl
      · by_cases hb : rB f sz a = 46
        · refine z_ca (c6_byteAt n eb _ a (by omega) f sz (by exact hT)) ?_
          refine z_bt hb ?_
          refine z_go ?_
          refine z_go ?_
          refine z_bt (show nI h = 8 by rw [show h = 8 by omega]; rfl) ?_
          refine z_go ?_
          exact z_re hret (z_vi (by rw [hs]; rfl)) rfl
        · refine z_ca (c6_byteAt n eb _ a (by omega) f sz (by exact hT)) ?_
          refine z_bf hb ?_
          refine z_ca (c6_in _ _ _ _ _ (Nat.le_of_ble_eq_true rfl)) ?_
          refine z_bf (fun z => (zb_eq0.mp z) hin) ?_
          refine z_go ?_
          refine z_bt (show nI h = 8 by rw [show h = 8 by omega]; rfl) ?_
          refine z_go ?_
          exact z_re hret (z_vi (by rw [hs]; rfl)) rfl
    · by_cases h8 : h < 8
      · refine z_ca (c6_byteAt n eb _ a (by omega) f sz (by exact hT)) ?_
        refine z_bf (fun z => hP (j0.mp (Or.inl z))) ?_
        refine z_ca (c6_in _ _ _ _ _ (Nat.le_of_ble_eq_true rfl)) ?_
        refine z_bt (zb_0 (fun z => hP (j0.mp (Or.inr z)))) ?_
        refine z_go ?_
        refine z_bf (fun z => absurd ((nI_eq (a := h) (b := 8) (by omega) (by omega)).mp z) (by omega)) ?_
        refine z_bt (by decide) ?_
        exact z_re hret (z_vi (by rw [hs]; rfl)) rfl
      · refine z_ca (c6_byteAt n eb _ a (by omega) f sz (by exact hT)) ?_
        refine z_bf (fun z => hP (j0.mp (Or.inl z))) ?_
        refine z_ca (c6_in _ _ _ _ _ (Nat.le_of_ble_eq_true rfl)) ?_
        refine z_bt (zb_0 (fun z => hP (j0.mp (Or.inr z)))) ?_
        refine z_go ?_
        refine z_bt (show nI h = 8 by rw [show h = 8 by omega]; rfl) ?_
        refine z_go ?_
        exact z_re hret (z_vi (by rw [hs]; rfl)) rfl
set_option maxRecDepth 10000 in
set_option maxHeartbeats 1000000 in
theorem c6_rhok (n eb : Nat) (M : zM) (h a : Nat) (hh : h ≤ 8) (ha : a < 100) (f : Nat → Int32) (sz : Nat) (hT : rTx M f sz) (hs4 : ¬ pFail f sz h a < 4) : zMet zi_X6_readsHouse [.ref 45, .int (nI h), .int (nI a)] (zLay n eb) M (zLay n eb) (zr (some (.int (nI (3 + pLen f sz a)))) (fun M' => (∀ p, p < 48 ∨ 52 < p → M' p = M p) ∧ (∀ k, k ≠ h → M' 48 k = M 48 k ∧ M' 49 k = M 49 k ∧ M' 50 k = M 50 k ∧ M' 51 k = M 51 k ∧ ∀ t, t < 3 → M' 52 (3 * k + t) = M 52 (3 * k + t)) ∧ M' 48 h = (if f a = 46 then -1 else f a - 97) ∧ M' 49 h = f (a + 1) - 97 ∧ M' 50 h = f (a + 2) - 48 ∧ M' 51 h = nI (pLen f sz a) ∧ ∀ t, t < pLen f sz a → M' 52 (3 * h + t) = pWh (f (a + 3 + t)))) := by
  refine z_mr (zk_X6_readsHouse _ _) rfl (Nat.le_of_ble_eq_true rfl) rfl (fun ret hret => ?_)
  have r0 := rB_rng hT.2.2.2 a
  have i0 := rB_in (pP h) (nP h) (f := f) (n := sz) (j := a)
  have i1 := rB_in pN nN (f := f) (n := sz) (j := a + 1)
  have i2 := rB_in pW nW (f := f) (n := sz) (j := a + 2)
  have i3 := rB_in pL nLt (f := f) (n := sz) (j := a + 3)
  have j0 := qP r0 (h := h) hh
  have j1 := qN (rB_rng hT.2.2.2 (a + 1))
  have j2 := qW (rB_rng hT.2.2.2 (a + 2))
  obtain ⟨c0, c1, c2, c3⟩ := pFail_4 hs4
  have hP : pP h (rB f sz a) := i0.mpr c0.2
  have hra : rB f sz a = f a := by rw [rB, if_pos c0.2.1]
  have hch : (nI h).toNatClampNeg = h := z_cl (by omega)
  have hl13 := pLen_1 f sz a
  have hs55 := hT.1
  have tail : ∀ l : Nat → Int32, (∀ j, j < 3 * h ∨ 3 * h + 3 ≤ j → l j = M 52 j) → (∀ t, t < pLen f sz a → l (3 * h + t) = pWh (f (a + 3 + t))) → z_E zp_X6_readsHouse ret 151 [some (.ref 45), some (.int (nI h)), some (.int (nI a)), some (.int (rB f sz a)), none, some (.int (nI (pLen f sz a)))] [] (zLay n eb) (va_up M 52 l) := by
    intro l hl1 hl2
    refine z_go ?_
    refine z_br (fun h1n => ?_) (fun h1j => ?_)
    · refine z_go ?_
      refine And.intro (z_inN0 (by omega) (by omega)) ?_
      refine z_ca ((show zMet zi_X6_byteAt [.ref 45, .int (nI a + 1)] (zLay n eb) _ (zLay n eb) _ from (by rw [show nI a + 1 = nI (a + 1) from by rw [show (1 : Int32) = nI 1 from rfl, nI_add]]; exact c6_byteAt n eb _ (a + 1) (by omega) f sz (by exact hT)))) ?_
      refine And.intro (z_inN0 (by omega) (by omega)) ?_
      refine z_ca ((show zMet zi_X6_byteAt [.ref 45, .int (nI a + 2)] (zLay n eb) _ (zLay n eb) _ from (by rw [show nI a + 2 = nI (a + 2) from by rw [show (2 : Int32) = nI 2 from rfl, nI_add]]; exact c6_byteAt n eb _ (a + 2) (by omega) f sz (by exact hT)))) ?_
      refine And.intro (z_inN0 (by omega) (by omega)) ?_
      refine And.intro (z_inN0 (by omega) (by omega)) ?_
      refine z_rq hret (z_vi ?_) ?_
      · show 3 + nI (pLen f sz a) = _
        rw [show (3 : Int32) = nI 3 from rfl, nI_add]
      · refine ⟨fun p hp => ?_, fun k hk => ⟨?_, ?_, ?_, ?_, fun t ht => hl1 _ (by omega)⟩, ?_, ?_, ?_, ?_, fun t ht => hl2 t ht⟩
        · rw [z_un (by omega), z_un (by omega), z_un (by omega), z_un (by omega), z_un (by omega)]
        · show upd (M 48) (nI h).toNatClampNeg _ k = _
          rw [hch]; simp only [upd, hk, if_false]
        · show upd (M 49) (nI h).toNatClampNeg _ k = _
          rw [hch]; simp only [upd, hk, if_false]
        · show upd (M 50) (nI h).toNatClampNeg _ k = _
          rw [hch]; simp only [upd, hk, if_false]
        · show upd (M 51) (nI h).toNatClampNeg _ k = _
          rw [hch]; simp only [upd, hk, if_false]
        · show upd (M 48) (nI h).toNatClampNeg _ h = _
          rw [hch]; simp only [upd, if_true]
          first | rw [if_pos (by rw [← hra]; exact h1n)] | (rw [if_neg (by rw [← hra]; exact h1n), ← hra])
        · show upd (M 49) (nI h).toNatClampNeg (rB f sz (a + 1) - 97) h = _
          rw [hch]; simp only [upd, if_true]; rw [rB, if_pos c1.1]
        · show upd (M 50) (nI h).toNatClampNeg (rB f sz (a + 2) - 48) h = _
          rw [hch]; simp only [upd, if_true]; rw [rB, if_pos c2.1]
        · show upd (M 51) (nI h).toNatClampNeg _ h = _
          rw [hch]; simp only [upd, if_true]
    · refine z_go ?_
      refine And.intro (z_inN0 (by omega) (by omega)) ?_
      refine z_ca ((show zMet zi_X6_byteAt [.ref 45, .int (nI a + 1)] (zLay n eb) _ (zLay n eb) _ from (by rw [show nI a + 1 = nI (a + 1) from by rw [show (1 : Int32) = nI 1 from rfl, nI_add]]; exact c6_byteAt n eb _ (a + 1) (by omega) f sz (by exact hT)))) ?_
      refine And.intro (z_inN0 (by omega) (by omega)) ?_
      refine z_ca ((show zMet zi_X6_byteAt [.ref 45, .int (nI a + 2)] (zLay n eb) _ (zLay n eb) _ from (by rw [show nI a + 2 = nI (a + 2) from by rw [show (2 : Int32) = nI 2 from rfl, nI_add]]; exact c6_byteAt n eb _ (a + 2) (by omega) f sz (by exact hT)))) ?_
      refine And.intro (z_inN0 (by omega) (by omega)) ?_
      refine And.intro (z_inN0 (by omega) (by omega)) ?_
      refine z_rq hret (z_vi ?_) ?_
      · show 3 + nI (pLen f sz a) = _
        rw [show (3 : Int32) = nI 3 from rfl, nI_add]
      · refine ⟨fun p hp => ?_, fun k hk => ⟨?_, ?_, ?_, ?_, fun t ht => hl1 _ (by omega)⟩, ?_, ?_, ?_, ?_, fun t ht => hl2 t ht⟩
        · rw [z_un (by omega), z_un (by omega), z_un (by omega), z_un (by omega), z_un (by omega)]
        · show upd (M 48) (nI h).toNatClampNeg _ k = _
          rw [hch]; simp only [upd, hk, if_false]
        · show upd (M 49) (nI h).toNatClampNeg _ k = _
          rw [hch]; simp only [upd, hk, if_false]
        · show upd (M 50) (nI h).toNatClampNeg _ k = _
          rw [hch]; simp only [upd, hk, if_false]
        · show upd (M 51) (nI h).toNatClampNeg _ k = _
          rw [hch]; simp only [upd, hk, if_false]
        · show upd (M 48) (nI h).toNatClampNeg _ h = _
          rw [hch]; simp only [upd, if_true]
          first | rw [if_pos (by rw [← hra]; exact h1j)] | (rw [if_neg (by rw [← hra]; exact h1j), ← hra])
        · show upd (M 49) (nI h).toNatClampNeg (rB f sz (a + 1) - 97) h = _
          rw [hch]; simp only [upd, if_true]; rw [rB, if_pos c1.1]
        · show upd (M 50) (nI h).toNatClampNeg (rB f sz (a + 2) - 48) h = _
          rw [hch]; simp only [upd, if_true]; rw [rB, if_pos c2.1]
        · show upd (M 51) (nI h).toNatClampNeg _ h = _
          rw [hch]; simp only [upd, if_true]
  have loop := z_l1 (P := zp_X6_readsHouse) (ret := ret) (pc := 104) (L := zLay n eb) (N := pLen f sz a) (lo := fun x => [some (.ref 45), some (.int (nI h)), some (.int (nI a)), some (.int (rB f sz a)), none, some (.int x)]) (I := fun s x M' => x = nI s ∧ ∃ l, M' = va_up M 52 l ∧ (∀ j, j < 3 * h ∨ 3 * h + 3 ≤ j → l j = M 52 j) ∧ ∀ t, t < s → l (3 * h + t) = pWh (f (a + 3 + t))) (by
    rintro s x M' hs ⟨rfl, l, rfl, hl1, hl2⟩ ih
    have hls := pLen_in (f := f) (n := sz) (a := a) c3.1 c3.2 hs
    have hrb : rB f sz (a + 3 + s) = f (a + 3 + s) := by rw [rB, if_pos hls.1]
    have has : nI a + 3 + nI s = nI (a + 3 + s) := by rw [show (3 : Int32) = nI 3 from rfl, nI_add, nI_add]
    have h3s : 3 * nI h + nI s = nI (3 * h + s) := by rw [show (3 : Int32) = nI 3 from rfl, pk_mul, nI_add]
    refine z_go ?_
    refine z_bf (nI_ge (a := s) (b := 3) (by omega) (by omega)) ?_
    refine z_ca ((show zMet zi_X6_doneAt [.ref 45, .int (nI a + 3 + nI s)] (zLay n eb) _ (zLay n eb) _ from (by rw [has]; exact c6_doneAt n eb _ (a + 3 + s) (by omega) f sz (by exact hT)))) ?_
    refine z_bf (by show ¬ pWh (rB f sz (a + 3 + s)) = -1; rw [hrb]; exact hls.2) ?_
    refine z_ca ((show zMet zi_X6_doneAt [.ref 45, .int (nI a + 3 + nI s)] (zLay n eb) _ (zLay n eb) _ from (by rw [has]; exact c6_doneAt n eb _ (a + 3 + s) (by omega) f sz (by exact hT)))) ?_
    refine And.intro (by show vp_in (3 * nI h + nI s) 27; rw [h3s]; exact z_inN0 (by omega) (by omega)) ?_
    refine ih _ _ ⟨nI_1 s, upd l (3 * h + s) (pWh (f (a + 3 + s))), ?_, fun j hj => ?_, fun t ht => ?_⟩
    · show va_up (va_up M 52 l) 52 (upd (va_up M 52 l 52) (3 * nI h + nI s).toNatClampNeg (pWh (rB f sz (a + 3 + s)))) = _
      rw [z_uu, z_us, h3s, z_cl (by omega), hrb]
    · simp only [upd]; rw [if_neg (by omega)]; exact hl1 j hj
    · by_cases e : t = s
      · subst e; simp [upd]
      · simp only [upd]; rw [if_neg (by omega)]; exact hl2 t (by omega)) (by
    rintro x M' ⟨rfl, l, rfl, hl1, hl2⟩
    have has : nI a + 3 + nI (pLen f sz a) = nI (a + 3 + pLen f sz a) := by rw [show (3 : Int32) = nI 3 from rfl, nI_add, nI_add]
    refine z_go ?_
    by_cases e3 : pLen f sz a = 3
    · refine z_bt (show (3 : Int32) ≤ nI (pLen f sz a) by rw [e3]; decide) ?_
      exact tail l hl1 hl2
    · have hno : pWh (rB f sz (a + 3 + pLen f sz a)) = -1 := by
        apply Classical.not_not.mp
        intro z
        have z := (rB_in pL nLt).mp z
        have z0 := c3
        unfold pLen at z e3 hl13
        split at z
        · rename_i q
          split at z
          · rename_i q2; rw [if_pos q, if_pos q2] at e3; exact e3 rfl
          · rename_i q2; exact q2 z
        · rename_i q; exact q z
      refine z_bf (nI_ge (a := pLen f sz a) (b := 3) (by omega) (by omega)) ?_
      refine z_ca ((show zMet zi_X6_doneAt [.ref 45, .int (nI a + 3 + nI (pLen f sz a))] (zLay n eb) _ (zLay n eb) _ from (by rw [has]; exact c6_doneAt n eb _ (a + 3 + pLen f sz a) (by omega) f sz (by exact hT)))) ?_
      refine z_bt (by show pWh (rB f sz (a + 3 + pLen f sz a)) = -1; exact hno) ?_
      exact tail l hl1 hl2)
  have key : z_E zp_X6_readsHouse ret 47 [some (.ref 45), some (.int (nI h)), some (.int (nI a)), some (.int (rB f sz a)), some (.int 1), none] [] (zLay n eb) M := by
    refine z_go ?_
    refine z_ca ((show zMet zi_X6_byteAt [.ref 45, .int (nI a + 1)] (zLay n eb) _ (zLay n eb) _ from (by rw [show nI a + 1 = nI (a + 1) from by rw [show (1 : Int32) = nI 1 from rfl, nI_add]]; exact c6_byteAt n eb _ (a + 1) (by omega) f sz (by exact hT)))) ?_
    refine z_ca (c6_in _ _ _ _ _ (Nat.le_of_ble_eq_true rfl)) ?_
    refine z_bf (fun z => (zb_eq0.mp z) (j1.mpr (i1.mpr c1))) ?_
    refine z_go ?_
    refine z_ca ((show zMet zi_X6_byteAt [.ref 45, .int (nI a + 2)] (zLay n eb) _ (zLay n eb) _ from (by rw [show nI a + 2 = nI (a + 2) from by rw [show (2 : Int32) = nI 2 from rfl, nI_add]]; exact c6_byteAt n eb _ (a + 2) (by omega) f sz (by exact hT)))) ?_
    refine z_ca (c6_in _ _ _ _ _ (Nat.le_of_ble_eq_true rfl)) ?_
    refine z_bf (fun z => (zb_eq0.mp z) (j2.mpr (i2.mpr c2))) ?_
    refine z_go ?_
    refine z_ca ((show zMet zi_X6_doneAt [.ref 45, .int (nI a + 3)] (zLay n eb) _ (zLay n eb) _ from (by rw [show nI a + 3 = nI (a + 3) from by rw [show (3 : Int32) = nI 3 from rfl, nI_add]]; exact c6_doneAt n eb _ (a + 3) (by omega) f sz (by exact hT)))) ?_
    refine z_bf (fun z => (i3.mpr c3) z) ?_
    refine z_go ?_
    exact loop 0 _ _ (Nat.zero_le _) ⟨rfl, M 52, z_uid.symm, fun _ _ => rfl, fun t ht => absurd ht (Nat.not_lt_zero t)⟩
  rcases j0.mpr hP with hb | hin
  · refine z_ca (c6_byteAt n eb _ a (by omega) f sz (by exact hT)) ?_
    refine z_bt hb ?_
    refine z_go ?_
    refine z_go ?_
    refine z_bf (fun z => absurd ((nI_eq (a := h) (b := 8) (by omega) (by omega)).mp z) (by omega)) ?_
    refine z_bf (by decide) ?_
    exact key
  · by_cases hb : rB f sz a = 46
    · refine z_ca (c6_byteAt n eb _ a (by omega) f sz (by exact hT)) ?_
      refine z_bt hb ?_
      refine z_go ?_
      refine z_go ?_
      refine z_bf (fun z => absurd ((nI_eq (a := h) (b := 8) (by omega) (by omega)).mp z) (by omega)) ?_
      refine z_bf (by decide) ?_
      exact key
    · refine z_ca (c6_byteAt n eb _ a (by omega) f sz (by exact hT)) ?_
      refine z_bf hb ?_
      refine z_ca (c6_in _ _ _ _ _ (Nat.le_of_ble_eq_true rfl)) ?_
      refine z_bf (fun z => (zb_eq0.mp z) hin) ?_
      refine z_go ?_
      refine z_bf (fun z => absurd ((nI_eq (a := h) (b := 8) (by omega) (by omega)).mp z) (by omega)) ?_
      refine z_bf (by decide) ?_
      exact key

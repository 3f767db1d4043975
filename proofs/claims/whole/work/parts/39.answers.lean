/-! answers out of the hours as told -/
theorem rg {x c : Int32} (N : Nat) (hc : c = nI N) (hN : N < 1000) (h : 0 ≤ x ∧ x ≤ c) : ∃ k, k ≤ N ∧ x = nI k := nI_of2 (by rw [hc]; exact nI_toInt (by omega)) (Int32.not_lt.mpr h.1) h.2
theorem rgH {x : Int32} {N : Nat} (hN : N ≤ 8) (h : 0 ≤ x ∧ x ≤ nI N - 1) : ∃ k, k < N ∧ x = nI k := by
  by_cases n0 : N = 0
  · subst n0
    have : (0 : Int32) ≤ nI 0 - 1 := by have h1 := h.1; have h2 := h.2; rw [fa_le] at *; omega
    exact absurd this (by decide)
  · obtain ⟨k, hk, e⟩ := rg (N - 1) (by rw [show (1 : Int32) = nI 1 from rfl, pk_sub (by omega)]) (by omega) h
    exact ⟨k, by omega, e⟩
theorem rgH' {k N : Nat} (hk : k < N) (hN : N ≤ 8) : 0 ≤ nI k ∧ nI k ≤ nI N - 1 := by
  refine ⟨nI_pos' (by omega), ?_⟩
  rw [show (1 : Int32) = nI 1 from rfl, pk_sub (by omega)]
  exact nI_le (by omega) (by omega)
theorem fst40_cong {p q : Nat → Prop} [DecidablePred p] [DecidablePred q] (h : ∀ t, t < 40 → (p t ↔ q t)) : fst40 p = fst40 q := by
  have e : ∀ n, n ≤ 40 → fa_first (fun t => decide (p t)) n = fa_first (fun t => decide (q t)) n := by
    intro n
    induction n with
    | zero => intro _; rfl
    | succ n ih =>
      intro hn
      have e1 : decide (p n) = decide (q n) := decide_eq_decide.mpr (h n (by omega))
      unfold fa_first
      rw [ih (by omega), e1]
  unfold fst40
  rw [e 40 (Nat.le_refl _)]
/-- downward: the last found is the first -/
def dn (p : Nat → Prop) [DecidablePred p] : Nat → Int32
  | 0 => -1
  | d + 1 => if p (39 - d) then nI (39 - d) else dn p d
theorem dn_none {p : Nat → Prop} [DecidablePred p] : ∀ d, d ≤ 40 → (∀ j, j < 40 → 40 - d ≤ j → ¬ p j) → dn p d = -1
  | 0, _, _ => rfl
  | d + 1, hd, h => by
    unfold dn
    rw [if_neg (h _ (by omega) (by omega))]
    exact dn_none d (by omega) (fun j hj q => h j hj (by omega))
theorem dn_some {p : Nat → Prop} [DecidablePred p] {k : Nat} (hk : k < 40) (hp : p k) (hno : ∀ j, j < k → ¬ p j) : ∀ d, d ≤ 40 → 40 - k ≤ d → dn p d = nI k
  | 0, _, q => absurd q (by omega)
  | d + 1, hd, q => by
    unfold dn
    by_cases e : d = 39 - k
    · rw [e, show 39 - (39 - k) = k by omega, if_pos hp]
    · rw [if_neg (hno _ (by omega))]
      exact dn_some hk hp hno d (by omega) (by omega)
theorem dn_fst {p : Nat → Prop} [DecidablePred p] : dn p 40 = fst40 p := by
  unfold fst40
  by_cases h : fa_first (fun t => decide (p t)) 40 < 40
  · rw [if_pos h]
    have z1 := fa_first_yes (fun t => decide (p t)) 40 h
    have z2 := fa_first_no (fun t => decide (p t)) 40
    generalize fa_first (fun t => decide (p t)) 40 = k at h z1 z2 ⊢
    exact dn_some h (of_decide_eq_true z1) (fun j hj => of_decide_eq_false (z2 j hj)) 40 (Nat.le_refl _) (by omega)
  · rw [if_neg h]
    have e : fa_first (fun t => decide (p t)) 40 = 40 := by have := fa_first_le (fun t => decide (p t)) 40; omega
    have z2 := fa_first_no (fun t => decide (p t)) 40
    rw [e] at z2
    exact dn_none 40 (Nat.le_refl _) (fun j hj _ => of_decide_eq_false (z2 j hj))
theorem and_m1 (x : Int32) : x &&& -1 = x := by
  have : (-1 : Int32) = ~~~ 0 := by decide
  rw [this]
  exact Int32.and_neg_one
theorem and_bit : ∀ k, k < 8 → ∀ v, v < 256 → (nI v &&& nI (2 ^ k) = 0 ↔ v / 2 ^ k % 2 = 0) := by decide +kernel
theorem bw_and (g : Nat → Bool) {n k : Nat} (hn : n ≤ 8) (hk : k < n) : ¬ nI (bw g n) &&& (1 <<< (nI k &&& 31)) = 0 ↔ g k = true := by
  rw [bw_shl k (by omega), and_bit k (by omega) _ (bw_lt256 g hn), bw_bit]
  by_cases h : g k = true <;> simp [h, hk]
theorem rC_ge {w : Rw} {M M' : zM} (h : rC w M) (s : ∀ p, 45 ≤ p → M' p = M p) : rC w M' := by
  unfold rC at *
  rw [s 45 (by omega), s 46 (by omega), s 47 (by omega), s 54 (by omega), s 55 (by omega), s 56 (by omega), s 57 (by omega), s 58 (by omega), s 59 (by omega), s 67 (by omega), s 68 (by omega), s 69 (by omega), s 71 (by omega), s 72 (by omega), s 73 (by omega), s 74 (by omega)]
  exact h
theorem cI_lt {w : Rw} {M M' : zM} (h : cI w M) (s : ∀ p, p < 45 → M' p = M p) : cI w M' := ⟨cC_sm h.1 ⟨fun p _ _ => s p (by omega), fun p _ _ => s p (by omega), by rw [s 2 (by omega)], by rw [s 2 (by omega)]⟩, cT_kp h.2.1 (by rw [s 2 (by omega)]) (fun p _ _ => s p (by omega)), cL_kp h.2.2 (by rw [s 2 (by omega)]) (s 35 (by omega))⟩
set_option maxRecDepth 10000 in
set_option maxHeartbeats 1000000 in
theorem c5_isHour (x : Int32) (L : zL) (M : zM) (hL : 2 ≤ L.length) : zMet zi_X5_isHour [.int x] L M L (zx (some (.int (zb (0 ≤ x ∧ x ≤ 39)))) M) := by
  refine z_me (zk_X5_isHour _ _) rfl hL rfl (fun ret hret => ?_)
  refine z_ca (c5_within _ _ _ _ _ hL) ?_
  exact And.intro (zb_nar _) hret
set_option maxRecDepth 10000 in
set_option maxHeartbeats 1000000 in
theorem c5_isSheet (x : Int32) (L : zL) (M : zM) (hL : 2 ≤ L.length) : zMet zi_X5_isSheet [.int x] L M L (zx (some (.int (zb (0 ≤ x ∧ x ≤ 3)))) M) := by
  refine z_me (zk_X5_isSheet _ _) rfl hL rfl (fun ret hret => ?_)
  refine z_ca (c5_within _ _ _ _ _ hL) ?_
  exact And.intro (zb_nar _) hret
set_option maxRecDepth 10000 in
set_option maxHeartbeats 1000000 in
theorem c5_isForm (x : Int32) (L : zL) (M : zM) (hL : 2 ≤ L.length) : zMet zi_X5_isForm [.int x] L M L (zx (some (.int (zb (0 ≤ x ∧ x ≤ 2)))) M) := by
  refine z_me (zk_X5_isForm _ _) rfl hL rfl (fun ret hret => ?_)
  refine z_ca (c5_within _ _ _ _ _ hL) ?_
  exact And.intro (zb_nar _) hret
set_option maxRecDepth 10000 in
set_option maxHeartbeats 1000000 in
theorem c6_isText (x : Int32) (L : zL) (M : zM) (hL : 2 ≤ L.length) : zMet zi_X6_isText [.int x] L M L (zx (some (.int (zb (0 ≤ x ∧ x ≤ 1)))) M) := by
  refine z_me (zk_X6_isText _ _) rfl hL rfl (fun ret hret => ?_)
  refine z_ca (c6_in _ _ _ _ _ hL) ?_
  exact And.intro (zb_nar _) hret
set_option maxRecDepth 10000 in
set_option maxHeartbeats 1000000 in
theorem c6_isHour (x : Int32) (L : zL) (M : zM) (hL : 2 ≤ L.length) : zMet zi_X6_isHour [.int x] L M L (zx (some (.int (zb (0 ≤ x ∧ x ≤ 39)))) M) := by
  refine z_me (zk_X6_isHour _ _) rfl hL rfl (fun ret hret => ?_)
  refine z_ca (c6_in _ _ _ _ _ hL) ?_
  exact And.intro (zb_nar _) hret
set_option maxRecDepth 10000 in
set_option maxHeartbeats 1000000 in
theorem c6_isSheet (x : Int32) (L : zL) (M : zM) (hL : 2 ≤ L.length) : zMet zi_X6_isSheet [.int x] L M L (zx (some (.int (zb (0 ≤ x ∧ x ≤ 3)))) M) := by
  refine z_me (zk_X6_isSheet _ _) rfl hL rfl (fun ret hret => ?_)
  refine z_ca (c6_in _ _ _ _ _ hL) ?_
  exact And.intro (zb_nar _) hret
noncomputable def aFirst (w : Rw) : Int32 := fst40 (fun h => ¬ (tHt w h).2.2.2.1 = 0)
set_option maxRecDepth 10000 in
set_option maxHeartbeats 1000000 in
theorem e5_first (n : Nat) (M : zM) (w : Rw) (hI : cI w M) : zMet zi_X5_first [.ref 2] (zLay n 15) M (zLay n 15) (zr (some (.int (aFirst w))) (fun M' => cI w M' ∧ ∀ p, 45 ≤ p → M' p = M p)) := by
  refine z_mr (zk_X5_first _ _) rfl (Nat.le_of_ble_eq_true rfl) rfl (fun ret hret => ?_)
  refine z_cx (d5_toldCourse n M w hI) (fun M1 h1 => ?_)
  obtain ⟨i1, i2, i3⟩ := h1
  refine z_ca (c0_firstShort21 n 15 M1 (-1)) ?_
  exact z_rq hret (z_vi (fst40_cong (fun t ht => by rw [and_m1, show M1 25 t = _ from (i2 t ht).2.2.2.1]))) ⟨i1, i3⟩
set_option maxRecDepth 10000 in
set_option maxHeartbeats 1000000 in
theorem d6_firstOf (n eb : Nat) (M : zM) (w : Rw) (hC : rC w M) : zMet zi_X6_firstOf [.ref 45] (zLay n eb) M (zLay n eb) (zr (some (.int (aFirst w))) (fun M' => rC w M' ∧ rSm M M')) := by
  refine z_mr (zk_X6_firstOf _ _) rfl (Nat.le_of_ble_eq_true rfl) rfl (fun ret hret => ?_)
  refine z_cx (d6_runsTold n eb M w hC) (fun M1 h1 => ?_)
  obtain ⟨i1, i2, i3, i4, i5, i6⟩ := h1
  have loop := z_l2 (P := zp_X6_firstOf) (ret := ret) (pc := 9) (L := zLay n eb) (N := 40) (lo := fun a x => [some (.ref 45), some (.int a), some (.int x)]) (I := fun d a x M' => M' = M1 ∧ a = dn (fun HH => ¬ M1 65 HH = 0) d ∧ ((d = 40 ∧ x = -1) ∨ (d < 40 ∧ x = nI (39 - d)))) (by
    rintro d a x M' hd ⟨rfl, rfl, hx⟩ ih
    have hx : x = nI (39 - d) := by
      rcases hx with q | q
      · omega
      · exact q.2
    subst hx
    have hcl : (nI (39 - d)).toNatClampNeg = 39 - d := z_cl (by omega)
    refine z_go ?_
    refine z_bf (nI_pos (by omega)) ?_
    refine And.intro (z_inN0 (by omega) (by omega)) ?_
    refine z_br (fun h1j => ?_) (fun h1n => ?_)
    · refine z_go ?_
      refine ih _ _ _ ⟨rfl, by rw [dn, if_neg (show ¬ (¬ M' 65 (39 - d) = 0) by have z := h1j; simp only [hcl] at z; exact (fun q => q z))], ?_⟩
      rcases Nat.eq_or_lt_of_le (show d ≤ 39 by omega) with e | e
      · left; rw [e]; exact ⟨rfl, rfl⟩
      · right; exact ⟨by omega, (by show nI (39 - d) + -1 = _; rw [show (39 - d) = (39 - (d + 1)) + 1 by omega, pk_m1])⟩
    · refine z_go ?_
      refine ih _ _ _ ⟨rfl, by rw [dn, if_pos (show ¬ M' 65 (39 - d) = 0 by have z := h1n; simp only [hcl] at z; exact z)], ?_⟩
      rcases Nat.eq_or_lt_of_le (show d ≤ 39 by omega) with e | e
      · left; rw [e]; exact ⟨rfl, rfl⟩
      · right; exact ⟨by omega, (by show nI (39 - d) + -1 = _; rw [show (39 - d) = (39 - (d + 1)) + 1 by omega, pk_m1])⟩) (by
    rintro a x M' ⟨rfl, rfl, hx⟩
    have hx : x = -1 := by
      rcases hx with q | q
      · exact q.2
      · omega
    subst hx
    refine z_go ?_
    refine z_bt (by decide) ?_
    refine z_go ?_
    exact z_rq hret (z_vi (by rw [dn_fst]; exact fst40_cong (fun t ht => by rw [show M' 65 t = _ from (i2 t ht).2.2.2.1]))) ⟨i1, i3⟩)
  exact loop 0 _ _ _ (Nat.zero_le _) ⟨rfl, rfl, Or.inr ⟨by omega, rfl⟩⟩
set_option maxRecDepth 10000 in
set_option maxHeartbeats 1000000 in
theorem e6_first (n eb : Nat) (M : zM) (w : Rw) (hC : rC w M) : zMet zi_X6_first [.ref 45] (zLay n eb) M (zLay n eb) (zr (some (.int (aFirst w))) (fun M' => rC w M' ∧ rSm M M')) := by
  refine z_mr (zk_X6_first _ _) rfl (Nat.le_of_ble_eq_true rfl) rfl (fun ret hret => ?_)
  refine z_cx (d6_firstOf n eb M w hC) (fun M1 h1 => ?_)
  exact z_rq hret rfl h1
noncomputable def aQuiet (w : Rw) : Int32 := fst40 (fun h => (tHt w h).1 = 0)
set_option maxRecDepth 10000 in
set_option maxHeartbeats 1000000 in
theorem d6_quietOf (n eb : Nat) (M : zM) (w : Rw) (hC : rC w M) : zMet zi_X6_quietOf [.ref 45] (zLay n eb) M (zLay n eb) (zr (some (.int (aQuiet w))) (fun M' => rC w M' ∧ rSm M M')) := by
  refine z_mr (zk_X6_quietOf _ _) rfl (Nat.le_of_ble_eq_true rfl) rfl (fun ret hret => ?_)
  refine z_cx (d6_runsTold n eb M w hC) (fun M1 h1 => ?_)
  obtain ⟨i1, i2, i3, i4, i5, i6⟩ := h1
  have loop := z_l2 (P := zp_X6_quietOf) (ret := ret) (pc := 9) (L := zLay n eb) (N := 40) (lo := fun a x => [some (.ref 45), some (.int a), some (.int x)]) (I := fun d a x M' => M' = M1 ∧ a = dn (fun HH => M1 62 HH = 0) d ∧ ((d = 40 ∧ x = -1) ∨ (d < 40 ∧ x = nI (39 - d)))) (by
    rintro d a x M' hd ⟨rfl, rfl, hx⟩ ih
    have hx : x = nI (39 - d) := by
      rcases hx with q | q
      · omega
      · exact q.2
    subst hx
    have hcl : (nI (39 - d)).toNatClampNeg = 39 - d := z_cl (by omega)
    refine z_go ?_
    refine z_bf (nI_pos (by omega)) ?_
    refine And.intro (z_inN0 (by omega) (by omega)) ?_
    refine z_br (fun h1n => ?_) (fun h1j => ?_)
    · refine z_go ?_
      refine ih _ _ _ ⟨rfl, by rw [dn, if_pos (show M' 62 (39 - d) = 0 by have z := h1n; simp only [hcl] at z; exact z)], ?_⟩
      rcases Nat.eq_or_lt_of_le (show d ≤ 39 by omega) with e | e
      · left; rw [e]; exact ⟨rfl, rfl⟩
      · right; exact ⟨by omega, (by show nI (39 - d) + -1 = _; rw [show (39 - d) = (39 - (d + 1)) + 1 by omega, pk_m1])⟩
    · refine z_go ?_
      refine ih _ _ _ ⟨rfl, by rw [dn, if_neg (show ¬ (M' 62 (39 - d) = 0) by have z := h1j; simp only [hcl] at z; exact z)], ?_⟩
      rcases Nat.eq_or_lt_of_le (show d ≤ 39 by omega) with e | e
      · left; rw [e]; exact ⟨rfl, rfl⟩
      · right; exact ⟨by omega, (by show nI (39 - d) + -1 = _; rw [show (39 - d) = (39 - (d + 1)) + 1 by omega, pk_m1])⟩) (by
    rintro a x M' ⟨rfl, rfl, hx⟩
    have hx : x = -1 := by
      rcases hx with q | q
      · exact q.2
      · omega
    subst hx
    refine z_go ?_
    refine z_bt (by decide) ?_
    refine z_go ?_
    exact z_rq hret (z_vi (by rw [dn_fst]; exact fst40_cong (fun t ht => by rw [show M' 62 t = _ from (i2 t ht).1]))) ⟨i1, i3⟩)
  exact loop 0 _ _ _ (Nat.zero_le _) ⟨rfl, rfl, Or.inr ⟨by omega, rfl⟩⟩
set_option maxRecDepth 10000 in
set_option maxHeartbeats 1000000 in
theorem e6_quiet (n eb : Nat) (M : zM) (w : Rw) (hC : rC w M) : zMet zi_X6_quiet [.ref 45] (zLay n eb) M (zLay n eb) (zr (some (.int (aQuiet w))) (fun M' => rC w M' ∧ rSm M M')) := by
  refine z_mr (zk_X6_quiet _ _) rfl (Nat.le_of_ble_eq_true rfl) rfl (fun ret hret => ?_)
  refine z_cx (d6_quietOf n eb M w hC) (fun M1 h1 => ?_)
  exact z_rq hret rfl h1
set_option maxRecDepth 10000 in
set_option maxHeartbeats 1000000 in
theorem e5_quiet (n : Nat) (M : zM) (w : Rw) (hI : cI w M) : zMet zi_X5_quiet [.ref 2] (zLay n 15) M (zLay n 15) (zr (some (.int (aQuiet w))) (fun M' => cI w M' ∧ ∀ p, 45 ≤ p → M' p = M p)) := by
  refine z_mr (zk_X5_quiet _ _) rfl (Nat.le_of_ble_eq_true rfl) rfl (fun ret hret => ?_)
  refine z_cx (d5_toldCourse n M w hI) (fun M1 h1 => ?_)
  obtain ⟨i1, i2, i3⟩ := h1
  have hfc : fst40 (fun h => M1 22 h = 0) = aQuiet w := fst40_cong (fun t ht => by rw [show M1 22 t = _ from (i2 t ht).1])
  have loop := z_l1 (P := zp_X5_quiet) (ret := ret) (pc := 7) (L := zLay n 15) (N := 40) (lo := fun x => [none, some (.ref 21), some (.int x)]) (I := fun h x M' => M' = M1 ∧ x = nI h ∧ ∀ j, j < h → ¬ M1 22 j = 0) (by
    rintro h x M' hh ⟨rfl, rfl, hno⟩ ih
    have hch : (nI h).toNatClampNeg = h := z_cl (by omega)
    refine z_go ?_
    refine z_bf (nI_ge (a := h) (b := 40) hh (by omega)) ?_
    refine And.intro (z_inN0 (by omega) (by omega)) ?_
    refine z_br (fun h1n => ?_) (fun h1j => ?_)
    · exact z_rq hret (z_vi (by rw [← hfc, fst40, fst_hit hno (by omega) (show M' 22 h = 0 by have z := h1n; simp only [hch] at z; exact z), if_pos hh])) ⟨i1, i3⟩
    · refine z_go ?_
      exact ih _ _ ⟨rfl, nI_1 h, fun j hj => by
        by_cases e : j = h
        · rw [e]; have z := h1j; simp only [hch] at z; exact z
        · exact hno j (by omega)⟩) (by
    rintro x M' ⟨rfl, rfl, hno⟩
    refine z_go ?_
    refine z_bt (nI_le (a := 40) (b := 40) (Nat.le_refl _) (by omega)) ?_
    refine z_go ?_
    exact z_rq hret (z_vi (by rw [← hfc, fst40, fst_no hno, if_neg (Nat.lt_irrefl _)])) ⟨i1, i3⟩)
  exact loop 0 _ _ (Nat.zero_le _) ⟨rfl, rfl, fun j hj => absurd hj (Nat.not_lt_zero j)⟩
noncomputable def aWell (w : Rw) : Int32 := nI (cnt (fun h => decide ((tHt w h).2.2.2.1 = 0)) 40)
set_option maxRecDepth 10000 in
set_option maxHeartbeats 1000000 in
theorem e5_well (n : Nat) (M : zM) (w : Rw) (hI : cI w M) : zMet zi_X5_well [.ref 2] (zLay n 15) M (zLay n 15) (zr (some (.int (aWell w))) (fun M' => cI w M' ∧ ∀ p, 45 ≤ p → M' p = M p)) := by
  refine z_mr (zk_X5_well _ _) rfl (Nat.le_of_ble_eq_true rfl) rfl (fun ret hret => ?_)
  refine z_cx (d5_toldCourse n M w hI) (fun M1 h1 => ?_)
  obtain ⟨i1, i2, i3⟩ := h1
  have hfc : nI (cnt (fun h => decide (M1 25 h = 0)) 40) = aWell w := by
    unfold aWell
    rw [cnt_cong 40 (fun t ht => by rw [show M1 25 t = _ from (i2 t ht).2.2.2.1])]
  have loop := z_l2 (P := zp_X5_well) (ret := ret) (pc := 9) (L := zLay n 15) (N := 40) (lo := fun a x => [none, some (.ref 21), some (.int a), some (.int x)]) (I := fun h a x M' => M' = M1 ∧ a = nI (cnt (fun h => decide (M1 25 h = 0)) h) ∧ x = nI h) (by
    rintro h a x M' hh ⟨rfl, rfl, rfl⟩ ih
    have hch : (nI h).toNatClampNeg = h := z_cl (by omega)
    refine z_go ?_
    refine z_bf (nI_ge (a := h) (b := 40) hh (by omega)) ?_
    refine And.intro (z_inN0 (by omega) (by omega)) ?_
    refine z_br (fun h1n => ?_) (fun h1j => ?_)
    · have z := h1n
      simp only [hch] at z
      refine ih _ _ _ ⟨rfl, ?_, nI_1 h⟩
      show nI (cnt _ h) + 1 = _
      rw [nI_1, show cnt (fun h => decide (M' 25 h = 0)) (h + 1) = cnt (fun h => decide (M' 25 h = 0)) h + (if decide (M' 25 h = 0) = true then 1 else 0) from rfl, if_pos (decide_eq_true z)]
    · refine z_go ?_
      have z := h1j
      simp only [hch] at z
      refine ih _ _ _ ⟨rfl, ?_, nI_1 h⟩
      show nI (cnt _ h) = _
      rw [show cnt (fun h => decide (M' 25 h = 0)) (h + 1) = cnt (fun h => decide (M' 25 h = 0)) h + (if decide (M' 25 h = 0) = true then 1 else 0) from rfl, if_neg (by simp [z]), Nat.add_zero]) (by
    rintro a x M' ⟨rfl, rfl, rfl⟩
    refine z_go ?_
    refine z_bt (nI_le (a := 40) (b := 40) (Nat.le_refl _) (by omega)) ?_
    refine z_go ?_
    exact z_rq hret (z_vi hfc) ⟨i1, i3⟩)
  exact loop 0 _ _ _ (Nat.zero_le _) ⟨rfl, rfl, rfl⟩
set_option maxRecDepth 10000 in
set_option maxHeartbeats 1000000 in
theorem d6_wellOf (n eb : Nat) (M : zM) (w : Rw) (hC : rC w M) : zMet zi_X6_wellOf [.ref 45] (zLay n eb) M (zLay n eb) (zr (some (.int (aWell w))) (fun M' => rC w M' ∧ rSm M M')) := by
  refine z_mr (zk_X6_wellOf _ _) rfl (Nat.le_of_ble_eq_true rfl) rfl (fun ret hret => ?_)
  refine z_cx (d6_runsTold n eb M w hC) (fun M1 h1 => ?_)
  obtain ⟨i1, i2, i3, i4, i5, i6⟩ := h1
  have hfc : nI (cnt (fun h => decide (M1 65 h = 0)) 40) = aWell w := by
    unfold aWell
    rw [cnt_cong 40 (fun t ht => by rw [show M1 65 t = _ from (i2 t ht).2.2.2.1])]
  have loop := z_l2 (P := zp_X6_wellOf) (ret := ret) (pc := 8) (L := zLay n eb) (N := 40) (lo := fun a x => [some (.ref 45), some (.int a), some (.int x)]) (I := fun h a x M' => M' = M1 ∧ a = nI (cnt (fun h => decide (M1 65 h = 0)) h) ∧ x = nI h) (by
    rintro h a x M' hh ⟨rfl, rfl, rfl⟩ ih
    have hch : (nI h).toNatClampNeg = h := z_cl (by omega)
    refine z_go ?_
    refine z_bf (nI_ge (a := h) (b := 40) hh (by omega)) ?_
    refine And.intro (z_inN0 (by omega) (by omega)) ?_
    refine z_br (fun h1n => ?_) (fun h1j => ?_)
    · refine z_go ?_
      have z := h1n
      simp only [hch] at z
      refine ih _ _ _ ⟨rfl, ?_, nI_1 h⟩
      show nI (cnt _ h) + 1 = _
      rw [nI_1, show cnt (fun h => decide (M' 65 h = 0)) (h + 1) = cnt (fun h => decide (M' 65 h = 0)) h + (if decide (M' 65 h = 0) = true then 1 else 0) from rfl, if_pos (decide_eq_true z)]
    · refine z_go ?_
      have z := h1j
      simp only [hch] at z
      refine ih _ _ _ ⟨rfl, ?_, nI_1 h⟩
      show nI (cnt _ h) + 0 = _
      rw [Int32.add_zero, show cnt (fun h => decide (M' 65 h = 0)) (h + 1) = cnt (fun h => decide (M' 65 h = 0)) h + (if decide (M' 65 h = 0) = true then 1 else 0) from rfl, if_neg (by simp [z]), Nat.add_zero]) (by
    rintro a x M' ⟨rfl, rfl, rfl⟩
    refine z_go ?_
    refine z_bt (nI_le (a := 40) (b := 40) (Nat.le_refl _) (by omega)) ?_
    refine z_go ?_
    exact z_rq hret (z_vi hfc) ⟨i1, i3⟩)
  exact loop 0 _ _ _ (Nat.zero_le _) ⟨rfl, rfl, rfl⟩
set_option maxRecDepth 10000 in
set_option maxHeartbeats 1000000 in
theorem e6_well (n eb : Nat) (M : zM) (w : Rw) (hC : rC w M) : zMet zi_X6_well [.ref 45] (zLay n eb) M (zLay n eb) (zr (some (.int (aWell w))) (fun M' => rC w M' ∧ rSm M M')) := by
  refine z_mr (zk_X6_well _ _) rfl (Nat.le_of_ble_eq_true rfl) rfl (fun ret hret => ?_)
  refine z_cx (d6_wellOf n eb M w hC) (fun M1 h1 => ?_)
  exact z_rq hret rfl h1

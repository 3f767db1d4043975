/-! the reference: the elbows, what is told -/
def rTe (M : zM) (f : Nat → Int32) (sz : Nat) : Prop := sz ≤ 40 ∧ M 46 1 = nI sz ∧ ∀ i, i < 40 → M 47 (55 + i) = f i
set_option maxRecDepth 10000 in
set_option maxHeartbeats 1000000 in
theorem c6_readsElbows (n eb : Nat) (M : zM) (f : Nat → Int32) (sz : Nat) (hT : rTe M f sz) : zMet zi_X6_readsElbows [.ref 45] (zLay n eb) M (zLay n eb) (zr (some (.int (eFt f sz))) (fun M' => M' 45 = upd (M 45) 8 (nI (eMn f sz)) ∧ (∀ p, p ≠ 45 → p ≠ 53 → M' p = M p) ∧ ∀ h, h < 40 → M' 53 h = eEl f sz h)) := by
  refine z_mr (zk_X6_readsElbows _ _) rfl (Nat.le_of_ble_eq_true rfl) rfl (fun ret hret => ?_)
  obtain ⟨hs40, hsz, htx⟩ := hT
  have loop3 : eK f sz = sz → _ := fun hks => z_l1 (P := zp_X6_readsElbows) (ret := ret) (pc := 67) (L := zLay n eb) (N := sz) (lo := fun x => [some (.ref 45), some (.int x)]) (I := fun i x M' => x = nI i ∧ ∃ l, M' = va_up (va_up M 45 (upd (M 45) 8 0)) 53 l ∧ (∀ t, t < i → l t = f t - 48) ∧ ∀ t, i ≤ t → t < 40 → l t = 3) (by
    rintro i x M' hi ⟨rfl, l, rfl, hl, hl2⟩ ih
    have hcl : (nI i).toNatClampNeg = i := z_cl (by omega)
    have h55 : 55 + nI i = nI (55 + i) := by rw [show (55 : Int32) = nI 55 from rfl, nI_add]
    refine z_go ?_
    refine And.intro (z_inN0 (i := 1) (n := 2) (by decide) (by decide)) ?_
    refine z_bf (by show ¬ M 46 1 ≤ nI i; rw [hsz]; exact nI_ge hi (by omega)) ?_
    refine And.intro (by show vp_in (55 + nI i) 110; rw [h55]; exact z_inN0 (by omega) (by omega)) ?_
    refine And.intro (z_inN0 (by omega) (by omega)) ?_
    refine ih _ _ ⟨nI_1 i, upd l i (f i - 48), ?_, fun t ht => ?_, fun t h1 h2 => ?_⟩
    · show va_up (va_up _ 53 l) 53 (upd l (nI i).toNatClampNeg (M 47 (55 + nI i).toNatClampNeg - 48)) = _
      rw [z_uu, hcl, h55, z_cl (by omega), htx i (by omega)]
    · by_cases e : t = i
      · subst e; simp [upd]
      · simp only [upd, e, if_false]; exact hl t (by omega)
    · simp only [upd]; rw [if_neg (by omega)]; exact hl2 t (by omega) h2) (by
    rintro x M' ⟨rfl, l, rfl, hl, hl2⟩
    refine z_go ?_
    refine And.intro (z_inN0 (i := 1) (n := 2) (by decide) (by decide)) ?_
    refine z_bt (by show M 46 1 ≤ nI sz; rw [hsz]; exact nI_le (Nat.le_refl _) (by omega)) ?_
    refine z_go ?_
    refine And.intro (z_inN0 (i := 1) (n := 2) (by decide) (by decide)) ?_
    refine z_rq hret (by rw [eFt, if_neg (by omega)]) ⟨?_, fun p hp hp2 => ?_, fun t ht => ?_⟩
    · show upd (upd (M 45) 8 0) 8 (M 46 1) = _
      rw [fa_upd_twice, hsz, eMn, if_neg (by omega)]
    · rw [z_un hp, z_un hp2, z_un hp]
    · show l t = _
      rw [eEl, show eMn f sz = sz by rw [eMn, if_neg (by omega)]]
      by_cases e : t < sz
      · rw [if_pos e]; exact hl t e
      · rw [if_neg e]; exact hl2 t (by omega) ht)
  have loop2 : ∀ l : Nat → Int32, (∀ t, t < 40 → l t = 3) → _ := fun l hl => z_l1 (P := zp_X6_readsElbows) (ret := ret) (pc := 28) (L := zLay n eb) (N := sz) (lo := fun x => [some (.ref 45), some (.int x)]) (I := fun i x M' => x = nI i ∧ M' = va_up (va_up M 45 (upd (M 45) 8 0)) 53 l ∧ ¬ eK f i < i) (by
    rintro i x M' hi ⟨rfl, rfl, hk⟩ ih
    have h55 : 55 + nI i = nI (55 + i) := by rw [show (55 : Int32) = nI 55 from rfl, nI_add]
    refine z_go ?_
    by_cases c : ¬ (48 ≤ f i ∧ f i ≤ 57)
    · refine And.intro (z_inN0 (i := 1) (n := 2) (by decide) (by decide)) ?_
      refine z_bf (by show ¬ M 46 1 ≤ nI i; rw [hsz]; exact nI_ge hi (by omega)) ?_
      refine And.intro (by show vp_in (55 + nI i) 110; rw [h55]; exact z_inN0 (by omega) (by omega)) ?_
      refine z_ca (c6_in _ _ _ _ _ (Nat.le_of_ble_eq_true rfl)) ?_
      refine z_bt (zb_0 (by show ¬ (48 ≤ M 47 (55 + nI i).toNatClampNeg ∧ M 47 (55 + nI i).toNatClampNeg ≤ 57); rw [h55, z_cl (by omega), htx i (by omega)]; exact c)) ?_
      have hk1 : eK f (i + 1) = i := by rw [eK_s, if_neg hk, if_pos c]
      have hks : eK f sz = i := (eK_stop (by rw [hk1]; omega) (by omega)).trans hk1
      refine z_rq hret (z_vi ?_) ⟨?_, fun p hp hp2 => ?_, fun t ht => ?_⟩
      · rw [eFt, hks, if_pos hi]
      · show upd (M 45) 8 0 = _
        rw [eMn, hks, if_pos hi]; rfl
      · rw [z_un hp2, z_un hp]
      · show l t = _
        rw [hl t ht, eEl, eMn, hks, if_pos hi, if_neg (Nat.not_lt_zero t)]
    · refine And.intro (z_inN0 (i := 1) (n := 2) (by decide) (by decide)) ?_
      refine z_bf (by show ¬ M 46 1 ≤ nI i; rw [hsz]; exact nI_ge hi (by omega)) ?_
      refine And.intro (by show vp_in (55 + nI i) 110; rw [h55]; exact z_inN0 (by omega) (by omega)) ?_
      refine z_ca (c6_in _ _ _ _ _ (Nat.le_of_ble_eq_true rfl)) ?_
      refine z_bf (fun z => c (by have z := zb_eq0.mp z; rw [show (55 + nI i).toNatClampNeg = 55 + i by rw [h55, z_cl (by omega)]] at z; rw [← htx i (by omega)]; exact z)) ?_
      refine z_go ?_
      refine ih _ _ ⟨nI_1 i, rfl, ?_⟩
      rw [eK_s, if_neg hk, if_neg c]; omega) (by
    rintro x M' ⟨rfl, rfl, hk⟩
    refine z_go ?_
    refine And.intro (z_inN0 (i := 1) (n := 2) (by decide) (by decide)) ?_
    refine z_bt (by show M 46 1 ≤ nI sz; rw [hsz]; exact nI_le (Nat.le_refl _) (by omega)) ?_
    refine z_go ?_
    exact loop3 (eK_ok hk) 0 _ _ (Nat.zero_le _) ⟨rfl, l, rfl, fun t ht => absurd ht (Nat.not_lt_zero t), fun t _ ht => hl t ht⟩)
  have loop1 := z_l1 (P := zp_X6_readsElbows) (ret := ret) (pc := 7) (L := zLay n eb) (N := 40) (lo := fun x => [some (.ref 45), some (.int x)]) (I := fun i x M' => x = nI i ∧ ∃ l, M' = va_up (va_up M 45 (upd (M 45) 8 0)) 53 l ∧ ∀ t, t < i → l t = 3) (by
    rintro i x M' hi ⟨rfl, l, rfl, hl⟩ ih
    have hcl : (nI i).toNatClampNeg = i := z_cl (by omega)
    refine z_go ?_
    refine z_bf (nI_ge (a := i) (b := 40) hi (by omega)) ?_
    refine And.intro (z_inN0 (by omega) (by omega)) ?_
    refine ih _ _ ⟨nI_1 i, upd l i 3, by rw [z_uu, z_us, hcl], fun t ht => ?_⟩
    by_cases e : t = i
    · subst e; simp [upd]
    · simp only [upd, e, if_false]; exact hl t (by omega)) (by
    rintro x M' ⟨rfl, l, rfl, hl⟩
    refine z_go ?_
    refine z_bt (nI_le (a := 40) (b := 40) (Nat.le_refl _) (by omega)) ?_
    refine z_go ?_
    exact loop2 l hl 0 _ _ (Nat.zero_le _) ⟨rfl, rfl, Nat.not_lt_zero _⟩)
  exact loop1 0 _ _ (Nat.zero_le _) ⟨rfl, M 53, (show va_up (va_up M 45 (upd (M 45) 8 0)) 53 ((va_up M 45 (upd (M 45) 8 0)) 53) = _ from z_uid).symm, fun t ht => absurd ht (Nat.not_lt_zero t)⟩
/-- what the reference holds behind a reading of its texts -/
def rRd (f0 f1 : Nat → Int32) (s0 s1 : Nat) (M M' : zM) : Prop :=
  M' 45 = upd (upd (M 45) 2 (nI (pRes f0 s0).2)) 8 (nI (eMn f1 s1)) ∧ (∀ p, p ≠ 45 → p < 48 ∨ 53 < p → M' p = M p) ∧ rHm f0 s0 (pRes f0 s0).2 M' ∧ ∀ h, h < 40 → M' 53 h = eEl f1 s1 h
set_option maxRecDepth 10000 in
set_option maxHeartbeats 1000000 in
theorem c6_faultOf (n eb : Nat) (M : zM) (f0 f1 : Nat → Int32) (s0 s1 : Nat) (hT : rTx M f0 s0) (hE : rTe M f1 s1) (x : Int32) : zMet zi_X6_faultOf [.ref 45, .int x] (zLay n eb) M (zLay n eb) (zr (some (.int (if x = 0 then (pRes f0 s0).1 else eFt f1 s1))) (rRd f0 f1 s0 s1 M)) := by
  refine z_mr (zk_X6_faultOf _ _) rfl (Nat.le_of_ble_eq_true rfl) rfl (fun ret hret => ?_)
  refine z_cx (c6_readsHouses n eb M f0 s0 hT) (fun M1 h1 => ?_)
  obtain ⟨a1, a2, a3⟩ := h1
  refine z_cx (c6_readsElbows n eb M1 f1 s1 (by unfold rTe; rw [a2 46 (by omega) (by omega), a2 47 (by omega) (by omega)]; exact hE)) (fun M2 h2 => ?_)
  obtain ⟨b1, b2, b3⟩ := h2
  refine z_br (fun h1n => ?_) (fun h1j => ?_)
  · refine z_go ?_
    refine z_rq hret (z_vi ?_) ⟨?_, fun p hp hp2 => ?_, ?_, b3⟩
    · simp [h1n]
    · rw [b1, a1]
    · rw [b2 p hp (by omega)]; exact a2 p hp (by omega)
    · intro k hk
      obtain ⟨r1, r2, r3, r4, r5⟩ := a3 k hk
      exact ⟨by rw [b2 48 (by omega) (by omega)]; exact r1, by rw [b2 49 (by omega) (by omega)]; exact r2, by rw [b2 50 (by omega) (by omega)]; exact r3, by rw [b2 51 (by omega) (by omega)]; exact r4, fun t ht => by rw [b2 52 (by omega) (by omega)]; exact r5 t ht⟩
  · refine z_go ?_
    refine z_rq hret (z_vi ?_) ⟨?_, fun p hp hp2 => ?_, ?_, b3⟩
    · simp [h1j]
    · rw [b1, a1]
    · rw [b2 p hp (by omega)]; exact a2 p hp (by omega)
    · intro k hk
      obtain ⟨r1, r2, r3, r4, r5⟩ := a3 k hk
      exact ⟨by rw [b2 48 (by omega) (by omega)]; exact r1, by rw [b2 49 (by omega) (by omega)]; exact r2, by rw [b2 50 (by omega) (by omega)]; exact r3, by rw [b2 51 (by omega) (by omega)]; exact r4, fun t ht => by rw [b2 52 (by omega) (by omega)]; exact r5 t ht⟩
set_option maxRecDepth 10000 in
set_option maxHeartbeats 1000000 in
theorem c6_reads (n eb : Nat) (M : zM) (f0 f1 : Nat → Int32) (s0 s1 : Nat) (hT : rTx M f0 s0) (hE : rTe M f1 s1) : zMet zi_X6_reads [.ref 45] (zLay n eb) M (zLay n eb) (zr none (rRd f0 f1 s0 s1 M)) := by
  refine z_mr (zk_X6_reads _ _) rfl (Nat.le_of_ble_eq_true rfl) rfl (fun ret hret => ?_)
  refine z_cx (c6_faultOf n eb M f0 f1 s0 s1 hT hE 0) (fun M1 h1 => ?_)
  exact z_rq hret rfl h1
set_option maxRecDepth 10000 in
set_option maxHeartbeats 1000000 in
theorem c6_isHouse (n eb : Nat) (M : zM) (f0 f1 : Nat → Int32) (s0 s1 : Nat) (hT : rTx M f0 s0) (hE : rTe M f1 s1) (x : Int32) : zMet zi_X6_isHouse [.ref 45, .int x] (zLay n eb) M (zLay n eb) (zr (some (.int (zb (0 ≤ x ∧ x ≤ nI (pRes f0 s0).2 - 1)))) (rRd f0 f1 s0 s1 M)) := by
  refine z_mr (zk_X6_isHouse _ _) rfl (Nat.le_of_ble_eq_true rfl) rfl (fun ret hret => ?_)
  refine z_cx (c6_reads n eb M f0 f1 s0 s1 hT hE) (fun M1 h1 => ?_)
  refine z_ca (z_cv (zb (0 ≤ x ∧ x ≤ nI (pRes f0 s0).2 - 1)) (c6_in _ _ _ _ _ (Nat.le_of_ble_eq_true rfl)) (by rw [h1.1]; rfl)) ?_
  exact And.intro (zb_nar _) (z_rq hret rfl h1)
/-- what the reference holds when all is as told -/
def rAs (f0 f1 : Nat → Int32) (s0 s1 : Nat) (M M' : zM) : Prop :=
  M' 45 = upd (upd (upd (upd (upd (upd (M 45) 2 (nI (pRes f0 s0).2)) 8 (nI (eMn f1 s1))) 19 0) 20 0) 21 (-1)) 22 (M 54 0) ∧ (∀ p, p ≠ 45 → p < 48 ∨ 53 < p → p ≠ 60 → M' p = M p) ∧ rHm f0 s0 (pRes f0 s0).2 M' ∧ (∀ h, h < 40 → M' 53 h = eEl f1 s1 h) ∧ ∀ h, h < 40 → M' 60 h = eEl f1 s1 h
set_option maxRecDepth 10000 in
set_option maxHeartbeats 1000000 in
theorem c6_asTold (n eb : Nat) (M : zM) (f0 f1 : Nat → Int32) (s0 s1 : Nat) (hT : rTx M f0 s0) (hE : rTe M f1 s1) : zMet zi_X6_asTold [.ref 45] (zLay n eb) M (zLay n eb) (zr none (rAs f0 f1 s0 s1 M)) := by
  refine z_mr (zk_X6_asTold _ _) rfl (Nat.le_of_ble_eq_true rfl) rfl (fun ret hret => ?_)
  refine z_cx (c6_reads n eb M f0 f1 s0 s1 hT hE) (fun M1 h1 => ?_)
  obtain ⟨a1, a2, a3, a4⟩ := h1
  have loop := z_l1 (P := zp_X6_asTold) (ret := ret) (pc := 6) (L := zLay n eb) (N := 40) (lo := fun x => [some (.ref 45), some (.int x)]) (I := fun i x M' => x = nI i ∧ ∃ l, M' = va_up M1 60 l ∧ ∀ t, t < i → l t = M1 53 t) (by
    rintro i x M' hi ⟨rfl, l, rfl, hl⟩ ih
    have hcl : (nI i).toNatClampNeg = i := z_cl (by omega)
    refine z_go ?_
    refine z_bf (nI_ge (a := i) (b := 40) hi (by omega)) ?_
    refine And.intro (z_inN0 (by omega) (by omega)) ?_
    refine And.intro (z_inN0 (by omega) (by omega)) ?_
    refine ih _ _ ⟨nI_1 i, upd l i (M1 53 i), by rw [z_uu, z_us, hcl] <;> rfl, fun t ht => ?_⟩
    by_cases e : t = i
    · subst e; simp [upd]
    · simp only [upd, e, if_false]; exact hl t (by omega)) (by
    rintro x M' ⟨rfl, l, rfl, hl⟩
    refine z_go ?_
    refine z_bt (nI_le (a := 40) (b := 40) (Nat.le_refl _) (by omega)) ?_
    refine z_go ?_
    refine And.intro (z_inN0 (i := 0) (n := 3) (by decide) (by decide)) ?_
    refine z_rq hret rfl ⟨?_, fun p hp hp2 hp3 => ?_, ?_, a4, fun t ht => (hl t ht).trans (a4 t ht)⟩
    · show upd (upd (upd (upd (M1 45) 19 0) 20 0) 21 (-1)) 22 (M1 54 0) = _
      rw [a1, a2 54 (by omega) (by omega)]
    · rw [z_un hp, z_un hp, z_un hp, z_un hp, z_un hp3]; exact a2 p hp hp2
    · exact a3)
  exact loop 0 _ _ (Nat.zero_le _) ⟨rfl, M1 60, z_uid.symm, fun t ht => absurd ht (Nat.not_lt_zero t)⟩

/-! what was seen: comesOut, isSeen; never, was -/
def sAll (f : Nat → Bool) : Nat → Bool
  | 0 => true
  | n + 1 => sAll f n && f n
theorem sAll_no {f : Nat → Bool} {i : Nat} (h : f i = false) : ∀ n, i < n → sAll f n = false
  | 0, hi => absurd hi (Nat.not_lt_zero i)
  | n + 1, hi => by
    unfold sAll
    by_cases e : i = n
    · rw [← e, h, Bool.and_false]
    · rw [sAll_no h n (by omega), Bool.false_and]
theorem sAll_ex {f : Nat → Bool} : ∀ {n : Nat}, ¬ sAll f n = true → ∃ i, i < n ∧ f i = false
  | 0, h => absurd rfl h
  | n + 1, h => by
    by_cases e : sAll f n = true
    · refine ⟨n, Nat.lt_succ_self n, ?_⟩
      unfold sAll at h
      rw [e, Bool.true_and] at h
      exact Bool.eq_false_iff.mpr h
    · obtain ⟨i, hi, q⟩ := sAll_ex e
      exact ⟨i, by omega, q⟩
theorem sAll_dn {f : Nat → Bool} {i n : Nat} (h : ¬ sAll f i = true) (hi : i ≤ n) : sAll f n = false := by
  obtain ⟨k, hk, q⟩ := sAll_ex h
  exact sAll_no q n (by omega)
noncomputable section
def sOk (w : Rw) (hr : Nat → Int32 × Int32 × Int32 × Int32 × (Nat → Int32)) (i : Nat) : Bool := decide (w.1 9 i < nI (tN w) ∧ (hr (w.1 8 i).toNatClampNeg).2.2.2.2 (w.1 9 i).toNatClampNeg = w.1 10 i)
def sOut (w : Rw) (hr : Nat → Int32 × Int32 × Int32 × Int32 × (Nat → Int32)) : Bool := sAll (sOk w hr) (w.2 4)
end
theorem sOk_y {w : Rw} {hr : Nat → Int32 × Int32 × Int32 × Int32 × (Nat → Int32)} {i t q : Nat} (ht : t < 40) (hq : q < tN w) (e8 : w.1 8 i = nI t) (e9 : w.1 9 i = nI q) : sOk w hr i = decide ((hr t).2.2.2.2 q = w.1 10 i) := by
  have h8 := tN8 w
  unfold sOk
  rw [e8, e9, z_cl (by omega), z_cl (by omega)]
  exact decide_eq_decide.mpr ⟨fun z => z.2, fun z => ⟨nI_lt hq (by omega), z⟩⟩
theorem sOk_n {w : Rw} {hr : Nat → Int32 × Int32 × Int32 × Int32 × (Nat → Int32)} {i q : Nat} (hq8 : q < 8) (hq : ¬ q < tN w) (e9 : w.1 9 i = nI q) : sOk w hr i = false := by
  have h8 := tN8 w
  unfold sOk
  rw [e9]
  exact decide_eq_false (fun z => nI_nlt (a := q) (b := tN w) (by omega) (by omega) z.1)
theorem c0_gotBy28' (n eb : Nat) (M : zM) (x y : Int32) (h k : Nat) (hh : h < 40) (hk : k < 8) (ex : x = nI h) (ey : y = nI k) : zMet zi_X0_gotBy [.ref 28, .int x, .int y] (zLay n eb) M (zLay n eb) (zx (some (.int (M 33 (8 * h + k)))) M) := by
  subst ex; subst ey
  exact c0_gotBy28 n eb M h k hh hk
theorem c5_isHouse' (n eb : Nat) (M : zM) (x : Int32) (q N : Nat) (hN : N ≤ 8) (ex : x = nI q) (hq8 : q < 8) (h86 : M 8 6 = nI N) : zMet zi_X5_isHouse [.ref 2, .int x] (zLay n eb) M (zLay n eb) (zx (some (.int (zb (q < N)))) M) := by
  have h := c5_isHouse n eb M x
  rw [h86] at h
  refine z_cv _ h ?_
  by_cases hq : q < N
  · rw [zb_1 hq]; exact zb_1 (by rw [ex]; exact rgH' hq hN)
  · rw [zb_0 hq]
    refine zb_0 (fun z => ?_)
    obtain ⟨k, hk, e⟩ := rgH hN z
    rw [ex] at e
    have := (nI_eq (by omega) (by omega)).mp e
    omega
set_option maxRecDepth 10000 in
set_option maxHeartbeats 1000000 in
theorem c5_comesOut (n eb : Nat) (M : zM) (w : Rw) (hr : Nat → Int32 × Int32 × Int32 × Int32 × (Nat → Int32)) (hw : wf w) (h13 : M 2 13 = nI (w.2 4)) (h86 : M 8 6 = nI (tN w)) (h38 : M 38 = w.1 8) (h39 : M 39 = w.1 9) (h40 : M 40 = w.1 10) (hc : crs 28 (tN w) hr M) : zMet zi_X5_comesOut [.ref 2, .ref 28] (zLay n eb) M (zLay n eb) (zx (some (.int (zb (sOut w hr = true)))) M) := by
  refine z_me (zk_X5_comesOut _ _) rfl (Nat.le_of_ble_eq_true rfl) rfl (fun ret hret => ?_)
  have h8 := tN8 w
  have w5 := hw.1.2.2.2.2
  have loop := z_l1 (P := zp_X5_comesOut) (ret := ret) (pc := 2) (L := zLay n eb) (N := w.2 4) (lo := fun x => [some (.ref 2), some (.ref 28), some (.int x)]) (I := fun i x M' => M' = M ∧ x = nI i ∧ sAll (sOk w hr) i = true) (by
    rintro i x M' hi ⟨rfl, rfl, hs⟩ ih
    have hch : (nI i).toNatClampNeg = i := z_cl (by omega)
    obtain ⟨⟨t, ht, e8⟩, q, hq8, e9⟩ := hw.2.2.2.1 i hi
    by_cases hq : q < tN w
    · have hg : M' 33 (8 * t + q) = (hr t).2.2.2.2 q := (hc t ht).2.2.2.2 q hq
      by_cases hm : (hr t).2.2.2.2 q = w.1 10 i
      · refine z_go ?_
        refine z_bf (by show ¬ M' 2 13 ≤ nI i; rw [h13]; exact nI_ge hi (by omega)) ?_
        refine And.intro (z_inN0 (by omega) (by omega)) ?_
        refine z_ca (z_cv 1 (c5_isHouse' n eb _ _ q (tN w) h8 (by show M' 39 (nI i).toNatClampNeg = _; rw [hch, h39]; exact e9) hq8 h86) (zb_1 hq)) ?_
        refine z_bf (by decide) ?_
        refine And.intro (z_inN0 (by omega) (by omega)) ?_
        refine And.intro (z_inN0 (by omega) (by omega)) ?_
        refine z_ca (c0_gotBy28' n eb _ _ _ t q ht (by omega) (by show M' 38 (nI i).toNatClampNeg = _; rw [hch, h38]; exact e8) (by show M' 39 (nI i).toNatClampNeg = _; rw [hch, h39]; exact e9)) ?_
        refine And.intro (z_inN0 (by omega) (by omega)) ?_
        refine z_bt (by show M' 33 (8 * t + q) = M' 40 (nI i).toNatClampNeg; rw [hch, h40, hg]; exact hm) ?_
        refine z_go ?_
        exact ih _ _ ⟨rfl, nI_1 i, by rw [sAll, hs, Bool.true_and, sOk_y ht hq e8 e9]; exact decide_eq_true hm⟩
      · refine z_go ?_
        refine z_bf (by show ¬ M' 2 13 ≤ nI i; rw [h13]; exact nI_ge hi (by omega)) ?_
        refine And.intro (z_inN0 (by omega) (by omega)) ?_
        refine z_ca (z_cv 1 (c5_isHouse' n eb _ _ q (tN w) h8 (by show M' 39 (nI i).toNatClampNeg = _; rw [hch, h39]; exact e9) hq8 h86) (zb_1 hq)) ?_
        refine z_bf (by decide) ?_
        refine And.intro (z_inN0 (by omega) (by omega)) ?_
        refine And.intro (z_inN0 (by omega) (by omega)) ?_
        refine z_ca (c0_gotBy28' n eb _ _ _ t q ht (by omega) (by show M' 38 (nI i).toNatClampNeg = _; rw [hch, h38]; exact e8) (by show M' 39 (nI i).toNatClampNeg = _; rw [hch, h39]; exact e9)) ?_
        refine And.intro (z_inN0 (by omega) (by omega)) ?_
        refine z_bf (by show ¬ M' 33 (8 * t + q) = M' 40 (nI i).toNatClampNeg; rw [hch, h40, hg]; exact hm) ?_
        exact And.intro rfl (z_re hret (z_vi (zb_0 (by rw [sOut, sAll_no (i := i) (by rw [sOk_y ht hq e8 e9]; exact decide_eq_false hm) _ hi]; decide)).symm) rfl)
    · refine z_go ?_
      refine z_bf (by show ¬ M' 2 13 ≤ nI i; rw [h13]; exact nI_ge hi (by omega)) ?_
      refine And.intro (z_inN0 (by omega) (by omega)) ?_
      refine z_ca (z_cv 0 (c5_isHouse' n eb _ _ q (tN w) h8 (by show M' 39 (nI i).toNatClampNeg = _; rw [hch, h39]; exact e9) hq8 h86) (zb_0 hq)) ?_
      refine z_bt (by decide) ?_
      refine z_go ?_
      exact And.intro rfl (z_re hret (z_vi (zb_0 (by rw [sOut, sAll_no (i := i) (sOk_n hq8 hq e9) _ hi]; decide)).symm) rfl)) (by
    rintro x M' ⟨rfl, rfl, hs⟩
    refine z_go ?_
    refine z_bt (by show M' 2 13 ≤ nI (w.2 4); rw [h13]; exact nI_le (Nat.le_refl _) (by omega)) ?_
    refine z_go ?_
    exact And.intro rfl (z_re hret (z_vi (zb_1 hs).symm) rfl))
  exact loop 0 _ _ (Nat.zero_le _) ⟨rfl, rfl, rfl⟩
theorem d5_comesOut (n : Nat) {w : Rw} {M M' : zM} {j : Nat} {hr : Nat → Int32 × Int32 × Int32 × Int32 × (Nat → Int32)} (hI : cC w M) (k : kpU j M M') (hc : crs 28 (tN w) hr M') : zMet zi_X5_comesOut [.ref 2, .ref 28] (zLay n 15) M' (zLay n 15) (zx (some (.int (zb (sOut w hr = true)))) M') := by
  obtain ⟨hw, -, -, -, c4, -, -, -, ⟨c81, c82, c83⟩, -, -, c11, -⟩ := hI
  exact c5_comesOut n 15 M' w hr hw (by rw [k.1 2 (by omega) (by omega)]; exact c11) (by rw [k.1 8 (by omega) (by omega)]; exact c4) (by rw [k.1 38 (by omega) (by omega)]; exact c81) (by rw [k.1 39 (by omega) (by omega)]; exact c82) (by rw [k.1 40 (by omega) (by omega)]; exact c83) hc
theorem kpU_kpT {j : Nat} {M M' : zM} (h : kpT M M') : kpU j M M' := ⟨fun p _ hp => h p hp, fun i _ => by rw [h 7 (by omega)]⟩
set_option maxRecDepth 10000 in
set_option maxHeartbeats 1000000 in
theorem d6_isSeen (n eb : Nat) (M : zM) {w : Rw} (hC : rC w M) {thL thP : Nat → Bool} {sh : Int32} {wd el : Nat → Int32} {st : Int32} (h : rTr w M thL thP sh wd el st) : zMet zi_X6_isSeen [.ref 45] (zLay n eb) M (zLay n eb) (zr (some (.int (zb (sOut w (tHr w thL thP sh wd el st) = true)))) (fun M' => M' 45 = upd (M 45) 23 (tHr w thL thP sh wd el st 39).1 ∧ (∀ p, p ≠ 45 → p < 61 ∨ 66 < p → M' p = M p) ∧ crs 61 (tN w) (tHr w thL thP sh wd el st) M')) := by
  refine z_mr (zk_X6_isSeen _ _) rfl (Nat.le_of_ble_eq_true rfl) rfl (fun ret hret => ?_)
  have h8 := tN8 w
  have w5 := hC.1.1.2.2.2.2
  refine z_cx (d_runs n eb M h) (fun M2 h2 => ?_)
  obtain ⟨q1, q2, q3⟩ := h2
  have s30 : M2 45 30 = nI (w.2 4) := by rw [q1, upd_ne (by omega)]; exact hC.2.2.2.2.2.1.2.2.1
  have s2 : M2 45 2 = nI (tN w) := by rw [q1, upd_ne (by omega)]; exact h.1.2.1
  have s67 : M2 67 = w.1 8 := by rw [q2 67 (by omega) (by omega)]; exact hC.2.2.2.2.2.2.2.1.1
  have s68 : M2 68 = w.1 9 := by rw [q2 68 (by omega) (by omega)]; exact hC.2.2.2.2.2.2.2.1.2.1
  have s69 : M2 69 = w.1 10 := by rw [q2 69 (by omega) (by omega)]; exact hC.2.2.2.2.2.2.2.1.2.2
  have loop := z_l2 (P := zp_X6_isSeen) (ret := ret) (pc := 8) (L := zLay n eb) (N := w.2 4) (lo := fun b x => [some (.ref 45), some (.int b), some (.int x)]) (I := fun i b x M' => M' = M2 ∧ b = zb (sAll (sOk w (tHr w thL thP sh wd el st)) i = true) ∧ x = nI i) (by
    rintro i b x M' hi ⟨rfl, rfl, rfl⟩ ih
    have hch : (nI i).toNatClampNeg = i := z_cl (by omega)
    by_cases hs : sAll (sOk w (tHr w thL thP sh wd el st)) i = true
    · obtain ⟨⟨t, ht, e8⟩, q, hq8, e9⟩ := hC.1.2.2.2.1 i hi
      have hat : 8 * M' 67 (nI i).toNatClampNeg + M' 68 (nI i).toNatClampNeg = nI (8 * t + q) := by rw [hch, s67, s68, e8, e9, show (8 : Int32) = nI 8 from rfl, pk_mul, nI_add]
      by_cases hq : q < tN w
      · have hg : M' 66 (8 * t + q) = (tHr w thL thP sh wd el st t).2.2.2.2 q := (q3 t ht).2.2.2.2 q hq
        by_cases hm : (tHr w thL thP sh wd el st t).2.2.2.2 q = w.1 10 i
        · refine z_go ?_
          refine z_bf (by show ¬ M' 45 30 ≤ nI i; rw [s30]; exact nI_ge hi (by omega)) ?_
          refine z_bf (by rw [zb_1 hs]; decide) ?_
          refine And.intro (z_inN0 (by omega) (by omega)) ?_
          refine z_bf (by show ¬ M' 45 2 ≤ M' 68 (nI i).toNatClampNeg; rw [hch, s68, e9, s2]; exact nI_ge hq (by omega)) ?_
          refine And.intro (z_inN0 (by omega) (by omega)) ?_
          refine And.intro (z_inN0 (by omega) (by omega)) ?_
          refine And.intro (by show vp_in (8 * M' 67 (nI i).toNatClampNeg + M' 68 (nI i).toNatClampNeg) 320; rw [hat]; exact z_inN0 (by omega) (by omega)) ?_
          refine And.intro (z_inN0 (by omega) (by omega)) ?_
          refine z_bt (by show M' 66 (8 * M' 67 (nI i).toNatClampNeg + M' 68 (nI i).toNatClampNeg).toNatClampNeg = M' 69 (nI i).toNatClampNeg; rw [hat, z_cl (by omega), hch, s69, hg]; exact hm) ?_
          refine z_go ?_
          exact ih _ _ _ ⟨rfl, (zb_1 (by rw [sAll, hs, Bool.true_and, sOk_y ht hq e8 e9]; exact decide_eq_true hm)).symm, nI_1 i⟩
        · refine z_go ?_
          refine z_bf (by show ¬ M' 45 30 ≤ nI i; rw [s30]; exact nI_ge hi (by omega)) ?_
          refine z_bf (by rw [zb_1 hs]; decide) ?_
          refine And.intro (z_inN0 (by omega) (by omega)) ?_
          refine z_bf (by show ¬ M' 45 2 ≤ M' 68 (nI i).toNatClampNeg; rw [hch, s68, e9, s2]; exact nI_ge hq (by omega)) ?_
          refine And.intro (z_inN0 (by omega) (by omega)) ?_
          refine And.intro (z_inN0 (by omega) (by omega)) ?_
          refine And.intro (by show vp_in (8 * M' 67 (nI i).toNatClampNeg + M' 68 (nI i).toNatClampNeg) 320; rw [hat]; exact z_inN0 (by omega) (by omega)) ?_
          refine And.intro (z_inN0 (by omega) (by omega)) ?_
          refine z_bf (by show ¬ M' 66 (8 * M' 67 (nI i).toNatClampNeg + M' 68 (nI i).toNatClampNeg).toNatClampNeg = M' 69 (nI i).toNatClampNeg; rw [hat, z_cl (by omega), hch, s69, hg]; exact hm) ?_
          refine z_go ?_
          exact ih _ _ _ ⟨rfl, (zb_0 (by rw [sAll_no (i := i) (by rw [sOk_y ht hq e8 e9]; exact decide_eq_false hm) _ (Nat.lt_succ_self i)]; decide)).symm, nI_1 i⟩
      · refine z_go ?_
        refine z_bf (by show ¬ M' 45 30 ≤ nI i; rw [s30]; exact nI_ge hi (by omega)) ?_
        refine z_bf (by rw [zb_1 hs]; decide) ?_
        refine And.intro (z_inN0 (by omega) (by omega)) ?_
        refine z_bt (by show M' 45 2 ≤ M' 68 (nI i).toNatClampNeg; rw [hch, s68, e9, s2]; exact nI_le (by omega) (by omega)) ?_
        refine z_go ?_
        exact ih _ _ _ ⟨rfl, (zb_0 (by rw [sAll_no (i := i) (sOk_n hq8 hq e9) _ (Nat.lt_succ_self i)]; decide)).symm, nI_1 i⟩
    · refine z_go ?_
      refine z_bf (by show ¬ M' 45 30 ≤ nI i; rw [s30]; exact nI_ge hi (by omega)) ?_
      refine z_bt (zb_0 hs) ?_
      refine z_go ?_
      exact And.intro (by rw [zb_0 hs]; rfl) (z_rq hret (z_vi (by rw [zb_0 hs, zb_0 (by rw [sOut, sAll_dn hs (by omega)]; decide)])) ⟨q1, q2, q3⟩)) (by
    rintro b x M' ⟨rfl, rfl, rfl⟩
    refine z_go ?_
    refine z_bt (by show M' 45 30 ≤ nI (w.2 4); rw [s30]; exact nI_le (Nat.le_refl _) (by omega)) ?_
    refine z_go ?_
    exact And.intro (zb_nar _) (z_rq hret rfl ⟨q1, q2, q3⟩))
  exact loop 0 _ _ _ (Nat.zero_le _) ⟨rfl, rfl, rfl⟩
theorem bwI_shl : ∀ k, k < 31 → (1 : Int32) <<< (nI k &&& 31) = nI (2 ^ k) := by decide
theorem bwI_or {a k : Nat} (ha : a < 2 ^ k) : nI a ||| nI (2 ^ k) = nI (a + 2 ^ k) := by
  have := fa_or_sum (a := a) (k := k) 1 ha
  rw [Nat.mul_one] at this
  rw [fa_or, Nat.or_comm, ← fa_or, this, Nat.add_comm]
theorem bwI_y {g : Nat → Bool} {k : Nat} (hk : k < 31) (h : g k = true) : nI (bw g k) ||| (1 <<< (nI k &&& 31)) = nI (bw g (k + 1)) := by
  rw [bwI_shl k hk, bwI_or (bw_lt g k), bw, if_pos h]
theorem bw_n {g : Nat → Bool} {k : Nat} (h : ¬ g k = true) : bw g (k + 1) = bw g k := by
  rw [bw, if_neg h, Nat.add_zero]
noncomputable section
def gNever (w : Rw) (k : Nat) : Bool := sOut w (tHr w allB (nB k) (-1) (pWd (w.1 1) (w.2 0)) (eEl (w.1 2) (w.2 1)) (w.1 0 0))
def aNever (w : Rw) : Int32 := nI (bw (gNever w) (w.2 3))
end
theorem rC_rkT {w : Rw} {f : Nat} {M M' : zM} (h : rC w M) (k : rkT f M M') (h11 : 11 ≠ f) (h15 : 15 ≠ f) (h30 : 30 ≠ f) (h40 : 40 ≠ f) : rC w M' := rC_sm h (rSm_rkT k h11 h15 h30 h40)
theorem rC_up {w : Rw} {f : Nat} {v : Int32} {M : zM} (h : rC w M) (h11 : 11 ≠ f) (h15 : 15 ≠ f) (h30 : 30 ≠ f) (h40 : 40 ≠ f) : rC w (va_up M 45 (upd (M 45) f v)) := rC_sm h ⟨fun p hp => z_un (by omega), upd_ne h11, upd_ne h15, upd_ne h30, upd_ne h40⟩
set_option maxRecDepth 10000 in
set_option maxHeartbeats 1000000 in
theorem e5_never (n : Nat) (M : zM) (w : Rw) (hI : cI w M) : zMet zi_X5_never [.ref 2] (zLay n 15) M (zLay n 15) (zr (some (.int (aNever w))) (fun M' => cI w M' ∧ ∀ p, 45 ≤ p → M' p = M p)) := by
  refine z_mr (zk_X5_never _ _) rfl (Nat.le_of_ble_eq_true rfl) rfl (fun ret hret => ?_)
  have h6 := hI.1.1.1.2.2.2.1
  have loop := z_l2 (P := zp_X5_never) (ret := ret) (pc := 4) (L := zLay n 15) (N := w.2 3) (lo := fun b x => [some (.ref 2), some (.int b), some (.int x)]) (I := fun h b x M' => kpU 14 M M' ∧ b = nI (bw (gNever w) h) ∧ x = nI h) (by
    rintro h b x M' hh ⟨hM, rfl, rfl⟩ ih
    have ht := cTr_14 (v := (-1 : Int32) ^^^ ((1 : Int32) <<< (nI h &&& 31))) (thP := nB h) hI.1 hM (fun i hi => thB_but h (by omega) i (by omega))
    by_cases hp : gNever w h = true
    · refine z_go ?_
      refine z_bf (by show ¬ M' 7 13 ≤ nI h; rw [hM.2 13 (by omega), hI.1.2.2.2.1.2.2.2.2.2.2.1]; exact nI_ge hh (by omega)) ?_
      refine z_cx (d_fol28_15 n _ (ht)) (fun M2 h2 => ?_)
      obtain ⟨q1, q2⟩ := h2
      refine z_ca (z_cv 1 (d5_comesOut n (j := 14) hI.1 (kpU_fol hM q1) q2) (zb_1 hp)) ?_
      refine z_bf (by decide) ?_
      exact ih _ _ _ ⟨kpU_fol hM q1, bwI_y (by omega) hp, nI_1 h⟩
    · refine z_go ?_
      refine z_bf (by show ¬ M' 7 13 ≤ nI h; rw [hM.2 13 (by omega), hI.1.2.2.2.1.2.2.2.2.2.2.1]; exact nI_ge hh (by omega)) ?_
      refine z_cx (d_fol28_15 n _ (ht)) (fun M2 h2 => ?_)
      obtain ⟨q1, q2⟩ := h2
      refine z_ca (z_cv 0 (d5_comesOut n (j := 14) hI.1 (kpU_fol hM q1) q2) (zb_0 hp)) ?_
      refine z_bt (by decide) ?_
      refine z_go ?_
      exact ih _ _ _ ⟨kpU_fol hM q1, by rw [bw_n hp], nI_1 h⟩) (by
    rintro b x M' ⟨hM, rfl, rfl⟩
    refine z_go ?_
    refine z_bt (by show M' 7 13 ≤ nI (w.2 3); rw [hM.2 13 (by omega), hI.1.2.2.2.1.2.2.2.2.2.2.1]; exact nI_le (Nat.le_refl _) (by omega)) ?_
    refine z_go ?_
    exact z_rq hret rfl ⟨cI_kpT hI (kpU_end hM hI.1.2.2.2.1.2.2.2.2.2.2.2.1), fun p hp => kpU_end hM hI.1.2.2.2.1.2.2.2.2.2.2.2.1 p (by omega)⟩)
  exact loop 0 _ _ _ (Nat.zero_le _) ⟨kpU_rf _ _, rfl, rfl⟩
set_option maxRecDepth 10000 in
set_option maxHeartbeats 1000000 in
theorem d6_neverNow (n eb : Nat) (M : zM) (w : Rw) (hC : rC w M) : zMet zi_X6_neverNow [.ref 45] (zLay n eb) M (zLay n eb) (zr (some (.int (aNever w))) (fun M' => rC w M' ∧ rSm M M')) := by
  refine z_mr (zk_X6_neverNow _ _) rfl (Nat.le_of_ble_eq_true rfl) rfl (fun ret hret => ?_)
  have h6 := hC.1.1.2.2.2.1
  refine z_cx (d6_asTold n eb M w hC) (fun M1 h1 => ?_)
  have loop := z_l2 (P := zp_X6_neverNow) (ret := ret) (pc := 8) (L := zLay n eb) (N := w.2 3) (lo := fun b x => [some (.ref 45), some (.int b), some (.int x)]) (I := fun h b x M' => rkT 20 M1 M' ∧ b = nI (bw (gNever w) h) ∧ x = nI h) (by
    rintro h b x M' hh ⟨hM, rfl, rfl⟩ ih
    have ht := rTr_20 (v := (1 : Int32) <<< (nI h &&& 31)) (thP := nB h) h1.2.1 hM (fun i hi => thN_but h (by omega) i (by omega))
    by_cases hp : gNever w h = true
    · refine z_go ?_
      refine z_bf (by show ¬ M' 45 15 ≤ nI h; rw [hM.2 15 (by omega) (by omega), h1.2.1.1.1.2.2.2.2.1]; exact nI_ge hh (by omega)) ?_
      refine z_cx (zMet_v 1 (d6_isSeen n eb _ (rC_up (rC_rkT h1.1 hM (by omega) (by omega) (by omega) (by omega)) (by omega) (by omega) (by omega) (by omega)) ht) (zb_1 hp)) (fun M2 h2 => ?_)
      obtain ⟨q1, q2, q3⟩ := h2
      refine z_bf (by decide) ?_
      refine z_go ?_
      exact ih _ _ _ ⟨rkT_run hM q1 q2, bwI_y (by omega) hp, nI_1 h⟩
    · refine z_go ?_
      refine z_bf (by show ¬ M' 45 15 ≤ nI h; rw [hM.2 15 (by omega) (by omega), h1.2.1.1.1.2.2.2.2.1]; exact nI_ge hh (by omega)) ?_
      refine z_cx (zMet_v 0 (d6_isSeen n eb _ (rC_up (rC_rkT h1.1 hM (by omega) (by omega) (by omega) (by omega)) (by omega) (by omega) (by omega) (by omega)) ht) (zb_0 hp)) (fun M2 h2 => ?_)
      obtain ⟨q1, q2, q3⟩ := h2
      refine z_bt (by decide) ?_
      refine z_go ?_
      exact ih _ _ _ ⟨rkT_run hM q1 q2, by rw [bw_n hp]; exact Int32.or_zero, nI_1 h⟩) (by
    rintro b x M' ⟨hM, rfl, rfl⟩
    refine z_go ?_
    refine z_bt (by show M' 45 15 ≤ nI (w.2 3); rw [hM.2 15 (by omega) (by omega), h1.2.1.1.1.2.2.2.2.1]; exact nI_le (Nat.le_refl _) (by omega)) ?_
    refine z_go ?_
    exact z_rq hret rfl ⟨rC_sm h1.1 (rSm_rkT hM (by omega) (by omega) (by omega) (by omega)), rSm_tr h1.2.2 (rSm_rkT hM (by omega) (by omega) (by omega) (by omega))⟩)
  exact loop 0 _ _ _ (Nat.zero_le _) ⟨rkT_rf _ _, rfl, rfl⟩
set_option maxRecDepth 10000 in
set_option maxHeartbeats 1000000 in
theorem e6_never (n eb : Nat) (M : zM) (w : Rw) (hC : rC w M) : zMet zi_X6_never [.ref 45] (zLay n eb) M (zLay n eb) (zr (some (.int (aNever w))) (fun M' => rC w M' ∧ rSm M M')) := by
  refine z_mr (zk_X6_never _ _) rfl (Nat.le_of_ble_eq_true rfl) rfl (fun ret hret => ?_)
  refine z_cx (d6_neverNow n eb M w hC) (fun M1 h1 => ?_)
  exact z_rq hret rfl h1

/-! ask, in both -/
def mx (f : Nat → Nat) : Nat → Nat
  | 0 => 0
  | n + 1 => if mx f n < f n then f n else mx f n
theorem mx_ge {f : Nat → Nat} : ∀ {n j : Nat}, j < n → f j ≤ mx f n
  | 0, j, h => absurd h (Nat.not_lt_zero j)
  | n + 1, j, h => by
    unfold mx
    by_cases e : j = n
    · subst e; split <;> omega
    · have := mx_ge (f := f) (n := n) (j := j) (by omega)
      split <;> omega
theorem mx_le {f : Nat → Nat} {B : Nat} : ∀ {n : Nat}, (∀ j, j < n → f j ≤ B) → mx f n ≤ B
  | 0, _ => Nat.zero_le _
  | n + 1, h => by
    have := mx_le (f := f) (n := n) (B := B) (fun j hj => h j (by omega))
    have := h n (by omega)
    unfold mx
    split <;> omega
theorem mx_st {f : Nat → Nat} {n : Nat} (hb : ∀ j, f j < 1000) : (if nI (mx f n) < nI (f n) then nI (f n) else nI (mx f n)) = nI (mx f (n + 1)) := by
  have h1 : mx f n ≤ 1000 := mx_le (fun j _ => by have := hb j; omega)
  have h2 := hb n
  rw [show mx f (n + 1) = if mx f n < f n then f n else mx f n from rfl]
  by_cases c : mx f n < f n
  · rw [if_pos c, if_pos (nI_lt c (by omega))]
  · rw [if_neg c, if_neg (nI_nlt (by omega) (by omega))]
theorem cnt_pos {g : Nat → Bool} : ∀ {n : Nat}, ¬ cnt g n = 0 → ∃ i, i < n ∧ g i = true
  | 0, h => absurd rfl h
  | n + 1, h => by
    by_cases q : g n = true
    · exact ⟨n, Nat.lt_succ_self n, q⟩
    · rw [cnt_n q] at h
      obtain ⟨i, hi, e⟩ := cnt_pos h
      exact ⟨i, by omega, e⟩
theorem cnt_f {g : Nat → Bool} : ∀ n, (∀ j, j < n → g j = false) → cnt g n = 0
  | 0, _ => rfl
  | n + 1, h => by
    rw [cnt_n (by rw [h n (by omega)]; decide)]
    exact cnt_f n (fun j hj => h j (by omega))
noncomputable section
/-- what the house k gets in the hour h by the width u -/
def gW (w : Rw) (k h u : Nat) : Int32 := (tWd w k u h).2.2.2.2 k
def nAl (w : Rw) (k h c : Nat) : Nat := cnt (fun u => gWas w k u && decide (gW w k h u = nI c)) 10
def nPr (w : Rw) (k h a : Nat) : Nat := cnt (fun b => gWas w k a && (gWas w k b && decide (gW w k h a = gW w k h b))) 10
def gAsk (w : Rw) (k h : Nat) : Option Nat := some (mx (nAl w k h) 5)
def aAskN (w : Rw) (k : Nat) : Int32 := pB (pBest (gAsk w k) 40)
def aAsk (w : Rw) (x : Int32) : Int32 := if 0 ≤ x ∧ x ≤ nI (tN w) - 1 then aAskN w x.toNatClampNeg else -2
end
theorem aAsk_e {w : Rw} {k : Nat} (hk : k < tN w) : aAsk w (nI k) = aAskN w k := by
  have h8 := tN8 w
  unfold aAsk
  rw [if_pos (rgH' hk h8), z_cl (by omega)]
theorem gWas_1 {w : Rw} {k u : Nat} (h : gWas w k u = true) : 1 ≤ u := by
  unfold gWas at h
  have := (Bool.and_eq_true _ _ ▸ h : _ ∧ _).1
  exact of_decide_eq_true this
theorem nAl_lt (w : Rw) (k h c : Nat) : nAl w k h c ≤ 10 := cnt_le _ _
theorem nPr_lt (w : Rw) (k h a : Nat) : nPr w k h a ≤ 10 := cnt_le _ _
theorem ask_eq {w : Rw} (hw : wf w) (hb : wb2 w) {k h : Nat} (hk : k < tN w) (hh : h < 40) : mx (nAl w k h) 5 = mx (nPr w k h) 10 := by
  have hG : ∀ u, u < 10 → ∃ c, c ≤ 4 ∧ gW w k h u = nI c := fun u hu => tWd_nat hw hb hk (by omega) hh
  have key : ∀ a c, gWas w k a = true → gW w k h a = nI c → nPr w k h a = nAl w k h c := by
    intro a c ha hc
    unfold nPr nAl
    refine cnt_cong 10 (fun b _ => ?_)
    rw [ha, Bool.true_and, hc]
    congr 1
    exact decide_eq_decide.mpr ⟨fun e => e.symm, fun e => e.symm⟩
  refine Nat.le_antisymm (mx_le (fun c hc => ?_)) (mx_le (fun a ha => ?_))
  · by_cases z : nAl w k h c = 0
    · rw [z]; exact Nat.zero_le _
    · obtain ⟨a, ha, e⟩ := cnt_pos z
      have e2 := (Bool.and_eq_true _ _ ▸ e : _ ∧ _)
      rw [← key a c e2.1 (of_decide_eq_true e2.2)]
      exact mx_ge ha
  · by_cases z : gWas w k a = true
    · obtain ⟨c, hc, e⟩ := hG a ha
      rw [key a c z e]
      exact mx_ge (by omega)
    · have : nPr w k h a = 0 := cnt_f 10 (fun b _ => by rw [Bool.eq_false_iff.mpr z, Bool.false_and])
      rw [this]
      exact Nat.zero_le _
theorem gAsk_lt (w : Rw) (k : Nat) : ∀ i v, gAsk w k i = some v → v < 999 := fun i v h => by
  have e := Option.some.inj h
  have : mx (nAl w k i) 5 ≤ 10 := mx_le (fun c _ => nAl_lt w k i c)
  omega
theorem bit_dec10 : ∀ k, k < 10 → ∀ v, v < 1024 → (nI v >>> (nI k &&& 31)) &&& 1 = nI (v / 2 ^ k % 2) := by decide +kernel
theorem bw_get10 (g : Nat → Bool) {k : Nat} (hk : k < 10) : zb ((nI (bw g 10) >>> (nI k &&& 31)) &&& 1 = 1) = zb (g k = true) := by
  rw [bit_dec10 k hk _ (bw_lt g 10), bw_bit]
  by_cases q : g k = true
  · rw [if_pos ⟨hk, q⟩, zb_1 q]; rfl
  · rw [if_neg (fun z => q z.2), zb_0 q]; rfl
/-- the tried course and the tally alone have changed -/
abbrev kpA (M M' : zM) : Prop := ∀ p, p ≤ 28 ∨ 34 < p → p ≠ 37 → M' p = M p
theorem cI_kpA {w : Rw} {M M' : zM} (h : cI w M) (s : kpA M M') : cI w M' := ⟨cC_sm h.1 ⟨fun p _ _ => s p (by omega) (by omega), fun p _ _ => s p (by omega) (by omega), by rw [s 2 (by omega) (by omega)], by rw [s 2 (by omega) (by omega)]⟩, cT_kp h.2.1 (by rw [s 2 (by omega) (by omega)]) (fun p _ _ => s p (by omega) (by omega)), cL_kp h.2.2 (by rw [s 2 (by omega) (by omega)]) (s 35 (by omega) (by omega))⟩
set_option maxRecDepth 10000 in
set_option maxHeartbeats 1000000 in
theorem c5_tallyHours (n : Nat) (M : zM) (k : Nat) (hk : k < 8) (G : Nat → Nat) (hG : ∀ h, h < 40 → M 33 (8 * h + k) = nI (G h) ∧ G h ≤ 4) : zMet zi_X5_tallyHours [.ref 2, .int (nI k)] (zLay n 15) M (zLay n 15) (zr none (fun M' => (∀ p, p ≠ 37 → M' p = M p) ∧ ∀ h, h < 40 → ∀ c, c < 5 → M' 37 (5 * h + c) = M 37 (5 * h + c) + (if G h = c then 1 else 0))) := by
  refine z_mr (zk_X5_tallyHours _ _) rfl (Nat.le_of_ble_eq_true rfl) rfl (fun ret hret => ?_)
  have loop := z_l1 (P := zp_X5_tallyHours) (ret := ret) (pc := 2) (L := zLay n 15) (N := 40) (lo := fun x => [some (.ref 2), some (.int (nI k)), some (.int x), none]) (I := fun t x M' => x = nI t ∧ (∀ p, p ≠ 37 → M' p = M p) ∧ ∀ h, h < 40 → ∀ c, c < 5 → M' 37 (5 * h + c) = M 37 (5 * h + c) + (if h < t ∧ G h = c then 1 else 0)) (by
    rintro t x M' ht ⟨rfl, hM, hA⟩ ih
    have hg4 := (hG t ht).2
    have hix : nI t * 5 + nI (G t) = nI (5 * t + G t) := by rw [show (5 : Int32) = nI 5 from rfl, pk_mul, nI_add, Nat.mul_comm]
    refine z_go ?_
    refine z_bf (nI_ge (a := t) (b := 40) ht (by omega)) ?_
    refine z_ca (z_cv (nI (G t)) (c0_gotBy28 n 15 _ t k ht hk) (by rw [hM 33 (by omega)]; exact (hG t ht).1)) ?_
    refine z_ca (z_cv 1 (c5_within _ _ _ _ _ (Nat.le_of_ble_eq_true rfl)) (zb_1 ⟨nI_pos' (by omega), nI_le (a := G t) (b := 4) hg4 (by omega)⟩)) ?_
    refine z_bf (by decide) ?_
    refine And.intro (by show vp_in (nI t * 5 + nI (G t)) 200; rw [hix]; exact z_inN0 (by omega) (by omega)) ?_
    refine And.intro (by show vp_in (nI t * 5 + nI (G t)) 200; rw [hix]; exact z_inN0 (by omega) (by omega)) ?_
    refine ih _ _ ⟨nI_1 t, fun p hp => ?_, fun h hh c hc => ?_⟩
    · rw [z_un hp]; exact hM p hp
    · rw [z_us]
      show upd (M' 37) (nI t * 5 + nI (G t)).toNatClampNeg (M' 37 (nI t * 5 + nI (G t)).toNatClampNeg + 1) (5 * h + c) = _
      rw [hix, z_cl (by omega)]
      by_cases e : h = t
      · subst e
        by_cases e2 : G h = c
        · rw [← e2, upd_eq, hA h hh (G h) (by omega), if_neg (by omega), if_pos ⟨by omega, rfl⟩, Int32.add_zero]
        · rw [upd_ne (by omega), hA h hh c hc, if_neg (by omega), if_neg (fun z => e2 z.2)]
      · rw [upd_ne (by omega), hA h hh c hc]
        congr 1
        by_cases q : h < t ∧ G h = c
        · rw [if_pos q, if_pos ⟨by omega, q.2⟩]
        · rw [if_neg q, if_neg (fun z => q ⟨by omega, z.2⟩)]) (by
    rintro x M' ⟨rfl, hM, hA⟩
    refine z_go ?_
    refine z_bt (nI_le (a := 40) (b := 40) (Nat.le_refl _) (by omega)) ?_
    refine z_go ?_
    refine z_rq hret rfl ⟨hM, fun h hh c hc => ?_⟩
    rw [hA h hh c hc]
    congr 1
    by_cases q : G h = c
    · rw [if_pos q, if_pos ⟨hh, q⟩]
    · rw [if_neg q, if_neg (fun z => q z.2)])
  exact loop 0 _ _ (Nat.zero_le _) ⟨rfl, fun _ _ => rfl, fun h hh c hc => by rw [if_neg (by omega), Int32.add_zero]⟩
set_option maxRecDepth 10000 in
set_option maxHeartbeats 1000000 in
theorem c5_greatestAlike (n : Nat) (M : zM) (h : Nat) (hh : h < 40) (N : Nat → Nat) (hB : ∀ j, N j < 1000) (hN : ∀ c, c < 5 → M 37 (5 * h + c) = nI (N c)) : zMet zi_X5_greatestAlike [.ref 2, .int (nI h)] (zLay n 15) M (zLay n 15) (zx (some (.int (nI (mx N 5)))) M) := by
  refine z_me (zk_X5_greatestAlike _ _) rfl (Nat.le_of_ble_eq_true rfl) rfl (fun ret hret => ?_)
  have loop := z_l2 (P := zp_X5_greatestAlike) (ret := ret) (pc := 4) (L := zLay n 15) (N := 5) (lo := fun b x => [some (.ref 2), some (.int (nI h)), some (.int b), some (.int x)]) (I := fun c b x M' => M' = M ∧ b = nI (mx N c) ∧ x = nI c) (by
    rintro c b x M' hc ⟨rfl, rfl, rfl⟩ ih
    have hix : nI h * 5 + nI c = nI (5 * h + c) := by rw [show (5 : Int32) = nI 5 from rfl, pk_mul, nI_add, Nat.mul_comm]
    refine z_go ?_
    refine z_bf (fun q => absurd ((nI_ltI (a := 4) (b := c) (by omega) (by omega)).mp q) (by omega)) ?_
    refine And.intro (by show vp_in (nI h * 5 + nI c) 200; rw [hix]; exact z_inN0 (by omega) (by omega)) ?_
    refine ih _ _ _ ⟨rfl, ?_, nI_1 c⟩
    show (if nI (mx N c) < M' 37 (nI h * 5 + nI c).toNatClampNeg then M' 37 (nI h * 5 + nI c).toNatClampNeg else nI (mx N c)) = _
    rw [hix, z_cl (by omega), hN c hc]
    exact mx_st hB) (by
    rintro b x M' ⟨rfl, hb, rfl⟩
    refine z_go ?_
    refine z_bt (nI_lt (a := 4) (b := 5) (by omega) (by omega)) ?_
    refine z_go ?_
    exact z_re hret (z_vi hb) rfl)
  exact loop 0 _ _ _ (Nat.zero_le _) ⟨rfl, rfl, rfl⟩
set_option maxRecDepth 10000 in
set_option maxHeartbeats 1000000 in
theorem d5_tallyWidths (n : Nat) (M : zM) (w : Rw) (hI : cI w M) (hB : wb2 w) (k : Nat) (hk : k < tN w) : zMet zi_X5_tallyWidths [.ref 2, .int (nI k)] (zLay n 15) M (zLay n 15) (zr none (fun M' => kpA M M' ∧ ∀ h, h < 40 → ∀ c, c < 5 → M' 37 (5 * h + c) = nI (cnt (fun u => gWas w k u && decide (gW w k h u = nI c)) 10))) := by
  refine z_mr (zk_X5_tallyWidths _ _) rfl (Nat.le_of_ble_eq_true rfl) rfl (fun ret hret => ?_)
  have h8 := tN8 w
  have hGG : ∀ v, v ≤ 9 → ∀ M2 : zM, crs 28 (tN w) (tWd w k v) M2 → ∀ h, h < 40 → M2 33 (8 * h + k) = nI (gW w k h v).toNatClampNeg ∧ (gW w k h v).toNatClampNeg ≤ 4 := by
    intro v hv M2 q2 h hh
    obtain ⟨c, hc, e⟩ := tWd_nat hI.1.1 hB hk hv hh
    have e' : gW w k h v = nI c := e
    rw [show M2 33 (8 * h + k) = gW w k h v from (q2 h hh).2.2.2.2 k hk, e', z_cl (by omega)]
    exact ⟨rfl, hc⟩
  have hz : ∀ {h c : Nat}, (0 : Int32) = nI (cnt (fun u => gWas w k u && decide (gW w k h u = nI c)) 1) := by
    intro h c
    rw [cnt_n (by unfold gWas; simp)]
    rfl
  have loop2 := z_l1 (P := zp_X5_tallyWidths) (ret := ret) (pc := 26) (L := zLay n 15) (N := 10) (lo := fun x => [some (.ref 2), some (.int (nI k)), some (.int x)]) (I := fun v x M' => kpA M M' ∧ x = nI v ∧ 1 ≤ v ∧ ∀ h, h < 40 → ∀ c, c < 5 → M' 37 (5 * h + c) = nI (cnt (fun u => gWas w k u && decide (gW w k h u = nI c)) v)) (by
    rintro v x M' hv ⟨hM, rfl, h1, hA⟩ ih
    have hGG := hGG v (by omega)
    by_cases hp : sOut w (tWd w k v) = true
    · refine z_go ?_
      refine z_bf (fun q => absurd ((nI_ltI (a := 9) (b := v) (by omega) (by omega)).mp q) (by omega)) ?_
      refine z_cx (d5_tryWide n M' w (cI_kpA hI hM) k v hk) (fun M2 h2 => ?_)
      obtain ⟨q1, q2⟩ := h2
      have k2 : kpA M M2 := fun p p1 p2 => (q1 p p1).trans (hM p p1 p2)
      refine z_ca (z_cv 1 (d5_comesOut n (j := 0) (cI_kpA hI k2).1 (kpU_rf 0 M2) q2) (zb_1 hp)) ?_
      refine z_bf (by decide) ?_
      refine z_cx (c5_tallyHours n M2 k (by omega) (fun h => (gW w k h v).toNatClampNeg) (fun h hh => hGG M2 q2 h hh)) (fun M3 h3 => ?_)
      obtain ⟨r1, r2⟩ := h3
      refine ih _ _ ⟨fun p p1 p2 => (r1 p p2).trans (k2 p p1 p2), nI_1 v, by omega, fun h hh c hc => ?_⟩
      rw [r2 h hh c hc, q1 37 (by omega), hA h hh c hc]
      obtain ⟨c', hc', e⟩ := tWd_nat hI.1.1 hB hk (show v ≤ 9 by omega) hh
      have e' : gW w k h v = nI c' := e
      by_cases q : c' = c
      · rw [if_pos (by rw [e', z_cl (by omega)]; exact q), cnt_y (by rw [gWas_y h1, hp, Bool.true_and]; exact decide_eq_true (by rw [e', q]))]
      · rw [if_neg (by rw [e', z_cl (by omega)]; exact q), Int32.add_zero, cnt_n (by
          rw [gWas_y h1, hp, Bool.true_and]
          exact fun z => q (by
            have z2 := of_decide_eq_true z
            rw [e'] at z2
            exact (nI_eq (by omega) (by omega)).mp z2))]
    · refine z_go ?_
      refine z_bf (fun q => absurd ((nI_ltI (a := 9) (b := v) (by omega) (by omega)).mp q) (by omega)) ?_
      refine z_cx (d5_tryWide n M' w (cI_kpA hI hM) k v hk) (fun M2 h2 => ?_)
      obtain ⟨q1, q2⟩ := h2
      have k2 : kpA M M2 := fun p p1 p2 => (q1 p p1).trans (hM p p1 p2)
      refine z_ca (z_cv 0 (d5_comesOut n (j := 0) (cI_kpA hI k2).1 (kpU_rf 0 M2) q2) (zb_0 hp)) ?_
      refine z_bt (by decide) ?_
      refine z_go ?_
      refine ih _ _ ⟨k2, nI_1 v, by omega, fun h hh c hc => ?_⟩
      rw [q1 37 (by omega), hA h hh c hc, cnt_n (by rw [gWas_y h1, Bool.eq_false_iff.mpr hp, Bool.false_and]; decide)]) (by
    rintro x M' ⟨hM, rfl, h1, hA⟩
    refine z_go ?_
    refine z_bt (nI_lt (a := 9) (b := 10) (by omega) (by omega)) ?_
    refine z_go ?_
    exact z_rq hret rfl ⟨hM, hA⟩)
  have loop := z_l1 (P := zp_X5_tallyWidths) (ret := ret) (pc := 2) (L := zLay n 15) (N := 200) (lo := fun x => [some (.ref 2), some (.int (nI k)), some (.int x)]) (I := fun t x M' => x = nI t ∧ (∀ p, p ≠ 37 → M' p = M p) ∧ ∀ i, i < t → M' 37 i = 0) (by
    rintro t x M' ht ⟨rfl, hM, hA⟩ ih
    refine z_go ?_
    refine z_bf (nI_ge (a := t) (b := 200) ht (by omega)) ?_
    refine And.intro (z_inN0 (by omega) (by omega)) ?_
    refine ih _ _ ⟨nI_1 t, fun p hp => ?_, fun i hi => ?_⟩
    · rw [z_un hp]; exact hM p hp
    · rw [z_us]
      by_cases e : i = t
      · subst e; rw [z_cl (by omega), upd_eq]
      · rw [z_cl (by omega), upd_ne e]; exact hA i (by omega)) (by
    rintro x M' ⟨rfl, hM, hA⟩
    refine z_go ?_
    refine z_bt (nI_le (a := 200) (b := 200) (Nat.le_refl _) (by omega)) ?_
    refine z_go ?_
    exact loop2 1 _ _ (by omega) ⟨fun p _ p2 => hM p p2, rfl, Nat.le_refl _, fun h hh c hc => by rw [hA _ (by omega), hz]⟩)
  exact loop 0 _ _ (Nat.zero_le _) ⟨rfl, fun _ _ => rfl, fun i hi => absurd hi (Nat.not_lt_zero i)⟩
set_option maxRecDepth 10000 in
set_option maxHeartbeats 1000000 in
theorem e5_ask (n : Nat) (M : zM) (w : Rw) (hI : cI w M) (hB : wb2 w) (x : Int32) : zMet zi_X5_ask [.ref 2, .int x] (zLay n 15) M (zLay n 15) (zr (some (.int (aAsk w x))) (fun M' => cI w M' ∧ ∀ p, 45 ≤ p → M' p = M p)) := by
  refine z_mr (zk_X5_ask _ _) rfl (Nat.le_of_ble_eq_true rfl) rfl (fun ret hret => ?_)
  have h8 := tN8 w
  by_cases hx : 0 ≤ x ∧ x ≤ nI (tN w) - 1
  · obtain ⟨k, hk, rfl⟩ := rgH h8 hx
    refine z_ca (z_cv 1 (d5_isHouse n 15 M w hI.1 _) (zb_1 hx)) ?_
    refine z_bf (by decide) ?_
    refine z_go ?_
    refine z_cx (d5_tallyWidths n M w hI hB k hk) (fun M1 h1 => ?_)
    obtain ⟨t1, t2⟩ := h1
    have loop := z_l2 (P := zp_X5_ask) (ret := ret) (pc := 21) (L := zLay n 15) (N := 40) (lo := fun b x => [some (.ref 2), none, some (.int b), some (.int x)]) (I := fun h b x M' => M' = M1 ∧ b = pE (pBest (gAsk w k) h) ∧ x = nI h) (by
      rintro h b x M' hh ⟨rfl, rfl, rfl⟩ ih
      refine z_go ?_
      refine z_bf (nI_ge (a := h) (b := 40) hh (by omega)) ?_
      refine z_ca (c5_greatestAlike n _ h hh (nAl w k h) (fun c => by have := nAl_lt w k h c; omega) (fun c hc => t2 h hh c hc)) ?_
      exact ih _ _ _ ⟨rfl, pE_st (g := gAsk w k) (by omega) (gAsk_lt w k) rfl, nI_1 h⟩) (by
      rintro b x M' ⟨rfl, hb, rfl⟩
      refine z_go ?_
      refine z_bt (nI_le (a := 40) (b := 40) (Nat.le_refl _) (by omega)) ?_
      refine z_go ?_
      refine z_ca (z_cv (pAns (pBest (gAsk w k) 40) 0) (c5_partOf _ _ _ _ (Nat.le_of_ble_eq_true rfl)) (by rw [hb]; exact pE_part _ 0 (by omega) (fun q hq => ⟨by have := (pBest_lt 40 q hq).1; omega, gAsk_lt w k _ _ (pBest_lt 40 q hq).2⟩))) ?_
      exact z_rq hret (z_vi (by rw [aAsk_e hk, aAskN, pAns_0])) ⟨cI_kpA hI t1, fun p hp => t1 p (by omega) (by omega)⟩)
    exact loop 0 _ _ _ (Nat.zero_le _) ⟨rfl, rfl, rfl⟩
  · refine z_ca (z_cv 0 (d5_isHouse n 15 M w hI.1 _) (zb_0 hx)) ?_
    refine z_bt (by decide) ?_
    exact z_rq hret (z_vi (show _ = aAsk w x from (if_neg hx).symm)) ⟨hI, fun _ _ => rfl⟩

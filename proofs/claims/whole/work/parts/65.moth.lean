/-! moth: the reference -/
def wtR (c st : Nat) : Nat → Nat
  | 0 => 1
  | i + 1 => wtR c st i * (if mThB (nI st) i = true then 16 - c else c)
noncomputable section
def mR (w : Rw) (c k st : Nat) : Nat := if cnt (fun h => tSh w (mThN (nI st)) allB (-1) (pWd (w.1 1) (w.2 0)) (eEl (w.1 2) (w.2 1)) (w.1 0 0) h k) 40 = 0 then wtR c st (w.2 2) else 0
end
theorem th_rev : ∀ K, K ≤ 6 → ∀ st, st < 2 ^ K → ∀ i, i < K → mThN (nI st) i = mThB (nI (2 ^ K - 1 - st)) i ∧ mThB (nI st) i = !mThB (nI (2 ^ K - 1 - st)) i := by decide +kernel
theorem tSh_cong {w : Rw} {thL thL' : Nat → Bool} (e : ∀ i, i < w.2 2 → thL i = thL' i) (thP : Nat → Bool) (sh : Int32) (wd el : Nat → Int32) (st : Int32) : tSh w thL thP sh wd el st = tSh w thL' thP sh wd el st := by
  have h1 : tLk w thL = tLk w thL' := by
    funext h
    unfold tLk
    exact mLk_cong _ e
  have h2 : tHr w thL thP sh wd el st = tHr w thL' thP sh wd el st := by
    unfold tHr
    rw [h1]
  funext h k
  unfold tSh
  rw [h2]
theorem wt_rev {c st K : Nat} (hK : K ≤ 6) (hs : st < 2 ^ K) : ∀ i, i ≤ K → wtR c st i = wtC c (2 ^ K - 1 - st) i
  | 0, _ => rfl
  | i + 1, hi => by
    unfold wtR wtC
    rw [wt_rev hK hs i (by omega), (th_rev K hK st hs i (by omega)).2]
    cases mThB (nI (2 ^ K - 1 - st)) i <;> rfl
theorem sm_last (f : Nat → Nat) : ∀ n, sm f (n + 1) = f 0 + sm (fun j => f (j + 1)) n
  | 0 => by simp [sm]
  | n + 1 => by
    rw [show sm f (n + 1 + 1) = sm f (n + 1) + f (n + 1) from rfl, sm_last f n, Nat.add_assoc]
    rfl
theorem sm_rev (f : Nat → Nat) : ∀ n, sm f n = sm (fun j => f (n - 1 - j)) n
  | 0 => rfl
  | n + 1 => by
    rw [sm_last (fun j => f (n + 1 - 1 - j)) n, show sm f (n + 1) = sm f n + f n from rfl, sm_rev f n, Nat.add_comm]
    congr 1
    refine sm_cong n (fun j hj => ?_)
    congr 1
    omega
theorem mR_sum (w : Rw) (c k : Nat) (h6 : w.2 2 ≤ 6) : sm (mR w c k) (2 ^ w.2 2) = mSum w c k := by
  unfold mSum
  rw [sm_rev (fun ch => if tEv w ch k = true then 0 else wtC c ch (w.2 2))]
  refine sm_cong _ (fun st hs => ?_)
  have e := tSh_cong (w := w) (thL := mThN (nI st)) (thL' := tCh (2 ^ w.2 2 - 1 - st)) (fun i hi => (th_rev _ h6 st hs i hi).1) allB (-1) (pWd (w.1 1) (w.2 0)) (eEl (w.1 2) (w.2 1)) (w.1 0 0)
  unfold mR tEv
  rw [e, wt_rev h6 hs _ (Nat.le_refl _)]
  by_cases z : cnt (fun h => tSh w (tCh (2 ^ w.2 2 - 1 - st)) allB (-1) (pWd (w.1 1) (w.2 0)) (eEl (w.1 2) (w.2 1)) (w.1 0 0) h k) 40 = 0
  · rw [if_pos z, if_neg (by simp [z])]
  · rw [if_neg z, if_pos (by simp [z])]
set_option maxRecDepth 10000 in
set_option maxHeartbeats 1000000 in
theorem c6_lowest0 (a b : Nat) (ha : a < 2 ^ 31) (hb : b < 2 ^ 31) (h0 : 0 < b) (L : zL) (M : zM) (hL : 2 ≤ L.length) : zMet zi_X6_lowest [.long (lN a), .long (lN b), .int (nI 0)] L M L (zx (some (.long (lN (a / Nat.gcd a b)))) M) := by
  refine z_me (zk_X6_lowest _ _) rfl hL rfl (fun ret hret => ?_)
  have hg0 : 0 < Nat.gcd a b := Nat.gcd_pos_of_pos_right a h0
  have hgb : Nat.gcd a b ≤ b := Nat.gcd_le_right a h0
  have key : ∀ q p, p < 2 ^ 31 → q < 2 ^ 31 → Nat.gcd p q = Nat.gcd a b → z_E zp_X6_lowest ret 6 [some (.long (lN a)), none, some (.long (lN b)), none, some (.int (nI 0)), some (.long (lN p)), none, some (.long (lN q)), none, none, none] [] L M := by
    intro q
    induction q using Nat.strongRecOn with
    | ind q ih =>
      intro p hp hq hg
      by_cases q0 : q = 0
      · subst q0
        rw [Nat.gcd_zero_right] at hg
        have hp0 : lN p = lN (Nat.gcd a b) := by rw [hg]
        refine z_go ?_
        refine z_bt ((lg_cmp_eq _ _).mpr rfl) ?_
        refine z_go ?_
        refine z_bt rfl ?_
        refine And.intro (fun z => by have z2 := (lN_eq (a := p) (b := 0) hp (by omega)).mp z; omega) ?_
        refine z_go ?_
        refine z_re hret (z_vl ?_) rfl
        show lN a / lN p = _
        rw [hp0, pk_lDiv (by omega) hg0 (by omega)]
      · refine z_go ?_
        refine z_bf (fun z => q0 ((lN_eq (a := q) (b := 0) hq (by omega)).mp ((lg_cmp_eq _ _).mp z))) ?_
        refine And.intro (fun z => q0 ((lN_eq (a := q) (b := 0) hq (by omega)).mp z)) ?_
        have e : lN p - lN p / lN q * lN q = lN (p % q) := pk_lRem (by omega) (by omega) (by omega)
        have hm := Nat.mod_lt p (show 0 < q by omega)
        have h := ih (p % q) hm q hq (by omega) (by rw [← hg, Nat.gcd_comm p q, Nat.gcd_rec q p, Nat.gcd_comm])
        rw [← e] at h
        exact h
  exact key b a ha hb rfl
theorem c6_lowest0' (x y : Int64) (a b : Nat) (ha : a < 2 ^ 31) (hb : b < 2 ^ 31) (h0 : 0 < b) (ex : x = lN a) (ey : y = lN b) (L : zL) (M : zM) (hL : 2 ≤ L.length) : zMet zi_X6_lowest [.long x, .long y, .int (nI 0)] L M L (zx (some (.long (lN (a / Nat.gcd a b)))) M) := by
  subst ex; subst ey
  exact c6_lowest0 a b ha hb h0 L M hL
set_option maxRecDepth 10000 in
set_option maxHeartbeats 1000000 in
theorem c6_lowest1 (a b : Nat) (ha : a < 2 ^ 31) (hb : b < 2 ^ 31) (h0 : 0 < b) (L : zL) (M : zM) (hL : 2 ≤ L.length) : zMet zi_X6_lowest [.long (lN a), .long (lN b), .int (nI 1)] L M L (zx (some (.long (lN (b / Nat.gcd a b)))) M) := by
  refine z_me (zk_X6_lowest _ _) rfl hL rfl (fun ret hret => ?_)
  have hg0 : 0 < Nat.gcd a b := Nat.gcd_pos_of_pos_right a h0
  have hgb : Nat.gcd a b ≤ b := Nat.gcd_le_right a h0
  have key : ∀ q p, p < 2 ^ 31 → q < 2 ^ 31 → Nat.gcd p q = Nat.gcd a b → z_E zp_X6_lowest ret 6 [some (.long (lN a)), none, some (.long (lN b)), none, some (.int (nI 1)), some (.long (lN p)), none, some (.long (lN q)), none, none, none] [] L M := by
    intro q
    induction q using Nat.strongRecOn with
    | ind q ih =>
      intro p hp hq hg
      by_cases q0 : q = 0
      · subst q0
        rw [Nat.gcd_zero_right] at hg
        have hp0 : lN p = lN (Nat.gcd a b) := by rw [hg]
        refine z_go ?_
        refine z_bt ((lg_cmp_eq _ _).mpr rfl) ?_
        refine z_go ?_
        refine z_bf (by decide) ?_
        refine z_go ?_
        refine And.intro (fun z => by have z2 := (lN_eq (a := p) (b := 0) hp (by omega)).mp z; omega) ?_
        refine z_re hret (z_vl ?_) rfl
        show lN b / lN p = _
        rw [hp0, pk_lDiv (by omega) hg0 (by omega)]
      · refine z_go ?_
        refine z_bf (fun z => q0 ((lN_eq (a := q) (b := 0) hq (by omega)).mp ((lg_cmp_eq _ _).mp z))) ?_
        refine And.intro (fun z => q0 ((lN_eq (a := q) (b := 0) hq (by omega)).mp z)) ?_
        have e : lN p - lN p / lN q * lN q = lN (p % q) := pk_lRem (by omega) (by omega) (by omega)
        have hm := Nat.mod_lt p (show 0 < q by omega)
        have h := ih (p % q) hm q hq (by omega) (by rw [← hg, Nat.gcd_comm p q, Nat.gcd_rec q p, Nat.gcd_comm])
        rw [← e] at h
        exact h
  exact key b a ha hb rfl
theorem c6_lowest1' (x y : Int64) (a b : Nat) (ha : a < 2 ^ 31) (hb : b < 2 ^ 31) (h0 : 0 < b) (ex : x = lN a) (ey : y = lN b) (L : zL) (M : zM) (hL : 2 ≤ L.length) : zMet zi_X6_lowest [.long x, .long y, .int (nI 1)] L M L (zx (some (.long (lN (b / Nat.gcd a b)))) M) := by
  subst ex; subst ey
  exact c6_lowest1 a b ha hb h0 L M hL
set_option maxRecDepth 10000 in
set_option maxHeartbeats 1000000 in
theorem d6_mothOf0 (n eb : Nat) (M : zM) (w : Rw) (hC : rC w M) (c k : Nat) (hc : c ≤ 16) (hk : k < tN w) : zMet zi_X6_mothOf [.ref 45, .int (nI c), .int (nI k), .int (nI 0)] (zLay n eb) M (zLay n eb) (zr (some (.long (aMtN w c k 0))) (fun M' => rC w M' ∧ rSm M M')) := by
  refine z_mr (zk_X6_mothOf _ _) rfl (Nat.le_of_ble_eq_true rfl) rfl (fun ret hret => ?_)
  have h8 := tN8 w
  have h6 := hC.1.1.2.2.1
  have h64 := pw6 h6
  refine z_cx (d6_asTold n eb M w hC) (fun M1 h1 => ?_)
  have hp24 : 2 ^ (4 * w.2 2) < 2 ^ 31 := Nat.lt_of_le_of_lt (Nat.pow_le_pow_right (by decide) (show 4 * w.2 2 ≤ 24 by omega)) (by decide)
  have loop := z_lg (P := zp_X6_mothOf) (ret := ret) (pc := 10) (L := zLay n eb) (N := 2 ^ w.2 2) (lo := fun q : Int64 × Int32 => [some (.ref 45), some (.int (nI c)), some (.int (nI k)), some (.int (nI 0)), some (.long q.1), none, some (.int q.2), none, none, none]) (I := fun i q M' => rkT 19 M1 M' ∧ q.1 = lN (sm (mR w c k) i) ∧ q.2 = nI i) (by
    rintro st ⟨s, x⟩ M' hst ⟨hM, hs, hx⟩ ih
    simp only at hs hx
    subst hs; subst hx
    refine z_go ?_
    refine z_bf (by show ¬ (1 <<< (M' 45 11 &&& 31)) ≤ nI st; rw [hM.2 11 (by omega) (by omega), h1.2.1.1.1.2.2.2.1, bwI_shl _ (by omega)]; exact nI_ge hst (by omega)) ?_
    have inn := z_lg (P := zp_X6_mothOf) (ret := ret) (pc := 27) (L := zLay n eb) (N := w.2 2) (lo := fun q : Int64 × Int32 => [some (.ref 45), some (.int (nI c)), some (.int (nI k)), some (.int (nI 0)), some (.long (lN (sm (mR w c k) st))), none, some (.int (nI st)), some (.long q.1), none, some (.int q.2)]) (I := fun i q M9 => M9 = M' ∧ q.1 = lN (wtR c st i) ∧ q.2 = nI i) (by
      rintro i ⟨wg, y⟩ M9 hi ⟨rfl, hw9, hy⟩ ihi
      simp only at hw9 hy
      subst hw9; subst hy
      by_cases hb : mThB (nI st) i = true
      · refine z_go ?_
        refine z_bf (by show ¬ M9 45 11 ≤ nI i; rw [hM.2 11 (by omega) (by omega), h1.2.1.1.1.2.2.2.1]; exact nI_ge hi (by omega)) ?_
        refine z_ca (z_cv 1 (c6_isIn _ _ _ _ (Nat.le_of_ble_eq_true rfl)) (zb_1 (of_decide_eq_true hb))) ?_
        refine z_bf (by decide) ?_
        refine z_go ?_
        refine ihi (_, _) _ ⟨rfl, ?_, nI_1 i⟩
        show lN (wtR c st i) * (16 - nI c).toInt64 = lN (wtR c st (i + 1))
        rw [show (16 : Int32) = nI 16 from rfl, pk_sub hc, nI_l (by omega), wtR, if_pos hb, lN_mul]
      · refine z_go ?_
        refine z_bf (by show ¬ M9 45 11 ≤ nI i; rw [hM.2 11 (by omega) (by omega), h1.2.1.1.1.2.2.2.1]; exact nI_ge hi (by omega)) ?_
        refine z_ca (z_cv 0 (c6_isIn _ _ _ _ (Nat.le_of_ble_eq_true rfl)) (zb_0 (fun q => hb (decide_eq_true q)))) ?_
        refine z_bt (by decide) ?_
        refine z_go ?_
        refine ihi (_, _) _ ⟨rfl, ?_, nI_1 i⟩
        show lN (wtR c st i) * (nI c).toInt64 = lN (wtR c st (i + 1))
        rw [nI_l (by omega), wtR, if_neg hb, lN_mul]) (by
      rintro ⟨wg, y⟩ M9 ⟨rfl, hw9, hy⟩
      simp only at hw9 hy
      subst hy
      have ht := rTr_19 (v := nI st) (thL := mThN (nI st)) h1.2.1 hM (fun i _ => rfl)
      by_cases hp : cnt (fun h => tSh w (mThN (nI st)) allB (-1) (pWd (w.1 1) (w.2 0)) (eEl (w.1 2) (w.2 1)) (w.1 0 0) h k) 40 = 0
      · refine z_go ?_
        refine z_bt (by show M9 45 11 ≤ nI (w.2 2); rw [hM.2 11 (by omega) (by omega), h1.2.1.1.1.2.2.2.1]; exact nI_le (Nat.le_refl _) (by omega)) ?_
        refine z_go ?_
        refine z_cx (d_runs n eb _ (ht)) (fun M2 h2 => ?_)
        obtain ⟨q1, q2, q3⟩ := h2
        refine z_ca (z_cv 0 (c6_shortOf n eb _ (tN w) k _ h8 hk (fun t ht => (show M2 65 t = _ from crs_sh q3 t ht))) (by rw [hp]; rfl)) ?_
        refine z_bt rfl ?_
        refine z_go ?_
        refine ih (_, _) _ ⟨rkT_run hM q1 q2, ?_, nI_1 st⟩
        show lN (sm (mR w c k) st) + wg = _
        rw [hw9, lN_add, show sm (mR w c k) (st + 1) = sm (mR w c k) st + mR w c k st from rfl, mR, if_pos hp]
      · refine z_go ?_
        refine z_bt (by show M9 45 11 ≤ nI (w.2 2); rw [hM.2 11 (by omega) (by omega), h1.2.1.1.1.2.2.2.1]; exact nI_le (Nat.le_refl _) (by omega)) ?_
        refine z_go ?_
        refine z_cx (d_runs n eb _ (ht)) (fun M2 h2 => ?_)
        obtain ⟨q1, q2, q3⟩ := h2
        refine z_ca (z_cv _ (c6_shortOf n eb _ (tN w) k _ h8 hk (fun t ht => (show M2 65 t = _ from crs_sh q3 t ht))) (rfl)) ?_
        refine z_bf (fun q => hp ((nI_eq (b := 0) (by have := cnt_le (fun h => tSh w (mThN (nI st)) allB (-1) (pWd (w.1 1) (w.2 0)) (eEl (w.1 2) (w.2 1)) (w.1 0 0) h k) 40; omega) (by omega)).mp q)) ?_
        refine z_go ?_
        refine ih (_, _) _ ⟨rkT_run hM q1 q2, ?_, nI_1 st⟩
        show lN (sm (mR w c k) st) + 0 = _
        rw [Int64.add_zero, show sm (mR w c k) (st + 1) = sm (mR w c k) st + mR w c k st from rfl, mR, if_neg hp]
        rw [Nat.add_zero])
    exact inn 0 (_, _) _ (Nat.zero_le _) ⟨rfl, rfl, rfl⟩) (by
    rintro ⟨s, x⟩ M' ⟨hM, hs, hx⟩
    simp only at hs hx
    subst hx
    refine z_go ?_
    refine z_bt (by show (1 <<< (M' 45 11 &&& 31)) ≤ nI (2 ^ w.2 2); rw [hM.2 11 (by omega) (by omega), h1.2.1.1.1.2.2.2.1, bwI_shl _ (by omega)]; exact nI_le (Nat.le_refl _) (by omega)) ?_
    refine z_go ?_
    refine z_ca (c6_lowest0' _ _ (mSum w c k) (2 ^ (4 * w.2 2)) (mSum_lt w hc k h6) hp24 (Nat.two_pow_pos _) (by rw [← mR_sum w c k h6]; exact hs) (by show (1 : Int64) <<< ((4 * M' 45 11).toInt64 &&& 63) = _; rw [hM.2 11 (by omega) (by omega), h1.2.1.1.1.2.2.2.1, show (4 : Int32) = nI 4 from rfl, pk_mul, show (1 : Int64) = lN 1 from rfl, wb_shl 1 (by omega), Nat.one_mul]) _ _ (Nat.le_of_ble_eq_true rfl)) ?_
    exact z_rq hret (z_vl (aMt_0 w c k rfl).symm) ⟨rC_sm h1.1 (rSm_rkT hM (by omega) (by omega) (by omega) (by omega)), rSm_tr h1.2.2 (rSm_rkT hM (by omega) (by omega) (by omega) (by omega))⟩)
  exact loop 0 (_, _) _ (Nat.zero_le _) ⟨rkT_rf _ _, rfl, rfl⟩
set_option maxRecDepth 10000 in
set_option maxHeartbeats 1000000 in
theorem d6_mothOf1 (n eb : Nat) (M : zM) (w : Rw) (hC : rC w M) (c k : Nat) (hc : c ≤ 16) (hk : k < tN w) : zMet zi_X6_mothOf [.ref 45, .int (nI c), .int (nI k), .int (nI 1)] (zLay n eb) M (zLay n eb) (zr (some (.long (aMtN w c k 1))) (fun M' => rC w M' ∧ rSm M M')) := by
  refine z_mr (zk_X6_mothOf _ _) rfl (Nat.le_of_ble_eq_true rfl) rfl (fun ret hret => ?_)
  have h8 := tN8 w
  have h6 := hC.1.1.2.2.1
  have h64 := pw6 h6
  refine z_cx (d6_asTold n eb M w hC) (fun M1 h1 => ?_)
  have hp24 : 2 ^ (4 * w.2 2) < 2 ^ 31 := Nat.lt_of_le_of_lt (Nat.pow_le_pow_right (by decide) (show 4 * w.2 2 ≤ 24 by omega)) (by decide)
  have loop := z_lg (P := zp_X6_mothOf) (ret := ret) (pc := 10) (L := zLay n eb) (N := 2 ^ w.2 2) (lo := fun q : Int64 × Int32 => [some (.ref 45), some (.int (nI c)), some (.int (nI k)), some (.int (nI 1)), some (.long q.1), none, some (.int q.2), none, none, none]) (I := fun i q M' => rkT 19 M1 M' ∧ q.1 = lN (sm (mR w c k) i) ∧ q.2 = nI i) (by
    rintro st ⟨s, x⟩ M' hst ⟨hM, hs, hx⟩ ih
    simp only at hs hx
    subst hs; subst hx
    refine z_go ?_
    refine z_bf (by show ¬ (1 <<< (M' 45 11 &&& 31)) ≤ nI st; rw [hM.2 11 (by omega) (by omega), h1.2.1.1.1.2.2.2.1, bwI_shl _ (by omega)]; exact nI_ge hst (by omega)) ?_
    have inn := z_lg (P := zp_X6_mothOf) (ret := ret) (pc := 27) (L := zLay n eb) (N := w.2 2) (lo := fun q : Int64 × Int32 => [some (.ref 45), some (.int (nI c)), some (.int (nI k)), some (.int (nI 1)), some (.long (lN (sm (mR w c k) st))), none, some (.int (nI st)), some (.long q.1), none, some (.int q.2)]) (I := fun i q M9 => M9 = M' ∧ q.1 = lN (wtR c st i) ∧ q.2 = nI i) (by
      rintro i ⟨wg, y⟩ M9 hi ⟨rfl, hw9, hy⟩ ihi
      simp only at hw9 hy
      subst hw9; subst hy
      by_cases hb : mThB (nI st) i = true
      · refine z_go ?_
        refine z_bf (by show ¬ M9 45 11 ≤ nI i; rw [hM.2 11 (by omega) (by omega), h1.2.1.1.1.2.2.2.1]; exact nI_ge hi (by omega)) ?_
        refine z_ca (z_cv 1 (c6_isIn _ _ _ _ (Nat.le_of_ble_eq_true rfl)) (zb_1 (of_decide_eq_true hb))) ?_
        refine z_bf (by decide) ?_
        refine z_go ?_
        refine ihi (_, _) _ ⟨rfl, ?_, nI_1 i⟩
        show lN (wtR c st i) * (16 - nI c).toInt64 = lN (wtR c st (i + 1))
        rw [show (16 : Int32) = nI 16 from rfl, pk_sub hc, nI_l (by omega), wtR, if_pos hb, lN_mul]
      · refine z_go ?_
        refine z_bf (by show ¬ M9 45 11 ≤ nI i; rw [hM.2 11 (by omega) (by omega), h1.2.1.1.1.2.2.2.1]; exact nI_ge hi (by omega)) ?_
        refine z_ca (z_cv 0 (c6_isIn _ _ _ _ (Nat.le_of_ble_eq_true rfl)) (zb_0 (fun q => hb (decide_eq_true q)))) ?_
        refine z_bt (by decide) ?_
        refine z_go ?_
        refine ihi (_, _) _ ⟨rfl, ?_, nI_1 i⟩
        show lN (wtR c st i) * (nI c).toInt64 = lN (wtR c st (i + 1))
        rw [nI_l (by omega), wtR, if_neg hb, lN_mul]) (by
      rintro ⟨wg, y⟩ M9 ⟨rfl, hw9, hy⟩
      simp only at hw9 hy
      subst hy
      have ht := rTr_19 (v := nI st) (thL := mThN (nI st)) h1.2.1 hM (fun i _ => rfl)
      by_cases hp : cnt (fun h => tSh w (mThN (nI st)) allB (-1) (pWd (w.1 1) (w.2 0)) (eEl (w.1 2) (w.2 1)) (w.1 0 0) h k) 40 = 0
      · refine z_go ?_
        refine z_bt (by show M9 45 11 ≤ nI (w.2 2); rw [hM.2 11 (by omega) (by omega), h1.2.1.1.1.2.2.2.1]; exact nI_le (Nat.le_refl _) (by omega)) ?_
        refine z_go ?_
        refine z_cx (d_runs n eb _ (ht)) (fun M2 h2 => ?_)
        obtain ⟨q1, q2, q3⟩ := h2
        refine z_ca (z_cv 0 (c6_shortOf n eb _ (tN w) k _ h8 hk (fun t ht => (show M2 65 t = _ from crs_sh q3 t ht))) (by rw [hp]; rfl)) ?_
        refine z_bt rfl ?_
        refine z_go ?_
        refine ih (_, _) _ ⟨rkT_run hM q1 q2, ?_, nI_1 st⟩
        show lN (sm (mR w c k) st) + wg = _
        rw [hw9, lN_add, show sm (mR w c k) (st + 1) = sm (mR w c k) st + mR w c k st from rfl, mR, if_pos hp]
      · refine z_go ?_
        refine z_bt (by show M9 45 11 ≤ nI (w.2 2); rw [hM.2 11 (by omega) (by omega), h1.2.1.1.1.2.2.2.1]; exact nI_le (Nat.le_refl _) (by omega)) ?_
        refine z_go ?_
        refine z_cx (d_runs n eb _ (ht)) (fun M2 h2 => ?_)
        obtain ⟨q1, q2, q3⟩ := h2
        refine z_ca (z_cv _ (c6_shortOf n eb _ (tN w) k _ h8 hk (fun t ht => (show M2 65 t = _ from crs_sh q3 t ht))) (rfl)) ?_
        refine z_bf (fun q => hp ((nI_eq (b := 0) (by have := cnt_le (fun h => tSh w (mThN (nI st)) allB (-1) (pWd (w.1 1) (w.2 0)) (eEl (w.1 2) (w.2 1)) (w.1 0 0) h k) 40; omega) (by omega)).mp q)) ?_
        refine z_go ?_
        refine ih (_, _) _ ⟨rkT_run hM q1 q2, ?_, nI_1 st⟩
        show lN (sm (mR w c k) st) + 0 = _
        rw [Int64.add_zero, show sm (mR w c k) (st + 1) = sm (mR w c k) st + mR w c k st from rfl, mR, if_neg hp]
        rw [Nat.add_zero])
    exact inn 0 (_, _) _ (Nat.zero_le _) ⟨rfl, rfl, rfl⟩) (by
    rintro ⟨s, x⟩ M' ⟨hM, hs, hx⟩
    simp only at hs hx
    subst hx
    refine z_go ?_
    refine z_bt (by show (1 <<< (M' 45 11 &&& 31)) ≤ nI (2 ^ w.2 2); rw [hM.2 11 (by omega) (by omega), h1.2.1.1.1.2.2.2.1, bwI_shl _ (by omega)]; exact nI_le (Nat.le_refl _) (by omega)) ?_
    refine z_go ?_
    refine z_ca (c6_lowest1' _ _ (mSum w c k) (2 ^ (4 * w.2 2)) (mSum_lt w hc k h6) hp24 (Nat.two_pow_pos _) (by rw [← mR_sum w c k h6]; exact hs) (by show (1 : Int64) <<< ((4 * M' 45 11).toInt64 &&& 63) = _; rw [hM.2 11 (by omega) (by omega), h1.2.1.1.1.2.2.2.1, show (4 : Int32) = nI 4 from rfl, pk_mul, show (1 : Int64) = lN 1 from rfl, wb_shl 1 (by omega), Nat.one_mul]) _ _ (Nat.le_of_ble_eq_true rfl)) ?_
    exact z_rq hret (z_vl (aMt_1 w c k rfl).symm) ⟨rC_sm h1.1 (rSm_rkT hM (by omega) (by omega) (by omega) (by omega)), rSm_tr h1.2.2 (rSm_rkT hM (by omega) (by omega) (by omega) (by omega))⟩)
  exact loop 0 (_, _) _ (Nat.zero_le _) ⟨rkT_rf _ _, rfl, rfl⟩
set_option maxRecDepth 10000 in
set_option maxHeartbeats 1000000 in
theorem c6_no (x : Int32) (L : zL) (M : zM) (hL : 2 ≤ L.length) : zMet zi_X6_no [.int x] L M L (zx (some (.long (-9223372036854775808 - x.toInt64))) M) := by
  refine z_me (zk_X6_no _ _) rfl hL rfl (fun ret hret => ?_)
  exact hret
set_option maxRecDepth 10000 in
set_option maxHeartbeats 1000000 in
theorem e6_moth (n eb : Nat) (M : zM) (w : Rw) (hC : rC w M) (x y z : Int32) : zMet zi_X6_moth [.ref 45, .int x, .int y, .int z] (zLay n eb) M (zLay n eb) (zr (some (.long (aMoth w x y z))) (fun M' => rC w M' ∧ rSm M M')) := by
  refine z_mr (zk_X6_moth _ _) rfl (Nat.le_of_ble_eq_true rfl) rfl (fun ret hret => ?_)
  have h8 := tN8 w
  by_cases hx : 0 ≤ x ∧ x ≤ 16
  · by_cases hy : 0 ≤ y ∧ y ≤ nI (tN w) - 1
    · by_cases hz : 0 ≤ z ∧ z ≤ 1
      · obtain ⟨c, hc, rfl⟩ := rg 16 rfl (by omega) hx
        obtain ⟨k, hk, rfl⟩ := rgH h8 hy
        obtain ⟨j, hj, rfl⟩ := rg 1 rfl (by omega) hz
        rcases (show j = 0 ∨ j = 1 by omega) with e | e
        · subst e
          rw [aMoth_y hc hk (by omega)] at hret
          refine z_ca (z_cv 1 (c6_in _ _ _ _ _ (Nat.le_of_ble_eq_true rfl)) (zb_1 hx)) ?_
          refine z_bf (by decide) ?_
          refine z_cx (zMet_v 1 (d6_isHouse n eb M w hC _) (zb_1 hy)) (fun M1 h1 => ?_)
          refine z_bf (by decide) ?_
          refine z_ca (z_cv 1 (c6_in _ _ _ _ _ (Nat.le_of_ble_eq_true rfl)) (zb_1 hz)) ?_
          refine z_bf (by decide) ?_
          refine z_cx (d6_mothOf0 n eb M1 w h1.1 c k hc hk) (fun M2 h2 => ?_)
          refine z_go ?_
          exact z_rq hret rfl ⟨h2.1, rSm_tr h1.2.1 h2.2⟩
        · subst e
          rw [aMoth_y hc hk (by omega)] at hret
          refine z_ca (z_cv 1 (c6_in _ _ _ _ _ (Nat.le_of_ble_eq_true rfl)) (zb_1 hx)) ?_
          refine z_bf (by decide) ?_
          refine z_cx (zMet_v 1 (d6_isHouse n eb M w hC _) (zb_1 hy)) (fun M1 h1 => ?_)
          refine z_bf (by decide) ?_
          refine z_ca (z_cv 1 (c6_in _ _ _ _ _ (Nat.le_of_ble_eq_true rfl)) (zb_1 hz)) ?_
          refine z_bf (by decide) ?_
          refine z_cx (d6_mothOf1 n eb M1 w h1.1 c k hc hk) (fun M2 h2 => ?_)
          refine z_go ?_
          exact z_rq hret rfl ⟨h2.1, rSm_tr h1.2.1 h2.2⟩
      · refine z_ca (z_cv 1 (c6_in _ _ _ _ _ (Nat.le_of_ble_eq_true rfl)) (zb_1 hx)) ?_
        refine z_bf (by decide) ?_
        refine z_cx (zMet_v 1 (d6_isHouse n eb M w hC _) (zb_1 hy)) (fun M1 h1 => ?_)
        refine z_bf (by decide) ?_
        refine z_ca (z_cv 0 (c6_in _ _ _ _ _ (Nat.le_of_ble_eq_true rfl)) (zb_0 hz)) ?_
        refine z_bt (by decide) ?_
        refine z_go ?_
        refine z_ca (c6_no _ _ _ (Nat.le_of_ble_eq_true rfl)) ?_
        exact z_rq hret (z_vl ((show _ = (-9223372036854775806 : Int64) by decide).trans (show _ = aMoth w x y z from (if_neg (fun q => hz q.2.2)).symm))) ⟨h1.1, h1.2.1⟩
    · refine z_ca (z_cv 1 (c6_in _ _ _ _ _ (Nat.le_of_ble_eq_true rfl)) (zb_1 hx)) ?_
      refine z_bf (by decide) ?_
      refine z_cx (zMet_v 0 (d6_isHouse n eb M w hC _) (zb_0 hy)) (fun M1 h1 => ?_)
      refine z_bt (by decide) ?_
      refine z_go ?_
      refine z_ca (c6_no _ _ _ (Nat.le_of_ble_eq_true rfl)) ?_
      exact z_rq hret (z_vl ((show _ = (-9223372036854775806 : Int64) by decide).trans (show _ = aMoth w x y z from (if_neg (fun q => hy q.2.1)).symm))) ⟨h1.1, h1.2.1⟩
  · refine z_ca (z_cv 0 (c6_in _ _ _ _ _ (Nat.le_of_ble_eq_true rfl)) (zb_0 hx)) ?_
    refine z_bt (by decide) ?_
    refine z_go ?_
    refine z_ca (c6_no _ _ _ (Nat.le_of_ble_eq_true rfl)) ?_
    exact z_rq hret (z_vl ((show _ = (-9223372036854775806 : Int64) by decide).trans (show _ = aMoth w x y z from (if_neg (fun q => hx q.1)).symm))) ⟨hC, rSm_rf M⟩

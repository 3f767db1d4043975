/-! moth: the class -/
theorem bw_tb (g : Nat → Bool) (n k : Nat) : (bw g n).testBit k = (decide (k < n) && g k) := by
  rw [Nat.testBit_eq_decide_div_mod_eq, bw_bit]
  by_cases h : k < n
  · by_cases q : g k = true
    · simp [h, q]
    · simp [h, q]
  · simp [h]
theorem bw_or2 (a b : Nat → Bool) (n : Nat) : nI (bw a n) ||| nI (bw b n) = nI (bw (fun k => a k || b k) n) := by
  rw [fa_or]
  congr 1
  apply Nat.eq_of_testBit_eq
  intro k
  rw [Nat.testBit_or, bw_tb, bw_tb, bw_tb]
  by_cases h : k < n <;> simp [h]
theorem bw_zero : ∀ n, bw (fun _ => false) n = 0
  | 0 => rfl
  | n + 1 => by
    rw [bw_n (by decide)]
    exact bw_zero n
theorem lN_sh1 {a : Nat} (h : a < 2 ^ 31) : lN a >>> ((1 : Int32).toInt64 &&& 63) = lN (a / 2) := by
  apply Int64.toInt_inj.mp
  show ((lN a).toBitVec.sshiftRight ((((1 : Int32).toInt64 &&& 63).toBitVec).smod 64).toNat).toInt = _
  rw [show ((((1 : Int32).toInt64 &&& 63).toBitVec).smod 64).toNat = 1 by decide, BitVec.toInt_sshiftRight]
  show (lN a).toInt >>> 1 = _
  rw [lN_toInt h, lN_toInt (by omega), Int.shiftRight_eq_div_pow]
  rfl
/-- the weight of a choice of leaks -/
def wtC (c ch : Nat) : Nat → Nat
  | 0 => 1
  | i + 1 => wtC c ch i * (if mThB (nI ch) i = true then c else 16 - c)
theorem wtC_le {c ch : Nat} (hc : c ≤ 16) : ∀ i, wtC c ch i ≤ 16 ^ i
  | 0 => Nat.le_refl _
  | i + 1 => by
    have ih := wtC_le (ch := ch) hc i
    unfold wtC
    rw [Nat.pow_succ]
    exact Nat.mul_le_mul ih (by split <;> omega)
noncomputable section
def mSum (w : Rw) (c k : Nat) : Nat := sm (fun ch => if tEv w ch k = true then 0 else wtC c ch (w.2 2)) (2 ^ w.2 2)
def mG (w : Rw) (c k : Nat) : Nat := Nat.gcd (mSum w c k) (2 ^ (4 * w.2 2))
def aMtN (w : Rw) (c k j : Nat) : Int64 := if j = 0 then lN (mSum w c k / mG w c k) else lN (2 ^ (4 * w.2 2) / mG w c k)
def aMoth (w : Rw) (x y z : Int32) : Int64 := if (0 ≤ x ∧ x ≤ 16) ∧ (0 ≤ y ∧ y ≤ nI (tN w) - 1) ∧ 0 ≤ z ∧ z ≤ 1 then aMtN w x.toNatClampNeg y.toNatClampNeg z.toNatClampNeg else -9223372036854775806
end
theorem aMoth_y {w : Rw} {c k j : Nat} (hc : c ≤ 16) (hk : k < tN w) (hj : j ≤ 1) : aMoth w (nI c) (nI k) (nI j) = aMtN w c k j := by
  have h8 := tN8 w
  unfold aMoth
  rw [if_pos ⟨⟨nI_pos' (by omega), nI_le (a := c) (b := 16) hc (by omega)⟩, rgH' hk h8, nI_pos' (by omega), nI_le (a := j) (b := 1) hj (by omega)⟩, z_cl (by omega), z_cl (by omega), z_cl (by omega)]
theorem pw6 {K : Nat} (h : K ≤ 6) : 2 ^ K ≤ 64 := Nat.pow_le_pow_right (by decide) h
theorem mSum_lt (w : Rw) {c : Nat} (hc : c ≤ 16) (k : Nat) (h6 : w.2 2 ≤ 6) : mSum w c k < 2 ^ 31 := by
  have h1 := pw6 h6
  have hp : 16 ^ w.2 2 ≤ 16 ^ 6 := Nat.pow_le_pow_right (by decide) h6
  have := sm_le (f := fun ch => if tEv w ch k = true then 0 else wtC c ch (w.2 2)) (c := 16 ^ 6) (2 ^ w.2 2) (fun j _ => by
    have := wtC_le (ch := j) hc (w.2 2)
    show (if tEv w j k = true then 0 else wtC c j (w.2 2)) ≤ 16 ^ 6
    split <;> omega)
  have h2 : 2 ^ w.2 2 * 16 ^ 6 ≤ 64 * 16 ^ 6 := Nat.mul_le_mul_right _ h1
  unfold mSum
  omega
set_option maxRecDepth 10000 in
set_option maxHeartbeats 1000000 in
theorem c0_everShort28 (n eb : Nat) (M : zM) (N : Nat) (g : Nat → Nat → Bool) (hS : ∀ h, h < 40 → M 32 h = nI (bw (g h) N)) : zMet zi_X0_everShort [.ref 28] (zLay n eb) M (zLay n eb) (zx (some (.int (nI (bw (fun k => decide (¬ cnt (fun t => g t k) 40 = 0)) N)))) M) := by
  refine z_me (zk_X0_everShort _ _) rfl (Nat.le_of_ble_eq_true rfl) rfl (fun ret hret => ?_)
  have loop := z_l2 (P := zp_X0_everShort) (ret := ret) (pc := 4) (L := zLay n eb) (N := 40) (lo := fun b x => [some (.ref 28), some (.int b), some (.int x)]) (I := fun h b x M' => M' = M ∧ b = nI (bw (fun k => decide (¬ cnt (fun t => g t k) h = 0)) N) ∧ x = nI h) (by
    rintro h b x M' hh ⟨rfl, rfl, rfl⟩ ih
    have hch : (nI h).toNatClampNeg = h := z_cl (by omega)
    refine z_go ?_
    refine z_bf (nI_ge (a := h) (b := 40) hh (by omega)) ?_
    refine And.intro (z_inN0 (by omega) (by omega)) ?_
    refine ih _ _ _ ⟨rfl, ?_, nI_1 h⟩
    show nI (bw (fun k => decide (¬ cnt (fun t => g t k) h = 0)) N) ||| M' 32 (nI h).toNatClampNeg = _
    rw [hch, hS h hh, bw_or2]
    congr 1
    refine bw_cong N (fun k _ => ?_)
    by_cases q : g h k = true
    · rw [show cnt (fun t => g t k) (h + 1) = cnt (fun t => g t k) h + (if g h k = true then 1 else 0) from rfl, if_pos q, q]; simp
    · rw [cnt_n (g := fun t => g t k) q, Bool.eq_false_iff.mpr q, Bool.or_false]) (by
    rintro b x M' ⟨rfl, hb, rfl⟩
    refine z_go ?_
    refine z_bt (nI_le (a := 40) (b := 40) (Nat.le_refl _) (by omega)) ?_
    refine z_go ?_
    exact z_re hret (z_vi hb) rfl)
  exact loop 0 _ _ _ (Nat.zero_le _) ⟨rfl, by rw [bw_cong N (g' := fun _ => false) (fun k _ => by simp [cnt]), bw_zero]; rfl, rfl⟩
set_option maxRecDepth 10000 in
set_option maxHeartbeats 1000000 in
theorem d5_tryEach (n : Nat) (M : zM) (w : Rw) (hI : cI w M) : zMet zi_X5_tryEachChoiceOfLeaks [.ref 2] (zLay n 15) M (zLay n 15) (zr none (fun M' => cI w M' ∧ (∀ c, c < 2 ^ w.2 2 → M' 35 c = nI (bw (tEv w c) (tN w))) ∧ ∀ p, 45 ≤ p → M' p = M p)) := by
  refine z_mr (zk_X5_tryEachChoiceOfLeaks _ _) rfl (Nat.le_of_ble_eq_true rfl) rfl (fun ret hret => ?_)
  have h6 := hI.1.1.1.2.2.1
  have h64 := pw6 h6
  have hch2 : 1 <<< (M 7 9 &&& 31) = nI (2 ^ w.2 2) := by rw [hI.1.2.2.2.1.2.2.2.2.1]; exact bwI_shl _ (by omega)
  have loop := z_l1 (P := zp_X5_tryEachChoiceOfLeaks) (ret := ret) (pc := 12) (L := zLay n 15) (N := 2 ^ w.2 2) (lo := fun x => [some (.ref 2), some (.int (1 <<< (M 7 9 &&& 31))), some (.int x)]) (I := fun c x M' => ((∀ p, p ≠ 7 → p ≠ 35 → p ≤ 28 ∨ 34 < p → M' p = M p) ∧ ∀ i, i ≠ 10 → M' 7 i = M 7 i) ∧ x = nI c ∧ ∀ d, d < c → M' 35 d = nI (bw (tEv w d) (tN w))) (by
    rintro c x M' hc ⟨hM, rfl, hA⟩ ih
    have hch : (nI c).toNatClampNeg = c := z_cl (by omega)
    have hb : cC w (va_up M 35 (M' 35)) := cC_sm hI.1 ⟨fun p _ _ => z_un (by omega), fun p _ _ => z_un (by omega), rfl, rfl⟩
    have hk : kpU 10 (va_up M 35 (M' 35)) M' := ⟨fun p p7 hp => by
      by_cases e : p = 35
      · subst e; rw [z_us]
      · rw [z_un e]; exact hM.1 p p7 e hp, fun i hi => by rw [z_un (by omega)]; exact hM.2 i hi⟩
    have ht := cTr_10 (v := nI c) (thL := tCh c) hb hk (fun i _ => rfl)
    refine z_go ?_
    refine z_bf (by rw [hch2]; exact nI_ge hc (by omega)) ?_
    refine z_bf (nI_ge (a := c) (b := 64) (by omega) (by omega)) ?_
    refine z_cx (d_fol28_15 n _ (ht)) (fun M2 h2 => ?_)
    obtain ⟨q1, q2⟩ := h2
    refine z_ca (c0_everShort28 n 15 _ (tN w) _ (fun t ht => (show M2 32 t = _ from crs_sh q2 t ht))) ?_
    refine And.intro (z_inN0 (by omega) (by omega)) ?_
    have q3 := kpU_fol hk q1
    refine ih _ _ ⟨⟨fun p p7 p35 hp => ?_, fun i hi => ?_⟩, nI_1 c, fun d hd => ?_⟩
    · rw [z_un p35, q3.1 p p7 hp, z_un p35]
    · rw [z_un (by omega), q3.2 i hi]; rfl
    · rw [z_us, hch]
      by_cases e : d = c
      · subst e; rw [upd_eq]; rfl
      · rw [upd_ne e, q3.1 35 (by omega) (by omega), z_us]
        exact hA d (by omega)) (by
    rintro x M' ⟨hM, rfl, hA⟩
    refine z_go ?_
    refine z_bt (by rw [hch2]; exact nI_le (Nat.le_refl _) (by omega)) ?_
    refine z_go ?_
    refine And.intro ⟨rfl, rfl⟩ ?_
    have kp : ∀ p, p ≠ 2 → p ≠ 35 → p ≤ 28 ∨ 34 < p → (va_up (va_up M' 7 (upd (M' 7) 10 (-1))) 2 (upd ((va_up M' 7 (upd (M' 7) 10 (-1))) 2) 7 1)) p = M p := fun p p2 p35 hp => by
      rw [z_un p2]
      by_cases e : p = 7
      · subst e
        rw [z_us]
        funext i
        by_cases e2 : i = 10
        · subst e2; rw [upd_eq, hI.1.2.2.2.1.2.2.2.2.2.1]
        · rw [upd_ne e2]; exact hM.2 i e2
      · rw [z_un e]; exact hM.1 p e p35 hp
    have m2 : M' 2 = M 2 := hM.1 2 (by omega) (by omega) (by omega)
    refine z_rq hret rfl ⟨⟨cC_sm hI.1 ⟨fun p p1 p2 => kp p (by omega) (by omega) (by omega), fun p p1 p2 => kp p (by omega) (by omega) (by omega), ?_, ?_⟩, cT_kp hI.2.1 ?_ (fun p p1 p2 => kp p (by omega) (by omega) (by omega)), Or.inr ⟨rfl, hA⟩⟩, hA, fun p hp => kp p (by omega) (by omega) (by omega)⟩
    · show M' 2 13 = _; rw [m2]
    · show M' 2 15 = _; rw [m2]
    · show M' 2 5 = _; rw [m2])
  exact loop 0 _ _ (Nat.zero_le _) ⟨⟨fun _ _ _ _ => rfl, fun _ _ => rfl⟩, rfl, fun d hd => absurd hd (Nat.not_lt_zero d)⟩
set_option maxRecDepth 10000 in
set_option maxHeartbeats 1000000 in
theorem c5_weightOf (n : Nat) (M : zM) (K ch c : Nat) (hK : K ≤ 6) (hc : c ≤ 16) (h9 : M 7 9 = nI K) : zMet zi_X5_weightOf [.ref 2, .int (nI ch), .int (nI c)] (zLay n 15) M (zLay n 15) (zx (some (.long (lN (wtC c ch K)))) M) := by
  refine z_me (zk_X5_weightOf _ _) rfl (Nat.le_of_ble_eq_true rfl) rfl (fun ret hret => ?_)
  have loop := z_lg (P := zp_X5_weightOf) (ret := ret) (pc := 5) (L := zLay n 15) (N := K) (lo := fun q : Int64 × Int32 => [some (.ref 2), some (.int (nI ch)), some (.int (nI c)), some (.long q.1), none, some (.int q.2)]) (I := fun i q M' => M' = M ∧ q.1 = lN (wtC c ch i) ∧ q.2 = nI i) (by
    rintro i ⟨b, x⟩ M' hi ⟨rfl, hb, hx⟩ ih
    simp only at hb hx
    subst hb; subst hx
    by_cases hb : mThB (nI ch) i = true
    · refine z_go ?_
      refine z_bf (by show ¬ M' 7 9 ≤ nI i; rw [h9]; exact nI_ge hi (by omega)) ?_
      refine z_bt (of_decide_eq_true hb) ?_
      refine z_go ?_
      refine ih (_, _) _ ⟨rfl, ?_, nI_1 i⟩
      show lN (wtC c ch i) * (nI c).toInt64 = lN (wtC c ch (i + 1))
      rw [nI_l (by omega), wtC, if_pos hb, lN_mul]
    · refine z_go ?_
      refine z_bf (by show ¬ M' 7 9 ≤ nI i; rw [h9]; exact nI_ge hi (by omega)) ?_
      refine z_bf (fun q => hb (decide_eq_true q)) ?_
      refine z_go ?_
      refine ih (_, _) _ ⟨rfl, ?_, nI_1 i⟩
      show lN (wtC c ch i) * (16 - nI c).toInt64 = lN (wtC c ch (i + 1))
      rw [show (16 : Int32) = nI 16 from rfl, pk_sub hc, nI_l (by omega), wtC, if_neg hb, lN_mul]) (by
    rintro ⟨b, x⟩ M' ⟨rfl, hb, hx⟩
    simp only at hb hx
    subst hx
    refine z_go ?_
    refine z_bt (by show M' 7 9 ≤ nI K; rw [h9]; exact nI_le (Nat.le_refl _) (by omega)) ?_
    refine z_go ?_
    exact z_re hret (z_vl hb) rfl)
  exact loop 0 (_, _) _ (Nat.zero_le _) ⟨rfl, rfl, rfl⟩
noncomputable section
def mF (w : Rw) (c k ch : Nat) : Nat := if tEv w ch k = true then 0 else wtC c ch (w.2 2)
end
theorem mSum_e (w : Rw) (c k : Nat) : lN (sm (mF w c k) (2 ^ w.2 2)) = lN (mSum w c k) := rfl
set_option maxRecDepth 10000 in
set_option maxHeartbeats 1000000 in
theorem d5_chance (n : Nat) (M : zM) (w : Rw) (hI : cI w M) (c k : Nat) (hc : c ≤ 16) (hk : k < tN w) : zMet zi_X5_chanceOfNeverShort [.ref 2, .int (nI c), .int (nI k)] (zLay n 15) M (zLay n 15) (zr (some (.long (lN (mSum w c k)))) (fun M' => cI w M' ∧ ∀ p, 45 ≤ p → M' p = M p)) := by
  refine z_mr (zk_X5_chanceOfNeverShort _ _) rfl (Nat.le_of_ble_eq_true rfl) rfl (fun ret hret => ?_)
  have h8 := tN8 w
  have h6 := hI.1.1.1.2.2.1
  have h64 := pw6 h6
  by_cases hz : M 2 7 = 0
  · refine z_bt hz ?_
    refine z_cx (d5_tryEach n M w hI) (fun M1 h1 => ?_)
    obtain ⟨i1, hA, i3⟩ := h1
    have h9 : M1 7 9 = nI (w.2 2) := i1.1.2.2.2.1.2.2.2.2.1
    have hch2 : 1 <<< (M1 7 9 &&& 31) = nI (2 ^ w.2 2) := by rw [h9]; exact bwI_shl _ (by omega)
    have loop := z_lg (P := zp_X5_chanceOfNeverShort) (ret := ret) (pc := 27) (L := zLay n 15) (N := 2 ^ w.2 2) (lo := fun q : Int64 × Int32 => [some (.ref 2), some (.int (nI c)), some (.int (nI k)), some (.long q.1), none, some (.int (1 <<< (M1 7 9 &&& 31))), some (.int q.2)]) (I := fun i q M' => M' = M1 ∧ q.1 = lN (sm (mF w c k) i) ∧ q.2 = nI i) (by
      rintro ch ⟨b, x⟩ M' hi ⟨rfl, hb, hx⟩ ih
      simp only at hb hx
      subst hb; subst hx
      have hch : (nI ch).toNatClampNeg = ch := z_cl (by omega)
      by_cases hp : tEv w ch k = true
      · refine z_go ?_
        refine z_bf (by rw [hch2]; exact nI_ge hi (by omega)) ?_
        refine z_bf (nI_ge (a := ch) (b := 64) (by omega) (by omega)) ?_
        refine And.intro (z_inN0 (by omega) (by omega)) ?_
        refine z_bf (by show ¬ (M' 35 (nI ch).toNatClampNeg >>> (nI k &&& 31)) &&& 1 = 0; rw [hch, hA ch hi, bw_get _ h8 (by omega), if_pos ⟨hk, hp⟩]; decide) ?_
        refine z_go ?_
        refine ih (_, _) _ ⟨rfl, ?_, nI_1 ch⟩
        show lN (sm (mF w c k) ch) = _
        rw [show sm (mF w c k) (ch + 1) = sm (mF w c k) ch + mF w c k ch from rfl, mF, if_pos hp, Nat.add_zero]
      · refine z_go ?_
        refine z_bf (by rw [hch2]; exact nI_ge hi (by omega)) ?_
        refine z_bf (nI_ge (a := ch) (b := 64) (by omega) (by omega)) ?_
        refine And.intro (z_inN0 (by omega) (by omega)) ?_
        refine z_bt (by show (M' 35 (nI ch).toNatClampNeg >>> (nI k &&& 31)) &&& 1 = 0; rw [hch, hA ch hi, bw_get _ h8 (by omega), if_neg (fun z => hp z.2)]) ?_
        refine z_ca (c5_weightOf n _ (w.2 2) ch c h6 hc h9) ?_
        refine ih (_, _) _ ⟨rfl, ?_, nI_1 ch⟩
        show lN (sm (mF w c k) ch) + lN (wtC c ch (w.2 2)) = _
        rw [lN_add, show sm (mF w c k) (ch + 1) = sm (mF w c k) ch + mF w c k ch from rfl, mF, if_neg hp]) (by
      rintro ⟨b, x⟩ M' ⟨rfl, hb, hx⟩
      simp only at hb hx
      subst hx
      refine z_go ?_
      refine z_bt (by rw [hch2]; exact nI_le (Nat.le_refl _) (by omega)) ?_
      refine z_go ?_
      exact z_rq hret (z_vl (hb.trans (mSum_e w c k))) ⟨i1, i3⟩)
    exact loop 0 (_, _) _ (Nat.zero_le _) ⟨rfl, rfl, rfl⟩
  · have hA : ∀ c, c < 2 ^ w.2 2 → M 35 c = nI (bw (tEv w c) (tN w)) := by
      rcases hI.2.2 with z | z
      · exact absurd z hz
      · exact z.2
    obtain ⟨M0, hM0⟩ : ∃ M0, M0 = M := ⟨M, rfl⟩
    have h0 : ∀ p, 45 ≤ p → M p = M0 p := fun p _ => by rw [hM0]
    rw [← hM0] at hret
    refine z_bf hz ?_
    refine z_go ?_
    obtain ⟨i1, i3⟩ : cI w M ∧ ∀ p, 45 ≤ p → M p = M0 p := ⟨hI, h0⟩
    have h9 : M 7 9 = nI (w.2 2) := i1.1.2.2.2.1.2.2.2.2.1
    have hch2 : 1 <<< (M 7 9 &&& 31) = nI (2 ^ w.2 2) := by rw [h9]; exact bwI_shl _ (by omega)
    have loop := z_lg (P := zp_X5_chanceOfNeverShort) (ret := ret) (pc := 27) (L := zLay n 15) (N := 2 ^ w.2 2) (lo := fun q : Int64 × Int32 => [some (.ref 2), some (.int (nI c)), some (.int (nI k)), some (.long q.1), none, some (.int (1 <<< (M 7 9 &&& 31))), some (.int q.2)]) (I := fun i q M' => M' = M ∧ q.1 = lN (sm (mF w c k) i) ∧ q.2 = nI i) (by
      rintro ch ⟨b, x⟩ M' hi ⟨rfl, hb, hx⟩ ih
      simp only at hb hx
      subst hb; subst hx
      have hch : (nI ch).toNatClampNeg = ch := z_cl (by omega)
      by_cases hp : tEv w ch k = true
      · refine z_go ?_
        refine z_bf (by rw [hch2]; exact nI_ge hi (by omega)) ?_
        refine z_bf (nI_ge (a := ch) (b := 64) (by omega) (by omega)) ?_
        refine And.intro (z_inN0 (by omega) (by omega)) ?_
        refine z_bf (by show ¬ (M' 35 (nI ch).toNatClampNeg >>> (nI k &&& 31)) &&& 1 = 0; rw [hch, hA ch hi, bw_get _ h8 (by omega), if_pos ⟨hk, hp⟩]; decide) ?_
        refine z_go ?_
        refine ih (_, _) _ ⟨rfl, ?_, nI_1 ch⟩
        show lN (sm (mF w c k) ch) = _
        rw [show sm (mF w c k) (ch + 1) = sm (mF w c k) ch + mF w c k ch from rfl, mF, if_pos hp, Nat.add_zero]
      · refine z_go ?_
        refine z_bf (by rw [hch2]; exact nI_ge hi (by omega)) ?_
        refine z_bf (nI_ge (a := ch) (b := 64) (by omega) (by omega)) ?_
        refine And.intro (z_inN0 (by omega) (by omega)) ?_
        refine z_bt (by show (M' 35 (nI ch).toNatClampNeg >>> (nI k &&& 31)) &&& 1 = 0; rw [hch, hA ch hi, bw_get _ h8 (by omega), if_neg (fun z => hp z.2)]) ?_
        refine z_ca (c5_weightOf n _ (w.2 2) ch c h6 hc h9) ?_
        refine ih (_, _) _ ⟨rfl, ?_, nI_1 ch⟩
        show lN (sm (mF w c k) ch) + lN (wtC c ch (w.2 2)) = _
        rw [lN_add, show sm (mF w c k) (ch + 1) = sm (mF w c k) ch + mF w c k ch from rfl, mF, if_neg hp]) (by
      rintro ⟨b, x⟩ M' ⟨rfl, hb, hx⟩
      simp only at hb hx
      subst hx
      refine z_go ?_
      refine z_bt (by rw [hch2]; exact nI_le (Nat.le_refl _) (by omega)) ?_
      refine z_go ?_
      exact z_rq hret (z_vl (hb.trans (mSum_e w c k))) ⟨i1, i3⟩)
    exact loop 0 (_, _) _ (Nat.zero_le _) ⟨rfl, rfl, rfl⟩
theorem mG_h {A i a e m : Nat} (hA : A = 2 ^ i * a) (hm : m = i + e) (hend : a % 2 = 1 ∨ e = 0) : A / Nat.gcd A (2 ^ m) = a ∧ 2 ^ m / Nat.gcd A (2 ^ m) = 2 ^ e := by
  have hg : Nat.gcd a (2 ^ e) = 1 := by
    rcases hend with h | h
    · refine Nat.Coprime.pow_right e ?_
      show Nat.gcd a 2 = 1
      rw [Nat.gcd_comm, Nat.gcd_rec, h]
      exact Nat.gcd_one_left 2
    · rw [h]; exact Nat.gcd_one_right a
  have e1 : Nat.gcd A (2 ^ m) = 2 ^ i := by rw [hA, hm, Nat.pow_add, Nat.gcd_mul_left, hg, Nat.mul_one]
  rw [e1]
  have hp := Nat.two_pow_pos i
  constructor
  · rw [hA]; exact Nat.mul_div_cancel_left a hp
  · rw [hm, Nat.pow_add]; exact Nat.mul_div_cancel_left _ hp
theorem aMt_0 (w : Rw) (c k : Nat) {a : Nat} (h : mSum w c k / Nat.gcd (mSum w c k) (2 ^ (4 * w.2 2)) = a) : aMtN w c k 0 = lN a := by
  unfold aMtN mG
  rw [if_pos rfl, h]
theorem aMt_1 (w : Rw) (c k : Nat) {a : Nat} (h : 2 ^ (4 * w.2 2) / Nat.gcd (mSum w c k) (2 ^ (4 * w.2 2)) = a) : aMtN w c k 1 = lN a := by
  unfold aMtN mG
  rw [if_neg (by omega), h]
set_option maxRecDepth 10000 in
set_option maxHeartbeats 1000000 in
theorem e5_moth (n : Nat) (M : zM) (w : Rw) (hI : cI w M) (x y z : Int32) : zMet zi_X5_moth [.ref 2, .int x, .int y, .int z] (zLay n 15) M (zLay n 15) (zr (some (.long (aMoth w x y z))) (fun M' => cI w M' ∧ ∀ p, 45 ≤ p → M' p = M p)) := by
  refine z_mr (zk_X5_moth _ _) rfl (Nat.le_of_ble_eq_true rfl) rfl (fun ret hret => ?_)
  have h8 := tN8 w
  have h6 := hI.1.1.1.2.2.1
  by_cases hx : 0 ≤ x ∧ x ≤ 16
  · by_cases hy : 0 ≤ y ∧ y ≤ nI (tN w) - 1
    · by_cases hz : 0 ≤ z ∧ z ≤ 1
      · obtain ⟨c, hc, rfl⟩ := rg 16 rfl (by omega) hx
        obtain ⟨k, hk, rfl⟩ := rgH h8 hy
        obtain ⟨j, hj, rfl⟩ := rg 1 rfl (by omega) hz
        rcases (show j = 0 ∨ j = 1 by omega) with e | e
        · subst e
          rw [aMoth_y hc hk (by omega)] at hret
          refine z_ca (z_cv 1 (c5_within _ _ _ _ _ (Nat.le_of_ble_eq_true rfl)) (zb_1 hx)) ?_
          refine z_bf (by decide) ?_
          refine z_ca (z_cv 1 (d5_isHouse n 15 M w hI.1 _) (zb_1 hy)) ?_
          refine z_bf (by decide) ?_
          refine z_ca (z_cv 1 (c5_within _ _ _ _ _ (Nat.le_of_ble_eq_true rfl)) (zb_1 hz)) ?_
          refine z_bf (by decide) ?_
          refine z_go ?_
          refine z_cx (d5_chance n M w hI c k hc hk) (fun M1 h1 => ?_)
          obtain ⟨i1, i3⟩ := h1
          have h9 : M1 7 9 = nI (w.2 2) := i1.1.2.2.2.1.2.2.2.2.1
          have hbl : (1 : Int64) <<< ((4 * M1 7 9).toInt64 &&& 63) = lN (2 ^ (4 * w.2 2)) := by rw [h9, show (4 : Int32) = nI 4 from rfl, pk_mul, show (1 : Int64) = lN 1 from rfl, wb_shl 1 (by omega), Nat.one_mul]
          have hlt := mSum_lt w hc k h6
          obtain ⟨A, hAe⟩ : ∃ A, mSum w c k = A := ⟨_, rfl⟩
          rw [hAe] at hlt
          have loop := z_lg (P := zp_X5_moth) (ret := ret) (pc := 55) (L := zLay n 15) (N := 24) (lo := fun q : Int64 × Int64 × Int32 => [none, none, none, some (.int (nI 0)), some (.long q.1), none, some (.long q.2.1), none, some (.int q.2.2)]) (I := fun i q M' => M' = M1 ∧ ∃ a e, q.1 = lN a ∧ q.2.1 = lN (2 ^ e) ∧ q.2.2 = nI i ∧ mSum w c k = 2 ^ i * a ∧ 4 * w.2 2 = i + e) (by
            rintro i ⟨x, y, z⟩ M' hi ⟨rfl, a, e, hx, hy, hz, hA, hm⟩ ih
            simp only at hx hy hz
            subst hx; subst hy; subst hz
            have hp := Nat.two_pow_pos i
            have ha : a ≤ A := by rw [← hAe, hA]; exact Nat.le_mul_of_pos_left a hp
            have hpe : 2 ^ e ≤ 2 ^ 24 := Nat.pow_le_pow_right (by decide) (by omega)
            rcases Nat.mod_two_eq_zero_or_one a with ev | od
            · by_cases e0 : e = 0
              · refine z_go ?_
                refine z_bf (nI_ge (a := i) (b := 24) hi (by omega)) ?_
                refine z_bt ((lg_cmp_eq _ _).mpr (by show lN a &&& 1 = 0; rw [wb_a1 (by omega), ev]; rfl)) ?_
                refine z_bt ((lg_cmp_le _ _).mpr (by show lN (2 ^ e) ≤ 1; rw [e0]; decide)) ?_
                refine z_go ?_
                refine z_bt rfl ?_
                refine z_go ?_
                exact z_rq hret (z_vl ((aMt_0 w c k (mG_h hA hm (Or.inr e0)).1).symm)) ⟨i1, i3⟩
              · have ep : 2 ^ e = 2 * 2 ^ (e - 1) := by rw [← Nat.pow_succ']; congr 1; omega
                have hpp := Nat.two_pow_pos (e - 1)
                refine z_go ?_
                refine z_bf (nI_ge (a := i) (b := 24) hi (by omega)) ?_
                refine z_bt ((lg_cmp_eq _ _).mpr (by show lN a &&& 1 = 0; rw [wb_a1 (by omega), ev]; rfl)) ?_
                refine z_bf (fun q => by have q2 := (lN_le (a := 2 ^ e) (b := 1) (by omega) (by omega)).mp ((lg_cmp_le _ _).mp q); omega) ?_
                refine ih (_, _, _) _ ⟨rfl, a / 2, e - 1, lN_sh1 (by omega), ?_, nI_1 i, ?_, by omega⟩
                · show lN (2 ^ e) >>> _ = _
                  rw [lN_sh1 (by omega)]
                  congr 1
                  rw [ep]
                  omega
                · rw [hA, Nat.pow_succ, Nat.mul_assoc]
                  congr 1
                  omega
            · refine z_go ?_
              refine z_bf (nI_ge (a := i) (b := 24) hi (by omega)) ?_
              refine z_bf (fun q => by have q2 : lN a &&& 1 = 0 := (lg_cmp_eq _ _).mp q; rw [wb_a1 (by omega)] at q2; have q3 := (lN_eq (a := a % 2) (b := 0) (by omega) (by omega)).mp q2; omega) ?_
              refine z_go ?_
              refine z_bt rfl ?_
              refine z_go ?_
              exact z_rq hret (z_vl ((aMt_0 w c k (mG_h hA hm (Or.inl od)).1).symm)) ⟨i1, i3⟩) (by
            rintro ⟨x, y, z⟩ M' ⟨rfl, a, e, hx, hy, hz, hA, hm⟩
            simp only at hx hy hz
            subst hx; subst hy; subst hz
            refine z_go ?_
            refine z_bt (nI_le (a := 24) (b := 24) (Nat.le_refl _) (by omega)) ?_
            refine z_go ?_
            refine z_bt rfl ?_
            refine z_go ?_
            exact z_rq hret (z_vl ((aMt_0 w c k (mG_h hA hm (Or.inr (by omega))).1).symm)) ⟨i1, i3⟩)
          exact loop 0 (_, _, _) _ (Nat.zero_le _) ⟨rfl, mSum w c k, 4 * w.2 2, rfl, hbl, rfl, by rw [Nat.pow_zero, Nat.one_mul], by omega⟩
        · subst e
          rw [aMoth_y hc hk (by omega)] at hret
          refine z_ca (z_cv 1 (c5_within _ _ _ _ _ (Nat.le_of_ble_eq_true rfl)) (zb_1 hx)) ?_
          refine z_bf (by decide) ?_
          refine z_ca (z_cv 1 (d5_isHouse n 15 M w hI.1 _) (zb_1 hy)) ?_
          refine z_bf (by decide) ?_
          refine z_ca (z_cv 1 (c5_within _ _ _ _ _ (Nat.le_of_ble_eq_true rfl)) (zb_1 hz)) ?_
          refine z_bf (by decide) ?_
          refine z_go ?_
          refine z_cx (d5_chance n M w hI c k hc hk) (fun M1 h1 => ?_)
          obtain ⟨i1, i3⟩ := h1
          have h9 : M1 7 9 = nI (w.2 2) := i1.1.2.2.2.1.2.2.2.2.1
          have hbl : (1 : Int64) <<< ((4 * M1 7 9).toInt64 &&& 63) = lN (2 ^ (4 * w.2 2)) := by rw [h9, show (4 : Int32) = nI 4 from rfl, pk_mul, show (1 : Int64) = lN 1 from rfl, wb_shl 1 (by omega), Nat.one_mul]
          have hlt := mSum_lt w hc k h6
          obtain ⟨A, hAe⟩ : ∃ A, mSum w c k = A := ⟨_, rfl⟩
          rw [hAe] at hlt
          have loop := z_lg (P := zp_X5_moth) (ret := ret) (pc := 55) (L := zLay n 15) (N := 24) (lo := fun q : Int64 × Int64 × Int32 => [none, none, none, some (.int (nI 1)), some (.long q.1), none, some (.long q.2.1), none, some (.int q.2.2)]) (I := fun i q M' => M' = M1 ∧ ∃ a e, q.1 = lN a ∧ q.2.1 = lN (2 ^ e) ∧ q.2.2 = nI i ∧ mSum w c k = 2 ^ i * a ∧ 4 * w.2 2 = i + e) (by
            rintro i ⟨x, y, z⟩ M' hi ⟨rfl, a, e, hx, hy, hz, hA, hm⟩ ih
            simp only at hx hy hz
            subst hx; subst hy; subst hz
            have hp := Nat.two_pow_pos i
            have ha : a ≤ A := by rw [← hAe, hA]; exact Nat.le_mul_of_pos_left a hp
            have hpe : 2 ^ e ≤ 2 ^ 24 := Nat.pow_le_pow_right (by decide) (by omega)
            rcases Nat.mod_two_eq_zero_or_one a with ev | od
            · by_cases e0 : e = 0
              · refine z_go ?_
                refine z_bf (nI_ge (a := i) (b := 24) hi (by omega)) ?_
                refine z_bt ((lg_cmp_eq _ _).mpr (by show lN a &&& 1 = 0; rw [wb_a1 (by omega), ev]; rfl)) ?_
                refine z_bt ((lg_cmp_le _ _).mpr (by show lN (2 ^ e) ≤ 1; rw [e0]; decide)) ?_
                refine z_go ?_
                refine z_bf (by decide) ?_
                refine z_go ?_
                exact z_rq hret (z_vl ((aMt_1 w c k (mG_h hA hm (Or.inr e0)).2).symm)) ⟨i1, i3⟩
              · have ep : 2 ^ e = 2 * 2 ^ (e - 1) := by rw [← Nat.pow_succ']; congr 1; omega
                have hpp := Nat.two_pow_pos (e - 1)
                refine z_go ?_
                refine z_bf (nI_ge (a := i) (b := 24) hi (by omega)) ?_
                refine z_bt ((lg_cmp_eq _ _).mpr (by show lN a &&& 1 = 0; rw [wb_a1 (by omega), ev]; rfl)) ?_
                refine z_bf (fun q => by have q2 := (lN_le (a := 2 ^ e) (b := 1) (by omega) (by omega)).mp ((lg_cmp_le _ _).mp q); omega) ?_
                refine ih (_, _, _) _ ⟨rfl, a / 2, e - 1, lN_sh1 (by omega), ?_, nI_1 i, ?_, by omega⟩
                · show lN (2 ^ e) >>> _ = _
                  rw [lN_sh1 (by omega)]
                  congr 1
                  rw [ep]
                  omega
                · rw [hA, Nat.pow_succ, Nat.mul_assoc]
                  congr 1
                  omega
            · refine z_go ?_
              refine z_bf (nI_ge (a := i) (b := 24) hi (by omega)) ?_
              refine z_bf (fun q => by have q2 : lN a &&& 1 = 0 := (lg_cmp_eq _ _).mp q; rw [wb_a1 (by omega)] at q2; have q3 := (lN_eq (a := a % 2) (b := 0) (by omega) (by omega)).mp q2; omega) ?_
              refine z_go ?_
              refine z_bf (by decide) ?_
              refine z_go ?_
              exact z_rq hret (z_vl ((aMt_1 w c k (mG_h hA hm (Or.inl od)).2).symm)) ⟨i1, i3⟩) (by
            rintro ⟨x, y, z⟩ M' ⟨rfl, a, e, hx, hy, hz, hA, hm⟩
            simp only at hx hy hz
            subst hx; subst hy; subst hz
            refine z_go ?_
            refine z_bt (nI_le (a := 24) (b := 24) (Nat.le_refl _) (by omega)) ?_
            refine z_go ?_
            refine z_bf (by decide) ?_
            refine z_go ?_
            exact z_rq hret (z_vl ((aMt_1 w c k (mG_h hA hm (Or.inr (by omega))).2).symm)) ⟨i1, i3⟩)
          exact loop 0 (_, _, _) _ (Nat.zero_le _) ⟨rfl, mSum w c k, 4 * w.2 2, rfl, hbl, rfl, by rw [Nat.pow_zero, Nat.one_mul], by omega⟩
      · refine z_ca (z_cv 1 (c5_within _ _ _ _ _ (Nat.le_of_ble_eq_true rfl)) (zb_1 hx)) ?_
        refine z_bf (by decide) ?_
        refine z_ca (z_cv 1 (d5_isHouse n 15 M w hI.1 _) (zb_1 hy)) ?_
        refine z_bf (by decide) ?_
        refine z_ca (z_cv 0 (c5_within _ _ _ _ _ (Nat.le_of_ble_eq_true rfl)) (zb_0 hz)) ?_
        refine z_bt (by decide) ?_
        exact z_rq hret (z_vl (show _ = aMoth w x y z from (if_neg (fun q => hz q.2.2)).symm)) ⟨hI, fun _ _ => rfl⟩
    · refine z_ca (z_cv 1 (c5_within _ _ _ _ _ (Nat.le_of_ble_eq_true rfl)) (zb_1 hx)) ?_
      refine z_bf (by decide) ?_
      refine z_ca (z_cv 0 (d5_isHouse n 15 M w hI.1 _) (zb_0 hy)) ?_
      refine z_bt (by decide) ?_
      refine z_go ?_
      exact z_rq hret (z_vl (show _ = aMoth w x y z from (if_neg (fun q => hy q.2.1)).symm)) ⟨hI, fun _ _ => rfl⟩
  · refine z_ca (z_cv 0 (c5_within _ _ _ _ _ (Nat.le_of_ble_eq_true rfl)) (zb_0 hx)) ?_
    refine z_bt (by decide) ?_
    refine z_go ?_
    exact z_rq hret (z_vl (show _ = aMoth w x y z from (if_neg (fun q => hx q.1)).symm)) ⟨hI, fun _ _ => rfl⟩

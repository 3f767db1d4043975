/-! the reference: leaves of an hour -/
def mThN (w : Int32) (k : Nat) : Bool := !mThB w k
theorem mThN_t {w : Int32} {k : Nat} (h : zb ((w >>> (nI k &&& 31)) &&& 1 = 1) = 0) : mThN w k = true := by
  have h := zb_eq0.mp h
  simp [mThN, mThB, h]
theorem mThN_f {w : Int32} {k : Nat} (h : ¬ zb ((w >>> (nI k &&& 31)) &&& 1 = 1) = 0) : mThN w k = false := by
  have h := Classical.not_not.mp (fun q => h (zb_eq0.mpr q))
  simp [mThN, mThB, h]
set_option maxRecDepth 10000 in
set_option maxHeartbeats 1000000 in
theorem c6_leaking (n eb : Nat) (M : zM) (h : Int32) (K : Nat) (hK : K ≤ 6) (hk : M 45 11 = nI K) : zMet zi_X6_leaking [.ref 45, .int h] (zLay n eb) M (zLay n eb) (zx (some (.int (mLk (mThN (M 45 19)) (M 55) (M 56) (M 57) h K))) M) := by
  refine z_me (zk_X6_leaking _ _) rfl (Nat.le_of_ble_eq_true rfl) rfl (fun ret hret => ?_)
  have loop := z_l2 (P := zp_X6_leaking) (ret := ret) (pc := 4) (L := zLay n eb) (N := K) (lo := (fun x y => [some (.ref 45), some (.int h), some (.int x), some (.int y), none])) (I := (fun i x y M' => M' = M ∧ x = mLk (mThN (M 45 19)) (M 55) (M 56) (M 57) h i ∧ y = nI i)) (by
    rintro i x y M' hi ⟨rfl, rfl, rfl⟩ ih
    have hcl : (nI i).toNatClampNeg = i := z_cl (by omega)
    refine z_go ?_
    refine z_bf (by rw [hk]; exact nI_ge hi (by omega)) ?_
    refine And.intro (z_inN0 (by omega) (by omega)) ?_
    refine z_br (fun h1j => ?_) (fun h1n => ?_)
    · refine z_go ?_
      refine z_bt (by decide) ?_
      refine z_go ?_
      refine ih _ _ _ ⟨rfl, ?_, nI_1 i⟩
      first | (have ht := mThN_t h1j) | (have ht := mThN_f h1j) | skip
      simp only [hcl] at *
      rw [mLk]
      split <;> simp_all <;> (try (intros; exfalso; simp only [fa_lt, fa_le] at *; omega))
    · refine And.intro (z_inN0 (by omega) (by omega)) ?_
      refine And.intro (z_inN0 (by omega) (by omega)) ?_
      refine z_br (fun h2j => ?_) (fun h2n => ?_)
      · refine z_go ?_
        refine z_go ?_
        refine z_bf (by decide) ?_
        refine z_ca (c6_isIn _ _ _ _ (Nat.le_of_ble_eq_true rfl)) ?_
        refine z_br (fun h3n => ?_) (fun h3j => ?_)
        · refine And.intro (z_inN0 (by omega) (by omega)) ?_
          refine z_go ?_
          refine ih _ _ _ ⟨rfl, ?_, nI_1 i⟩
          first | (have ht := mThN_t h3n) | (have ht := mThN_f h3n) | skip
          simp only [hcl] at *
          rw [mLk]
          split <;> simp_all <;> (try (intros; exfalso; simp only [fa_lt, fa_le] at *; omega))
        · refine z_go ?_
          refine ih _ _ _ ⟨rfl, ?_, nI_1 i⟩
          first | (have ht := mThN_t h3j) | (have ht := mThN_f h3j) | skip
          simp only [hcl] at *
          rw [mLk]
          split <;> simp_all <;> (try (intros; exfalso; simp only [fa_lt, fa_le] at *; omega))
      · refine And.intro (z_inN0 (by omega) (by omega)) ?_
        refine z_br (fun h4j => ?_) (fun h4n => ?_)
        · refine z_go ?_
          refine z_bt (by decide) ?_
          refine z_go ?_
          refine ih _ _ _ ⟨rfl, ?_, nI_1 i⟩
          first | (have ht := mThN_t h4j) | (have ht := mThN_f h4j) | skip
          simp only [hcl] at *
          rw [mLk]
          split <;> simp_all <;> (try (intros; exfalso; simp only [fa_lt, fa_le] at *; omega))
        · refine z_go ?_
          refine z_bf (by decide) ?_
          refine z_ca (c6_isIn _ _ _ _ (Nat.le_of_ble_eq_true rfl)) ?_
          refine z_br (fun h5n => ?_) (fun h5j => ?_)
          · refine And.intro (z_inN0 (by omega) (by omega)) ?_
            refine z_go ?_
            refine ih _ _ _ ⟨rfl, ?_, nI_1 i⟩
            first | (have ht := mThN_t h5n) | (have ht := mThN_f h5n) | skip
            simp only [hcl] at *
            rw [mLk]
            split <;> simp_all <;> (try (intros; exfalso; simp only [fa_lt, fa_le] at *; omega))
          · refine z_go ?_
            refine ih _ _ _ ⟨rfl, ?_, nI_1 i⟩
            first | (have ht := mThN_t h5j) | (have ht := mThN_f h5j) | skip
            simp only [hcl] at *
            rw [mLk]
            split <;> simp_all <;> (try (intros; exfalso; simp only [fa_lt, fa_le] at *; omega))) (by
    rintro x y M' ⟨rfl, rfl, rfl⟩
    refine z_go ?_
    refine z_bt (by rw [hk]; exact nI_le (Nat.le_refl _) (by omega)) ?_
    refine z_go ?_
    exact z_re hret (z_vi rfl) rfl)
  exact loop 0 _ _ _ (Nat.zero_le _) ⟨rfl, rfl, rfl⟩
set_option maxRecDepth 10000 in
set_option maxHeartbeats 1000000 in
theorem c6_doneIn (n eb : Nat) (M : zM) (k h z : Nat) (hk : k < 9) (hh : h < 40) (hz : 0 < z) (hz3 : z ≤ 3) (e : M 51 k = nI z) : zMet zi_X6_doneIn [.ref 45, .int (nI k), .int (nI h)] (zLay n eb) M (zLay n eb) (zx (some (.int (M 52 (3 * k + h % z)))) M) := by
  refine z_me (zk_X6_doneIn _ _) rfl (Nat.le_of_ble_eq_true rfl) rfl (fun ret hret => ?_)
  have hck : (nI k).toNatClampNeg = k := z_cl (by omega)
  have hlt : h % z < z := Nat.mod_lt _ hz
  have hix : 3 * nI k + (nI h - nI h / M 51 (nI k).toNatClampNeg * M 51 (nI k).toNatClampNeg) = nI (3 * k + h % z) := by
    rw [hck, e, pk_rem (by omega) hz (by omega), show (3 : Int32) = nI 3 from rfl, pk_mul, nI_add]
  refine And.intro (z_inN0 (by omega) (by omega)) ?_
  refine And.intro (by show ¬ M 51 (nI k).toNatClampNeg = 0; rw [hck, e]; exact nI_ne0 hz (by omega)) ?_
  refine And.intro (by show vp_in (3 * nI k + (nI h - nI h / M 51 (nI k).toNatClampNeg * M 51 (nI k).toNatClampNeg)) 27; rw [hix]; exact z_inN0 (by omega) (by omega)) ?_
  exact z_re hret (z_vi (by show M 52 (3 * nI k + (nI h - nI h / M 51 (nI k).toNatClampNeg * M 51 (nI k).toNatClampNeg)).toNatClampNeg = _; rw [hix, z_cl (by omega)])) rfl
set_option maxRecDepth 10000 in
set_option maxHeartbeats 1000000 in
theorem c6_needs (n eb : Nat) (M : zM) (k h z : Nat) (hk : k < 9) (hh : h < 40) (hz : 0 < z) (hz3 : z ≤ 3) (e : M 51 k = nI z) : zMet zi_X6_needs [.ref 45, .int (nI k), .int (nI h)] (zLay n eb) M (zLay n eb) (zx (some (.int (1 <<< (M 52 (3 * k + h % z) &&& 31)))) M) := by
  refine z_me (zk_X6_needs _ _) rfl (Nat.le_of_ble_eq_true rfl) rfl (fun ret hret => ?_)
  refine z_ca (c6_doneIn n eb _ k h z hk hh hz hz3 e) ?_
  exact hret
set_option maxRecDepth 10000 in
set_option maxHeartbeats 1000000 in
theorem c6_opens (n eb : Nat) (M : zM) (h : Int32) (N K : Nat) (hN : N ≤ 8) (hn : M 45 2 = nI N) (hK : K ≤ 6) (hk : M 45 15 = nI K) (hpq : ∀ i, i < K → ∃ q, q < 8 ∧ M 59 i = nI q) : zMet zi_X6_opens [.ref 45, .int h] (zLay n eb) M (zLay n eb) (zr none (fun M' => ∃ l, M' = va_up M 61 l ∧ ∀ j, j < N → l j = if nI j = M 45 21 ∨ mPn (mThN (M 45 20)) (M 58) (M 59) h j K = true then 0 else M 50 j)) := by
  refine z_mr (zk_X6_opens _ _) rfl (Nat.le_of_ble_eq_true rfl) rfl (fun ret hret => ?_)
  have loop2 := z_l1 (P := zp_X6_opens) (ret := ret) (pc := 42) (L := zLay n eb) (N := K) (lo := fun x => [some (.ref 45), some (.int h), some (.int x)]) (I := fun i x M' => x = nI i ∧ ∃ l, M' = va_up M 61 l ∧ ∀ j, j < N → l j = if nI j = M 45 21 ∨ mPn (mThN (M 45 20)) (M 58) (M 59) h j i = true then 0 else M 50 j) (by
    rintro i x M' hi ⟨rfl, l, rfl, hl⟩ ih
    have hcl : (nI i).toNatClampNeg = i := z_cl (by omega)
    obtain ⟨q, hq, hq1⟩ := hpq i hi
    refine z_go ?_
    refine z_bf (by show ¬ M 45 15 ≤ nI i; rw [hk]; exact nI_ge hi (by omega)) ?_
    refine And.intro (z_inN0 (by omega) (by omega)) ?_
    refine z_br (fun h1n => ?_) (fun h1j => ?_)
    · refine And.intro (z_inN0 (by omega) (by omega)) ?_
      refine z_br (fun h2j => ?_) (fun h2n => ?_)
      · refine z_go ?_
        refine ih _ _ ⟨nI_1 i, l, rfl, fun j hj => ?_⟩
        have hne : ¬ nI q = nI j := by
          intro z
          have z := (nI_eq (by omega) (by omega)).mp z
          have hb : M 45 2 ≤ M 59 (nI i).toNatClampNeg := h2j
          rw [hcl, hq1, hn, nI_leI (by omega) (by omega)] at hb
          omega
        rw [hl j hj, mPn]
        simp [hq1, hne]
      · refine z_ca (c6_isIn _ _ _ _ (Nat.le_of_ble_eq_true rfl)) ?_
        refine z_br (fun h3n => ?_) (fun h3j => ?_)
        · refine And.intro (z_inN0 (by omega) (by omega)) ?_
          refine And.intro (by show vp_in (M 59 (nI i).toNatClampNeg) 8; rw [hcl, hq1]; exact z_inN0 hq (by omega)) ?_
          refine ih _ _ ⟨nI_1 i, upd l q 0, by rw [z_uu, z_us, show va_up M 61 l 59 (nI i).toNatClampNeg = nI q from (by rw [hcl]; exact hq1), z_cl (by omega)], fun j hj => ?_⟩
          have ht := mThN_t (w := M 45 20) h3n
          simp only [hcl, z_un (show (58 : Nat) ≠ 61 by decide), z_un (show (59 : Nat) ≠ 61 by decide), z_un (show (45 : Nat) ≠ 61 by decide)] at h1n h2n
          unfold upd
          rw [mPn]
          by_cases e : j = q
          · subst e
            simp [h1n, ht, hq1]
          · have hne : ¬ nI q = nI j := fun z => e ((nI_eq (by omega) (by omega)).mp z).symm
            simp [e, hl j hj, hq1, hne]
        · refine z_go ?_
          refine ih _ _ ⟨nI_1 i, l, rfl, fun j hj => ?_⟩
          have ht := mThN_f (w := M 45 20) h3j
          rw [hl j hj, mPn]
          simp [ht]
    · refine z_go ?_
      refine ih _ _ ⟨nI_1 i, l, rfl, fun j hj => ?_⟩
      have ha : ¬ M 58 (nI i).toNatClampNeg = h := h1j
      rw [hcl] at ha
      rw [hl j hj, mPn]
      simp [ha]) (by
    rintro x M' ⟨rfl, l, rfl, hl⟩
    refine z_go ?_
    refine z_bt (by show M 45 15 ≤ nI K; rw [hk]; exact nI_le (Nat.le_refl _) (by omega)) ?_
    refine z_go ?_
    exact z_rq hret rfl ⟨l, rfl, hl⟩)
  have loop1 := z_l1 (P := zp_X6_opens) (ret := ret) (pc := 2) (L := zLay n eb) (N := N) (lo := fun x => [some (.ref 45), some (.int h), some (.int x)]) (I := fun i x M' => x = nI i ∧ ∃ l, M' = va_up M 61 l ∧ ∀ j, j < i → l j = if nI j = M 45 21 then 0 else M 50 j) (by
    rintro i x M' hi ⟨rfl, l, rfl, hl⟩ ih
    have hcl : (nI i).toNatClampNeg = i := z_cl (by omega)
    refine z_go ?_
    refine z_bf (by show ¬ M 45 2 ≤ nI i; rw [hn]; exact nI_ge hi (by omega)) ?_
    refine z_br (fun h1n => ?_) (fun h1j => ?_)
    · refine z_go ?_
      refine And.intro (z_inN0 (by omega) (by omega)) ?_
      refine ih _ _ ⟨nI_1 i, upd l i 0, by rw [z_uu, z_us, hcl] <;> rfl, fun j hj => ?_⟩
      simp only [hcl] at *
      unfold upd
      by_cases e : j = i
      · subst e
        simp only [if_true]
        first | exact (if_pos (c := nI j = M 45 21) h1n).symm | exact (if_neg (c := nI j = M 45 21) h1n).symm
      · simp only [e, if_false]; exact hl j (by omega)
    · refine z_go ?_
      refine And.intro (z_inN0 (by omega) (by omega)) ?_
      refine And.intro (z_inN0 (by omega) (by omega)) ?_
      refine ih _ _ ⟨nI_1 i, upd l i (M 50 i), by rw [z_uu, z_us, hcl] <;> rfl, fun j hj => ?_⟩
      simp only [hcl] at *
      unfold upd
      by_cases e : j = i
      · subst e
        simp only [if_true]
        first | exact (if_pos (c := nI j = M 45 21) h1j).symm | exact (if_neg (c := nI j = M 45 21) h1j).symm
      · simp only [e, if_false]; exact hl j (by omega)) (by
    rintro x M' ⟨rfl, l, rfl, hl⟩
    refine z_go ?_
    refine z_bt (by show M 45 2 ≤ nI N; rw [hn]; exact nI_le (Nat.le_refl _) (by omega)) ?_
    refine z_go ?_
    exact loop2 0 _ _ (Nat.zero_le _) ⟨rfl, l, rfl, fun j hj => by rw [hl j hj]; simp [mPn]⟩)
  exact loop1 0 _ _ (Nat.zero_le _) ⟨rfl, M 61, z_uid.symm, fun j hj => absurd hj (Nat.not_lt_zero j)⟩

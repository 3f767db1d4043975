/-! the class: leaves of an hour -/
set_option maxRecDepth 10000 in
set_option maxHeartbeats 1000000 in
theorem c5_within (v lo hi : Int32) (L : zL) (M : zM) (hL : 2 ≤ L.length) : zMet zi_X5_within [.int v, .int lo, .int hi] L M L (zx (some (.int (zb (lo ≤ v ∧ v ≤ hi)))) M) := by
  refine z_me (zk_X5_within _ _) rfl hL rfl (fun ret hret => ?_)
  refine z_br (fun h1j => ?_) (fun h1n => ?_)
  · refine z_go ?_
    exact And.intro rfl (z_re hret (z_vi (by unfold zb; split <;> first | rfl | contradiction | (exfalso; simp only [fa_lt, fa_le, fa_eq] at *; omega) | simp_all)) rfl)
  · refine z_br (fun h2j => ?_) (fun h2n => ?_)
    · refine z_go ?_
      exact And.intro rfl (z_re hret (z_vi (by unfold zb; split <;> first | rfl | contradiction | (exfalso; simp only [fa_lt, fa_le, fa_eq] at *; omega) | simp_all)) rfl)
    · refine z_go ?_
      exact And.intro rfl (z_re hret (z_vi (by unfold zb; split <;> first | rfl | contradiction | (exfalso; simp only [fa_lt, fa_le, fa_eq] at *; omega) | simp_all)) rfl)
set_option maxRecDepth 10000 in
set_option maxHeartbeats 1000000 in
theorem c6_in (v lo hi : Int32) (L : zL) (M : zM) (hL : 2 ≤ L.length) : zMet zi_X6_in [.int v, .int lo, .int hi] L M L (zx (some (.int (zb (lo ≤ v ∧ v ≤ hi)))) M) := by
  refine z_me (zk_X6_in _ _) rfl hL rfl (fun ret hret => ?_)
  refine z_br (fun h1j => ?_) (fun h1n => ?_)
  · refine z_go ?_
    exact And.intro rfl (z_re hret (z_vi (by unfold zb; split <;> first | rfl | contradiction | (exfalso; simp only [fa_lt, fa_le, fa_eq] at *; omega) | simp_all)) rfl)
  · refine z_br (fun h2j => ?_) (fun h2n => ?_)
    · refine z_go ?_
      exact And.intro rfl (z_re hret (z_vi (by unfold zb; split <;> first | rfl | contradiction | (exfalso; simp only [fa_lt, fa_le, fa_eq] at *; omega) | simp_all)) rfl)
    · refine z_go ?_
      exact And.intro rfl (z_re hret (z_vi (by unfold zb; split <;> first | rfl | contradiction | (exfalso; simp only [fa_lt, fa_le, fa_eq] at *; omega) | simp_all)) rfl)
set_option maxRecDepth 10000 in
set_option maxHeartbeats 1000000 in
theorem c5_needOf (x : Int32) (L : zL) (M : zM) (hL : 2 ≤ L.length) : zMet zi_X5_needOf [.int x] L M L (zx (some (.int (if x = 0 then 1 else if x = 1 then 2 else 4))) M) := by
  refine z_me (zk_X5_needOf _ _) rfl hL rfl (fun ret hret => ?_)
  refine z_br (fun h1n => ?_) (fun h1j => ?_)
  · refine z_go ?_
    exact z_re hret (z_vi (by simp [h1n])) rfl
  · refine z_go ?_
    refine z_br (fun h2n => ?_) (fun h2j => ?_)
    · refine z_go ?_
      exact z_re hret (z_vi (by simp [h1j, h2n])) rfl
    · refine z_go ?_
      exact z_re hret (z_vi (by simp [h1j, h2j])) rfl
set_option maxRecDepth 10000 in
set_option maxHeartbeats 1000000 in
theorem c5_partOf (x y : Int32) (L : zL) (M : zM) (hL : 2 ≤ L.length) : zMet zi_X5_partOf [.int x, .int y] L M L (zx (some (.int (if x = 2147483647 then -1 else if y = 0 then x - x / 64 * 64 else x / 64))) M) := by
  refine z_me (zk_X5_partOf _ _) rfl hL rfl (fun ret hret => ?_)
  refine z_br (fun h1n => ?_) (fun h1j => ?_)
  · exact z_re hret (z_vi (by simp [h1n])) rfl
  · refine z_go ?_
    refine z_br (fun h2n => ?_) (fun h2j => ?_)
    · refine And.intro (by decide) ?_
      refine z_go ?_
      exact z_re hret (z_vi (by simp [h1j, h2n])) rfl
    · refine z_go ?_
      refine And.intro (by decide) ?_
      exact z_re hret (z_vi (by simp [h1j, h2j])) rfl
set_option maxRecDepth 10000 in
set_option maxHeartbeats 1000000 in
theorem c6_isIn (x k : Int32) (L : zL) (M : zM) (hL : 2 ≤ L.length) : zMet zi_X6_isIn [.int x, .int k] L M L (zx (some (.int (zb ((x >>> (k &&& 31)) &&& 1 = 1)))) M) := by
  refine z_me (zk_X6_isIn _ _) rfl hL rfl (fun ret hret => ?_)
  refine z_br (fun h1n => ?_) (fun h1j => ?_)
  · refine z_go ?_
    exact And.intro rfl (z_re hret (z_vi (by unfold zb; split <;> first | rfl | contradiction | (exfalso; simp only [fa_lt, fa_le, fa_eq] at *; omega) | simp_all)) rfl)
  · refine z_go ?_
    exact And.intro rfl (z_re hret (z_vi (by unfold zb; split <;> first | rfl | contradiction | (exfalso; simp only [fa_lt, fa_le, fa_eq] at *; omega) | simp_all)) rfl)
set_option maxRecDepth 10000 in
set_option maxHeartbeats 1000000 in
theorem c5_isHouse (n eb : Nat) (M : zM) (k : Int32) : zMet zi_X5_isHouse [.ref 2, .int k] (zLay n eb) M (zLay n eb) (zx (some (.int (zb (0 ≤ k ∧ k ≤ M 8 6 - 1)))) M) := by
  refine z_me (zk_X5_isHouse _ _) rfl (Nat.le_of_ble_eq_true rfl) rfl (fun ret hret => ?_)
  refine z_ca (c5_within _ _ _ _ _ (Nat.le_of_ble_eq_true rfl)) ?_
  exact And.intro (zb_nar _) hret
def mThB (w : Int32) (k : Nat) : Bool := decide ((w >>> (nI k &&& 31)) &&& 1 = 1)
set_option maxRecDepth 10000 in
set_option maxHeartbeats 1000000 in
theorem c4_leaking (n eb : Nat) (M : zM) (h : Int32) (K : Nat) (hK : K ≤ 6) (hk : M 7 9 = nI K) : zMet zi_X4_leaking [.ref 7, .int h] (zLay n eb) M (zLay n eb) (zx (some (.int (mLk (mThB (M 7 10)) (M 16) (M 17) (M 18) h K))) M) := by
  refine z_me (zk_X4_leaking _ _) rfl (Nat.le_of_ble_eq_true rfl) rfl (fun ret hret => ?_)
  have loop := z_l2 (P := zp_X4_leaking) (ret := ret) (pc := 4) (L := zLay n eb) (N := K) (lo := (fun x y => [some (.ref 7), some (.int h), some (.int x), some (.int y), none])) (I := (fun i x y M' => M' = M ∧ x = mLk (mThB (M 7 10)) (M 16) (M 17) (M 18) h i ∧ y = nI i)) (by
    rintro i x y M' hi ⟨rfl, rfl, rfl⟩ ih
    have hcl : (nI i).toNatClampNeg = i := z_cl (by omega)
    refine z_go ?_
    refine z_bf (by rw [hk]; exact nI_ge hi (by omega)) ?_
    refine And.intro (z_inN0 (by omega) (by omega)) ?_
    refine z_br (fun h1j => ?_) (fun h1n => ?_)
    · refine z_go ?_
      refine z_bt (by decide) ?_
      refine z_go ?_
      exact ih _ _ _ ⟨rfl, (by simp only [hcl] at *; rw [mLk]; split <;> simp_all [mThB] <;> (try (intros; exfalso; simp only [fa_lt, fa_le] at *; omega))), nI_1 i⟩
    · refine And.intro (z_inN0 (by omega) (by omega)) ?_
      refine And.intro (z_inN0 (by omega) (by omega)) ?_
      refine z_br (fun h2j => ?_) (fun h2n => ?_)
      · refine z_go ?_
        refine z_go ?_
        refine z_bf (by decide) ?_
        refine z_br (fun h3n => ?_) (fun h3j => ?_)
        · refine And.intro (z_inN0 (by omega) (by omega)) ?_
          exact ih _ _ _ ⟨rfl, (by simp only [hcl] at *; rw [mLk]; split <;> simp_all [mThB] <;> (try (intros; exfalso; simp only [fa_lt, fa_le] at *; omega))), nI_1 i⟩
        · refine z_go ?_
          exact ih _ _ _ ⟨rfl, (by simp only [hcl] at *; rw [mLk]; split <;> simp_all [mThB] <;> (try (intros; exfalso; simp only [fa_lt, fa_le] at *; omega))), nI_1 i⟩
      · refine And.intro (z_inN0 (by omega) (by omega)) ?_
        refine z_br (fun h4j => ?_) (fun h4n => ?_)
        · refine z_go ?_
          refine z_bt (by decide) ?_
          refine z_go ?_
          exact ih _ _ _ ⟨rfl, (by simp only [hcl] at *; rw [mLk]; split <;> simp_all [mThB] <;> (try (intros; exfalso; simp only [fa_lt, fa_le] at *; omega))), nI_1 i⟩
        · refine z_go ?_
          refine z_bf (by decide) ?_
          refine z_br (fun h5n => ?_) (fun h5j => ?_)
          · refine And.intro (z_inN0 (by omega) (by omega)) ?_
            exact ih _ _ _ ⟨rfl, (by simp only [hcl] at *; rw [mLk]; split <;> simp_all [mThB] <;> (try (intros; exfalso; simp only [fa_lt, fa_le] at *; omega))), nI_1 i⟩
          · refine z_go ?_
            exact ih _ _ _ ⟨rfl, (by simp only [hcl] at *; rw [mLk]; split <;> simp_all [mThB] <;> (try (intros; exfalso; simp only [fa_lt, fa_le] at *; omega))), nI_1 i⟩) (by
    rintro x y M' ⟨rfl, rfl, rfl⟩
    refine z_go ?_
    refine z_bt (by rw [hk]; exact nI_le (Nat.le_refl _) (by omega)) ?_
    refine z_go ?_
    exact z_re hret (z_vi rfl) rfl)
  exact loop 0 _ _ _ (Nat.zero_le _) ⟨rfl, rfl, rfl⟩
set_option maxRecDepth 10000 in
set_option maxHeartbeats 1000000 in
theorem c4_openPipes27 (n eb : Nat) (M : zM) (h : Int32) (K : Nat) (hK : K ≤ 6) (hk : M 7 13 = nI K) (hpq : ∀ i, i < K → ∃ q, q < 8 ∧ M 20 i = nI q) : zMet zi_X4_openPipes [.ref 7, .int h, .ref 27] (zLay n eb) M (zLay n eb) (zr none (fun M' => ∃ l, M' = va_up M 27 l ∧ ∀ j, j < 8 → l j = if nI j = M 7 15 ∨ mPn (mThB (M 7 14)) (M 19) (M 20) h j K = true then 0 else M 11 j)) := by
  refine z_mr (zk_X4_openPipes _ _) rfl (Nat.le_of_ble_eq_true rfl) rfl (fun ret hret => ?_)
  have loop2 := z_l1 (P := zp_X4_openPipes) (ret := ret) (pc := 46) (L := zLay n eb) (N := K) (lo := fun x => [some (.ref 7), some (.int h), some (.ref 27), some (.int x), none, none]) (I := fun i x M' => x = nI i ∧ ∃ l, M' = va_up M 27 l ∧ ∀ j, j < 8 → l j = if nI j = M 7 15 ∨ mPn (mThB (M 7 14)) (M 19) (M 20) h j i = true then 0 else M 11 j) (by
    rintro i x M' hi ⟨rfl, l, rfl, hl⟩ ih
    have hcl : (nI i).toNatClampNeg = i := z_cl (by omega)
    obtain ⟨q, hq, hq1⟩ := hpq i hi
    refine z_go ?_
    refine z_bf (by show ¬ M 7 13 ≤ nI i; rw [hk]; exact nI_ge hi (by omega)) ?_
    refine And.intro (z_inN0 (by omega) (by omega)) ?_
    refine And.intro (z_inN0 (by omega) (by omega)) ?_
    refine z_br (fun h1n => ?_) (fun h1j => ?_)
    · refine z_br (fun h2n => ?_) (fun h2j => ?_)
      · refine z_go ?_
        refine z_bf (by decide) ?_
        refine z_bf (by show ¬ M 20 (nI i).toNatClampNeg < 0; rw [hcl, hq1]; exact nI_pos (by omega)) ?_
        refine z_bf (by show ¬ Int32.ofNat 8 ≤ M 20 (nI i).toNatClampNeg; rw [hcl, hq1]; exact nI_ge (a := q) (b := 8) hq (by omega)) ?_
        refine And.intro (by show vp_in (M 20 (nI i).toNatClampNeg) 8; rw [hcl, hq1]; exact z_inN0 hq (by omega)) ?_
        refine ih _ _ ⟨nI_1 i, upd l q 0, by rw [z_uu, z_us, show va_up M 27 l 20 (nI i).toNatClampNeg = nI q from (by rw [hcl]; exact hq1), z_cl (by omega)], fun j hj => ?_⟩
        simp only [hcl, z_un (show (19 : Nat) ≠ 27 by decide), z_un (show (7 : Nat) ≠ 27 by decide)] at h1n h2n
        unfold upd
        rw [mPn]
        by_cases e : j = q
        · subst e
          simp [mThB, h1n, h2n, hq1]
        · have hne : ¬ nI q = nI j := fun z => e ((nI_eq (by omega) (by omega)).mp z).symm
          simp [e, hl j hj, hq1, hne]
      · refine z_go ?_
        refine z_bt (by decide) ?_
        refine z_go ?_
        refine ih _ _ ⟨nI_1 i, l, rfl, fun j hj => ?_⟩
        simp only [hcl, z_un (show (19 : Nat) ≠ 27 by decide), z_un (show (7 : Nat) ≠ 27 by decide)] at h1n h2j
        rw [hl j hj, mPn]
        simp [mThB, h1n, h2j]
    · refine z_go ?_
      refine z_bt (by decide) ?_
      refine z_go ?_
      refine ih _ _ ⟨nI_1 i, l, rfl, fun j hj => ?_⟩
      simp only [hcl, z_un (show (19 : Nat) ≠ 27 by decide), z_un (show (7 : Nat) ≠ 27 by decide)] at h1j
      rw [hl j hj, mPn]
      simp [mThB, h1j]) (by
    rintro x M' ⟨rfl, l, rfl, hl⟩
    refine z_go ?_
    refine z_bt (by show M 7 13 ≤ nI K; rw [hk]; exact nI_le (Nat.le_refl _) (by omega)) ?_
    refine z_go ?_
    exact z_rq hret rfl ⟨l, rfl, hl⟩)
  have loop1 := z_l1 (P := zp_X4_openPipes) (ret := ret) (pc := 2) (L := zLay n eb) (N := 8) (lo := fun x => [some (.ref 7), some (.int h), some (.ref 27), some (.int x), none, none]) (I := fun i x M' => x = nI i ∧ ∃ l, M' = va_up M 27 l ∧ ∀ j, j < i → l j = if nI j = M 7 15 then 0 else M 11 j) (by
    rintro i x M' hi ⟨rfl, l, rfl, hl⟩ ih
    have hcl : (nI i).toNatClampNeg = i := z_cl (by omega)
    refine z_go ?_
    refine z_bf (nI_ge (a := i) (b := 8) hi (by omega)) ?_
    refine z_bf (nI_ge (a := i) (b := 8) hi (by omega)) ?_
    refine z_br (fun h1n => ?_) (fun h1j => ?_)
    · refine z_go ?_
      refine And.intro (z_inN0 (by omega) (by omega)) ?_
      refine ih _ _ ⟨nI_1 i, upd l i 0, by rw [z_uu, z_us, hcl] <;> rfl, fun j hj => ?_⟩
      simp only [hcl] at *
      unfold upd
      by_cases e : j = i
      · subst e
        simp only [if_true]
        first | exact (if_pos (c := nI j = M 7 15) h1n).symm | exact (if_neg (c := nI j = M 7 15) h1n).symm
      · simp only [e, if_false]; exact hl j (by omega)
    · refine z_go ?_
      refine And.intro (z_inN0 (by omega) (by omega)) ?_
      refine And.intro (z_inN0 (by omega) (by omega)) ?_
      refine ih _ _ ⟨nI_1 i, upd l i (M 11 i), by rw [z_uu, z_us, hcl] <;> rfl, fun j hj => ?_⟩
      simp only [hcl] at *
      unfold upd
      by_cases e : j = i
      · subst e
        simp only [if_true]
        first | exact (if_pos (c := nI j = M 7 15) h1j).symm | exact (if_neg (c := nI j = M 7 15) h1j).symm
      · simp only [e, if_false]; exact hl j (by omega)) (by
    rintro x M' ⟨rfl, l, rfl, hl⟩
    refine z_go ?_
    refine z_bt (nI_le (a := 8) (b := 8) (Nat.le_refl _) (by omega)) ?_
    refine z_go ?_
    exact loop2 0 _ _ (Nat.zero_le _) ⟨rfl, l, rfl, fun j hj => by rw [hl j hj]; simp [mPn]⟩)
  exact loop1 0 _ _ (Nat.zero_le _) ⟨rfl, M 27, z_uid.symm, fun j hj => absurd hj (Nat.not_lt_zero j)⟩
set_option maxRecDepth 10000 in
set_option maxHeartbeats 1000000 in
theorem c4_openPipes34 (n eb : Nat) (M : zM) (h : Int32) (K : Nat) (hK : K ≤ 6) (hk : M 7 13 = nI K) (hpq : ∀ i, i < K → ∃ q, q < 8 ∧ M 20 i = nI q) : zMet zi_X4_openPipes [.ref 7, .int h, .ref 34] (zLay n eb) M (zLay n eb) (zr none (fun M' => ∃ l, M' = va_up M 34 l ∧ ∀ j, j < 8 → l j = if nI j = M 7 15 ∨ mPn (mThB (M 7 14)) (M 19) (M 20) h j K = true then 0 else M 11 j)) := by
  refine z_mr (zk_X4_openPipes _ _) rfl (Nat.le_of_ble_eq_true rfl) rfl (fun ret hret => ?_)
  have loop2 := z_l1 (P := zp_X4_openPipes) (ret := ret) (pc := 46) (L := zLay n eb) (N := K) (lo := fun x => [some (.ref 7), some (.int h), some (.ref 34), some (.int x), none, none]) (I := fun i x M' => x = nI i ∧ ∃ l, M' = va_up M 34 l ∧ ∀ j, j < 8 → l j = if nI j = M 7 15 ∨ mPn (mThB (M 7 14)) (M 19) (M 20) h j i = true then 0 else M 11 j) (by
    rintro i x M' hi ⟨rfl, l, rfl, hl⟩ ih
    have hcl : (nI i).toNatClampNeg = i := z_cl (by omega)
    obtain ⟨q, hq, hq1⟩ := hpq i hi
    refine z_go ?_
    refine z_bf (by show ¬ M 7 13 ≤ nI i; rw [hk]; exact nI_ge hi (by omega)) ?_
    refine And.intro (z_inN0 (by omega) (by omega)) ?_
    refine And.intro (z_inN0 (by omega) (by omega)) ?_
    refine z_br (fun h1n => ?_) (fun h1j => ?_)
    · refine z_br (fun h2n => ?_) (fun h2j => ?_)
      · refine z_go ?_
        refine z_bf (by decide) ?_
        refine z_bf (by show ¬ M 20 (nI i).toNatClampNeg < 0; rw [hcl, hq1]; exact nI_pos (by omega)) ?_
        refine z_bf (by show ¬ Int32.ofNat 8 ≤ M 20 (nI i).toNatClampNeg; rw [hcl, hq1]; exact nI_ge (a := q) (b := 8) hq (by omega)) ?_
        refine And.intro (by show vp_in (M 20 (nI i).toNatClampNeg) 8; rw [hcl, hq1]; exact z_inN0 hq (by omega)) ?_
        refine ih _ _ ⟨nI_1 i, upd l q 0, by rw [z_uu, z_us, show va_up M 34 l 20 (nI i).toNatClampNeg = nI q from (by rw [hcl]; exact hq1), z_cl (by omega)], fun j hj => ?_⟩
        simp only [hcl, z_un (show (19 : Nat) ≠ 34 by decide), z_un (show (7 : Nat) ≠ 34 by decide)] at h1n h2n
        unfold upd
        rw [mPn]
        by_cases e : j = q
        · subst e
          simp [mThB, h1n, h2n, hq1]
        · have hne : ¬ nI q = nI j := fun z => e ((nI_eq (by omega) (by omega)).mp z).symm
          simp [e, hl j hj, hq1, hne]
      · refine z_go ?_
        refine z_bt (by decide) ?_
        refine z_go ?_
        refine ih _ _ ⟨nI_1 i, l, rfl, fun j hj => ?_⟩
        simp only [hcl, z_un (show (19 : Nat) ≠ 34 by decide), z_un (show (7 : Nat) ≠ 34 by decide)] at h1n h2j
        rw [hl j hj, mPn]
        simp [mThB, h1n, h2j]
    · refine z_go ?_
      refine z_bt (by decide) ?_
      refine z_go ?_
      refine ih _ _ ⟨nI_1 i, l, rfl, fun j hj => ?_⟩
      simp only [hcl, z_un (show (19 : Nat) ≠ 34 by decide), z_un (show (7 : Nat) ≠ 34 by decide)] at h1j
      rw [hl j hj, mPn]
      simp [mThB, h1j]) (by
    rintro x M' ⟨rfl, l, rfl, hl⟩
    refine z_go ?_
    refine z_bt (by show M 7 13 ≤ nI K; rw [hk]; exact nI_le (Nat.le_refl _) (by omega)) ?_
    refine z_go ?_
    exact z_rq hret rfl ⟨l, rfl, hl⟩)
  have loop1 := z_l1 (P := zp_X4_openPipes) (ret := ret) (pc := 2) (L := zLay n eb) (N := 8) (lo := fun x => [some (.ref 7), some (.int h), some (.ref 34), some (.int x), none, none]) (I := fun i x M' => x = nI i ∧ ∃ l, M' = va_up M 34 l ∧ ∀ j, j < i → l j = if nI j = M 7 15 then 0 else M 11 j) (by
    rintro i x M' hi ⟨rfl, l, rfl, hl⟩ ih
    have hcl : (nI i).toNatClampNeg = i := z_cl (by omega)
    refine z_go ?_
    refine z_bf (nI_ge (a := i) (b := 8) hi (by omega)) ?_
    refine z_bf (nI_ge (a := i) (b := 8) hi (by omega)) ?_
    refine z_br (fun h1n => ?_) (fun h1j => ?_)
    · refine z_go ?_
      refine And.intro (z_inN0 (by omega) (by omega)) ?_
      refine ih _ _ ⟨nI_1 i, upd l i 0, by rw [z_uu, z_us, hcl] <;> rfl, fun j hj => ?_⟩
      simp only [hcl] at *
      unfold upd
      by_cases e : j = i
      · subst e
        simp only [if_true]
        first | exact (if_pos (c := nI j = M 7 15) h1n).symm | exact (if_neg (c := nI j = M 7 15) h1n).symm
      · simp only [e, if_false]; exact hl j (by omega)
    · refine z_go ?_
      refine And.intro (z_inN0 (by omega) (by omega)) ?_
      refine And.intro (z_inN0 (by omega) (by omega)) ?_
      refine ih _ _ ⟨nI_1 i, upd l i (M 11 i), by rw [z_uu, z_us, hcl] <;> rfl, fun j hj => ?_⟩
      simp only [hcl] at *
      unfold upd
      by_cases e : j = i
      · subst e
        simp only [if_true]
        first | exact (if_pos (c := nI j = M 7 15) h1j).symm | exact (if_neg (c := nI j = M 7 15) h1j).symm
      · simp only [e, if_false]; exact hl j (by omega)) (by
    rintro x M' ⟨rfl, l, rfl, hl⟩
    refine z_go ?_
    refine z_bt (nI_le (a := 8) (b := 8) (Nat.le_refl _) (by omega)) ?_
    refine z_go ?_
    exact loop2 0 _ _ (Nat.zero_le _) ⟨rfl, l, rfl, fun j hj => by rw [hl j hj]; simp [mPn]⟩)
  exact loop1 0 _ _ (Nat.zero_le _) ⟨rfl, M 34, z_uid.symm, fun j hj => absurd hj (Nat.not_lt_zero j)⟩

/-! the class: draw -/
set_option maxRecDepth 10000 in
set_option maxHeartbeats 1000000 in
theorem c0_draw21 (n eb : Nat) (M : zM) (N k : Nat) (w res : Int32) (hN : N ≤ 8) (hk : k < N) (hon : mOn N (M 9)) (hres : mMin (M 27) (mCh (M 9) 8 (nI k)) w = res) : zMet zi_X0_draw [.ref 21, .ref 9, .int (nI k), .int w] (zLay n eb) M (zLay n eb) (zx (some (.int res)) (va_up M 27 (mSub res (mCh (M 9) 8 (nI k)) (M 27)))) := by
  refine z_me (zk_X0_draw _ _) rfl (Nat.le_of_ble_eq_true rfl) rfl (fun ret hret => ?_)
  have hnx0 : ∀ j, j < N → M 9 j < 0 ∨ ∃ q, q < N ∧ M 9 j = nI q := fun j hj => by
    rcases hon j hj with q | ⟨i, hi, q⟩
    · left; rw [q]; decide
    · right; exact ⟨i, by omega, q⟩
  have loop2 := z_l2 (P := zp_X0_draw) (ret := ret) (pc := 72) (L := zLay n eb) (N := 8) (lo := fun pp x => [some (.ref 21), some (.ref 9), none, none, some (.int res), some (.int pp), some (.int x)]) (I := fun i pp x M' => x = nI i ∧ (pp < 0 ∨ ∃ j, j < N ∧ pp = nI j) ∧ ∃ l, M' = va_up M 27 l ∧ mSub res (mCh (M 9) (8 - i) pp) l = mSub res (mCh (M 9) 8 (nI k)) (M 27)) (by
    rintro i pp x M' hi ⟨rfl, hp, l, rfl, hfin⟩ ih
    have e8 : 8 - i = (8 - (i + 1)) + 1 := by omega
    rw [e8, mCh] at hfin
    rcases hp with hp | ⟨j, hj, rfl⟩
    · rw [if_pos hp] at hfin
      have hfin : l = mSub res (mCh (M 9) 8 (nI k)) (M 27) := hfin
      refine z_go ?_
      refine z_bf (nI_ge (a := i) (b := 8) hi (by omega)) ?_
      refine z_bt hp ?_
      refine z_go ?_
      exact z_re hret rfl (by rw [hfin])
    · have hcj : (nI j).toNatClampNeg = j := z_cl (by omega)
      have hnx := hnx0 j hj
      rw [if_neg (nI_pos (by omega)), hcj, mSub] at hfin
      refine z_go ?_
      refine z_bf (nI_ge (a := i) (b := 8) hi (by omega)) ?_
      refine z_bf (nI_pos (by omega)) ?_
      refine z_bf (nI_ge (a := j) (b := 8) (by omega) (by omega)) ?_
      refine And.intro (z_inN0 (by omega) (by omega)) ?_
      refine And.intro (z_inN0 (by omega) (by omega)) ?_
      refine And.intro (z_inN0 (by omega) (by omega)) ?_
      refine ih _ _ _ ⟨nI_1 i, ?_, upd l j (l j - res), ?_, ?_⟩
      · show M 9 (nI j).toNatClampNeg < 0 ∨ ∃ q, q < N ∧ M 9 (nI j).toNatClampNeg = nI q
        rw [hcj]; exact hnx
      · rw [z_uu, z_us, hcj]
      · show mSub res (mCh (M 9) (8 - (i + 1)) (M 9 (nI j).toNatClampNeg)) _ = _
        rw [hcj]; exact hfin) (by
    rintro pp x M' ⟨rfl, hp, l, rfl, hfin⟩
    have hfin : l = mSub res (mCh (M 9) 8 (nI k)) (M 27) := hfin
    refine z_go ?_
    refine z_bt (nI_le (a := 8) (b := 8) (Nat.le_refl _) (by omega)) ?_
    refine z_go ?_
    exact z_re hret rfl (by rw [hfin]))
  have tail : ∀ pp ii, z_E zp_X0_draw ret 66 [some (.ref 21), some (.ref 9), some (.int (nI k)), none, some (.int res), some (.int pp), some (.int ii)] [] (zLay n eb) M := fun pp ii => z_go (loop2 0 _ _ _ (Nat.zero_le _) ⟨rfl, Or.inr ⟨k, hk, rfl⟩, M 27, z_uid.symm, rfl⟩)
  have loop1 := z_l3 (P := zp_X0_draw) (ret := ret) (pc := 9) (L := zLay n eb) (N := 8) (lo := fun mu pp x => [some (.ref 21), some (.ref 9), some (.int (nI k)), none, some (.int mu), some (.int pp), some (.int x)]) (I := fun i mu pp x M' => M' = M ∧ x = nI i ∧ (pp < 0 ∨ ∃ j, j < N ∧ pp = nI j) ∧ mMin (M 27) (mCh (M 9) (8 - i) pp) mu = res) (by
    rintro i mu pp x M' hi ⟨rfl, rfl, hp, hres'⟩ ih
    have e8 : 8 - i = (8 - (i + 1)) + 1 := by omega
    rw [e8, mCh] at hres'
    rcases hp with hp | ⟨j, hj, rfl⟩
    · rw [if_pos hp] at hres'
      have hm : mu = res := hres'
      refine z_go ?_
      refine z_bf (nI_ge (a := i) (b := 8) hi (by omega)) ?_
      refine z_bt hp ?_
      subst hm
      exact tail _ _
    · have hcj : (nI j).toNatClampNeg = j := z_cl (by omega)
      have hnx := hnx0 j hj
      rw [if_neg (nI_pos (by omega)), hcj, mMin] at hres'
      refine z_go ?_
      refine z_bf (nI_ge (a := i) (b := 8) hi (by omega)) ?_
      refine z_bf (nI_pos (by omega)) ?_
      refine z_bf (nI_ge (a := j) (b := 8) (by omega) (by omega)) ?_
      refine And.intro (z_inN0 (by omega) (by omega)) ?_
      refine z_br (fun h1j => ?_) (fun h1n => ?_)
      · refine z_go ?_
        refine And.intro (z_inN0 (by omega) (by omega)) ?_
        refine ih _ _ _ _ ⟨rfl, nI_1 i, ?_, ?_⟩
        · rw [hcj]; exact hnx
        · rw [hcj] at *
          rw [← hres']
          congr 1
          first | exact (if_neg (Int32.not_lt.mpr h1j)).symm | exact (if_pos (Int32.not_le.mp h1j)).symm
      · refine And.intro (z_inN0 (by omega) (by omega)) ?_
        refine z_go ?_
        refine And.intro (z_inN0 (by omega) (by omega)) ?_
        refine ih _ _ _ _ ⟨rfl, nI_1 i, ?_, ?_⟩
        · rw [hcj]; exact hnx
        · rw [hcj] at *
          rw [← hres']
          congr 1
          first | exact (if_neg (Int32.not_lt.mpr h1n)).symm | exact (if_pos (Int32.not_le.mp h1n)).symm) (by
    rintro mu pp x M' ⟨rfl, rfl, hp, hres'⟩
    have hm : mu = res := hres'
    refine z_go ?_
    refine z_bt (nI_le (a := 8) (b := 8) (Nat.le_refl _) (by omega)) ?_
    subst hm
    exact tail _ _)
  exact loop1 0 _ _ _ _ (Nat.zero_le _) ⟨rfl, rfl, Or.inr ⟨k, hk, rfl⟩, hres⟩
set_option maxRecDepth 10000 in
set_option maxHeartbeats 1000000 in
theorem c0_draw28 (n eb : Nat) (M : zM) (N k : Nat) (w res : Int32) (hN : N ≤ 8) (hk : k < N) (hon : mOn N (M 9)) (hres : mMin (M 34) (mCh (M 9) 8 (nI k)) w = res) : zMet zi_X0_draw [.ref 28, .ref 9, .int (nI k), .int w] (zLay n eb) M (zLay n eb) (zx (some (.int res)) (va_up M 34 (mSub res (mCh (M 9) 8 (nI k)) (M 34)))) := by
  refine z_me (zk_X0_draw _ _) rfl (Nat.le_of_ble_eq_true rfl) rfl (fun ret hret => ?_)
  have hnx0 : ∀ j, j < N → M 9 j < 0 ∨ ∃ q, q < N ∧ M 9 j = nI q := fun j hj => by
    rcases hon j hj with q | ⟨i, hi, q⟩
    · left; rw [q]; decide
    · right; exact ⟨i, by omega, q⟩
  have loop2 := z_l2 (P := zp_X0_draw) (ret := ret) (pc := 72) (L := zLay n eb) (N := 8) (lo := fun pp x => [some (.ref 28), some (.ref 9), none, none, some (.int res), some (.int pp), some (.int x)]) (I := fun i pp x M' => x = nI i ∧ (pp < 0 ∨ ∃ j, j < N ∧ pp = nI j) ∧ ∃ l, M' = va_up M 34 l ∧ mSub res (mCh (M 9) (8 - i) pp) l = mSub res (mCh (M 9) 8 (nI k)) (M 34)) (by
    rintro i pp x M' hi ⟨rfl, hp, l, rfl, hfin⟩ ih
    have e8 : 8 - i = (8 - (i + 1)) + 1 := by omega
    rw [e8, mCh] at hfin
    rcases hp with hp | ⟨j, hj, rfl⟩
    · rw [if_pos hp] at hfin
      have hfin : l = mSub res (mCh (M 9) 8 (nI k)) (M 34) := hfin
      refine z_go ?_
      refine z_bf (nI_ge (a := i) (b := 8) hi (by omega)) ?_
      refine z_bt hp ?_
      refine z_go ?_
      exact z_re hret rfl (by rw [hfin])
    · have hcj : (nI j).toNatClampNeg = j := z_cl (by omega)
      have hnx := hnx0 j hj
      rw [if_neg (nI_pos (by omega)), hcj, mSub] at hfin
      refine z_go ?_
      refine z_bf (nI_ge (a := i) (b := 8) hi (by omega)) ?_
      refine z_bf (nI_pos (by omega)) ?_
      refine z_bf (nI_ge (a := j) (b := 8) (by omega) (by omega)) ?_
      refine And.intro (z_inN0 (by omega) (by omega)) ?_
      refine And.intro (z_inN0 (by omega) (by omega)) ?_
      refine And.intro (z_inN0 (by omega) (by omega)) ?_
      refine ih _ _ _ ⟨nI_1 i, ?_, upd l j (l j - res), ?_, ?_⟩
      · show M 9 (nI j).toNatClampNeg < 0 ∨ ∃ q, q < N ∧ M 9 (nI j).toNatClampNeg = nI q
        rw [hcj]; exact hnx
      · rw [z_uu, z_us, hcj]
      · show mSub res (mCh (M 9) (8 - (i + 1)) (M 9 (nI j).toNatClampNeg)) _ = _
        rw [hcj]; exact hfin) (by
    rintro pp x M' ⟨rfl, hp, l, rfl, hfin⟩
    have hfin : l = mSub res (mCh (M 9) 8 (nI k)) (M 34) := hfin
    refine z_go ?_
    refine z_bt (nI_le (a := 8) (b := 8) (Nat.le_refl _) (by omega)) ?_
    refine z_go ?_
    exact z_re hret rfl (by rw [hfin]))
  have tail : ∀ pp ii, z_E zp_X0_draw ret 66 [some (.ref 28), some (.ref 9), some (.int (nI k)), none, some (.int res), some (.int pp), some (.int ii)] [] (zLay n eb) M := fun pp ii => z_go (loop2 0 _ _ _ (Nat.zero_le _) ⟨rfl, Or.inr ⟨k, hk, rfl⟩, M 34, z_uid.symm, rfl⟩)
  have loop1 := z_l3 (P := zp_X0_draw) (ret := ret) (pc := 9) (L := zLay n eb) (N := 8) (lo := fun mu pp x => [some (.ref 28), some (.ref 9), some (.int (nI k)), none, some (.int mu), some (.int pp), some (.int x)]) (I := fun i mu pp x M' => M' = M ∧ x = nI i ∧ (pp < 0 ∨ ∃ j, j < N ∧ pp = nI j) ∧ mMin (M 34) (mCh (M 9) (8 - i) pp) mu = res) (by
    rintro i mu pp x M' hi ⟨rfl, rfl, hp, hres'⟩ ih
    have e8 : 8 - i = (8 - (i + 1)) + 1 := by omega
    rw [e8, mCh] at hres'
    rcases hp with hp | ⟨j, hj, rfl⟩
    · rw [if_pos hp] at hres'
      have hm : mu = res := hres'
      refine z_go ?_
      refine z_bf (nI_ge (a := i) (b := 8) hi (by omega)) ?_
      refine z_bt hp ?_
      subst hm
      exact tail _ _
    · have hcj : (nI j).toNatClampNeg = j := z_cl (by omega)
      have hnx := hnx0 j hj
      rw [if_neg (nI_pos (by omega)), hcj, mMin] at hres'
      refine z_go ?_
      refine z_bf (nI_ge (a := i) (b := 8) hi (by omega)) ?_
      refine z_bf (nI_pos (by omega)) ?_
      refine z_bf (nI_ge (a := j) (b := 8) (by omega) (by omega)) ?_
      refine And.intro (z_inN0 (by omega) (by omega)) ?_
      refine z_br (fun h1j => ?_) (fun h1n => ?_)
      · refine z_go ?_
        refine And.intro (z_inN0 (by omega) (by omega)) ?_
        refine ih _ _ _ _ ⟨rfl, nI_1 i, ?_, ?_⟩
        · rw [hcj]; exact hnx
        · rw [hcj] at *
          rw [← hres']
          congr 1
          first | exact (if_neg (Int32.not_lt.mpr h1j)).symm | exact (if_pos (Int32.not_le.mp h1j)).symm
      · refine And.intro (z_inN0 (by omega) (by omega)) ?_
        refine z_go ?_
        refine And.intro (z_inN0 (by omega) (by omega)) ?_
        refine ih _ _ _ _ ⟨rfl, nI_1 i, ?_, ?_⟩
        · rw [hcj]; exact hnx
        · rw [hcj] at *
          rw [← hres']
          congr 1
          first | exact (if_neg (Int32.not_lt.mpr h1n)).symm | exact (if_pos (Int32.not_le.mp h1n)).symm) (by
    rintro mu pp x M' ⟨rfl, rfl, hp, hres'⟩
    have hm : mu = res := hres'
    refine z_go ?_
    refine z_bt (nI_le (a := 8) (b := 8) (Nat.le_refl _) (by omega)) ?_
    subst hm
    exact tail _ _)
  exact loop1 0 _ _ _ _ (Nat.zero_le _) ⟨rfl, rfl, Or.inr ⟨k, hk, rfl⟩, hres⟩

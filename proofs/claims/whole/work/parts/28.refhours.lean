/-! the reference: gets, an hour, the hours -/
/-- the town of the reference, as numbers -/
def rTw (M : zM) (N K1 K2 : Nat) (nd op : Nat → Nat → Int32) (lk : Nat → Int32) : Prop :=
  N ≤ 8 ∧ M 45 2 = nI N ∧ mOn N (M 48) ∧ K1 ≤ 6 ∧ M 45 11 = nI K1 ∧ K2 ≤ 6 ∧ M 45 15 = nI K2 ∧ (∀ i, i < K2 → ∃ q, q < 8 ∧ M 59 i = nI q) ∧
  (∀ k, k < N → ∃ z, 0 < z ∧ z ≤ 3 ∧ M 51 k = nI z ∧ ∀ h, h < 40 → 1 <<< (M 52 (3 * k + h % z) &&& 31) = nd h k) ∧ (∀ h, h < 40 → ∀ j, j < N → (if nI j = M 45 21 ∨ mPn (mThN (M 45 20)) (M 58) (M 59) (nI h) j K2 = true then 0 else M 50 j) = op h j) ∧ ∀ h, h < 40 → mLk (mThN (M 45 19)) (M 55) (M 56) (M 57) (nI h) K1 = lk h
theorem nI_nm1 {j : Nat} (h : j < 2147483648) : ¬ nI j = -1 := by
  intro e
  have := (fa_eq _ _).mp e
  rw [nI_toInt (by omega)] at this
  have h1 : (-1 : Int32).toInt = -1 := by decide
  rw [h1] at this
  omega
set_option maxRecDepth 10000 in
set_option maxHeartbeats 1000000 in
theorem c6_gets (n eb : Nat) (M : zM) (N k h z : Nat) (nd0 b : Int32) (hN : N ≤ 8) (hk : k < N) (hon : mOn N (M 48)) (hh : h < 40) (hz : 0 < z) (hz3 : z ≤ 3) (ez : M 51 k = nI z) (hnd : 1 <<< (M 52 (3 * k + h % z) &&& 31) = nd0) (hb : mMin (M 61) (mCh (M 48) 8 (nI k)) (if M 45 23 < nd0 then M 45 23 else nd0) = b) : zMet zi_X6_gets [.ref 45, .int (nI k), .int (nI h)] (zLay n eb) M (zLay n eb) (zx (some (.int b)) (va_up (va_up M 61 (mSub b (mCh (M 48) 8 (nI k)) (M 61))) 45 (upd (M 45) 23 (M 45 23 - b)))) := by
  refine z_me (zk_X6_gets _ _) rfl (Nat.le_of_ble_eq_true rfl) rfl (fun ret hret => ?_)
  have hnx0 : ∀ j i, j + i ≤ k → M 48 j = -1 ∨ ∃ q, q + (i + 1) ≤ k ∧ M 48 j = nI q := fun j i hj => by
    rcases hon j (by omega) with q | ⟨t, ht, q⟩
    · left; exact q
    · right; exact ⟨t, by omega, q⟩
  have loop2 := z_l1 (P := zp_X6_gets) (ret := ret) (pc := 71) (L := zLay n eb) (N := 8) (lo := fun pp => [some (.ref 45), none, none, some (.int b), some (.int pp)]) (I := fun i pp M' => (pp = -1 ∨ ∃ j, j + i ≤ k ∧ pp = nI j) ∧ ∃ l, M' = va_up M 61 l ∧ mSub b (mCh (M 48) (8 - i) pp) l = mSub b (mCh (M 48) 8 (nI k)) (M 61)) (by
    rintro i pp M' hi ⟨hp, l, rfl, hfin⟩ ih
    have e8 : 8 - i = (8 - (i + 1)) + 1 := by omega
    rw [e8, mCh] at hfin
    rcases hp with hp | ⟨j, hj, rfl⟩
    · rw [if_pos (by rw [hp]; decide)] at hfin
      have hfin : l = mSub b (mCh (M 48) 8 (nI k)) (M 61) := hfin
      refine z_go ?_
      refine z_bt hp ?_
      refine z_go ?_
      subst hfin
      exact z_re hret rfl rfl
    · have hcj : (nI j).toNatClampNeg = j := z_cl (by omega)
      have hnx := hnx0 j i hj
      rw [if_neg (nI_pos (by omega)), hcj, mSub] at hfin
      refine z_go ?_
      refine z_bf (nI_nm1 (by omega)) ?_
      refine And.intro (z_inN0 (by omega) (by omega)) ?_
      refine And.intro (z_inN0 (by omega) (by omega)) ?_
      refine And.intro (z_inN0 (by omega) (by omega)) ?_
      refine ih _ _ ⟨?_, upd l j (l j - b), ?_, ?_⟩
      · show M 48 (nI j).toNatClampNeg = -1 ∨ ∃ q, q + (i + 1) ≤ k ∧ M 48 (nI j).toNatClampNeg = nI q
        rw [hcj]; exact hnx
      · rw [z_uu, z_us, hcj]
      · show mSub b (mCh (M 48) (8 - (i + 1)) (M 48 (nI j).toNatClampNeg)) _ = _
        rw [hcj]; exact hfin) (by
    rintro pp M' ⟨hp, l, rfl, hfin⟩
    have hp : pp = -1 := by
      rcases hp with hp | ⟨j, hj, -⟩
      · exact hp
      · omega
    have hfin : l = mSub b (mCh (M 48) 8 (nI k)) (M 61) := hfin
    refine z_go ?_
    refine z_bt hp ?_
    refine z_go ?_
    subst hfin
    exact z_re hret rfl rfl)
  have tail : ∀ pp, z_E zp_X6_gets ret 68 [some (.ref 45), some (.int (nI k)), none, some (.int b), some (.int pp)] [] (zLay n eb) M := fun pp => z_go (loop2 0 _ _ (Nat.zero_le _) ⟨Or.inr ⟨k, Nat.le_refl _, rfl⟩, M 61, z_uid.symm, rfl⟩)
  have loop1 := z_l2 (P := zp_X6_gets) (ret := ret) (pc := 27) (L := zLay n eb) (N := 8) (lo := fun mu pp => [some (.ref 45), some (.int (nI k)), none, some (.int mu), some (.int pp)]) (I := fun i mu pp M' => M' = M ∧ (pp = -1 ∨ ∃ j, j + i ≤ k ∧ pp = nI j) ∧ mMin (M 61) (mCh (M 48) (8 - i) pp) mu = b) (by
    rintro i mu pp M' hi ⟨rfl, hp, hres'⟩ ih
    have e8 : 8 - i = (8 - (i + 1)) + 1 := by omega
    rw [e8, mCh] at hres'
    rcases hp with hp | ⟨j, hj, rfl⟩
    · rw [if_pos (by rw [hp]; decide)] at hres'
      have hm : mu = b := hres'
      refine z_go ?_
      refine z_bt hp ?_
      subst hm
      exact tail _
    · have hcj : (nI j).toNatClampNeg = j := z_cl (by omega)
      have hnx := hnx0 j i hj
      rw [if_neg (nI_pos (by omega)), hcj, mMin] at hres'
      refine z_go ?_
      refine z_bf (nI_nm1 (by omega)) ?_
      refine And.intro (z_inN0 (by omega) (by omega)) ?_
      refine z_br (fun h1j => ?_) (fun h1n => ?_)
      · refine z_go ?_
        refine And.intro (z_inN0 (by omega) (by omega)) ?_
        refine ih _ _ _ ⟨rfl, ?_, ?_⟩
        · rw [hcj]; exact hnx
        · rw [hcj] at *
          rw [← hres']
          congr 1
          first | exact (if_neg (Int32.not_lt.mpr h1j)).symm | exact (if_pos (Int32.not_le.mp h1j)).symm
      · refine And.intro (z_inN0 (by omega) (by omega)) ?_
        refine z_go ?_
        refine And.intro (z_inN0 (by omega) (by omega)) ?_
        refine ih _ _ _ ⟨rfl, ?_, ?_⟩
        · rw [hcj]; exact hnx
        · rw [hcj] at *
          rw [← hres']
          congr 1
          first | exact (if_neg (Int32.not_lt.mpr h1n)).symm | exact (if_pos (Int32.not_le.mp h1n)).symm) (by
    rintro mu pp M' ⟨rfl, hp, hres'⟩
    have hp : pp = -1 := by
      rcases hp with hp | ⟨j, hj, -⟩
      · exact hp
      · omega
    have hm : mu = b := hres'
    refine z_go ?_
    refine z_bt hp ?_
    subst hm
    exact tail _)
  refine z_ca (z_cv nd0 (c6_needs n eb _ k h z (by omega) hh hz hz3 ez) hnd) ?_
  refine z_br (fun h1j => ?_) (fun h1n => ?_)
  · refine z_go ?_
    refine loop1 0 _ _ _ (Nat.zero_le _) ⟨rfl, Or.inr ⟨k, Nat.le_refl _, rfl⟩, ?_⟩
    rw [← hb]
    congr 1
    first | exact (if_neg (Int32.not_lt.mpr h1j)).symm | exact (if_pos (Int32.not_le.mp h1j)).symm
  · refine z_go ?_
    refine loop1 0 _ _ _ (Nat.zero_le _) ⟨rfl, Or.inr ⟨k, Nat.le_refl _, rfl⟩, ?_⟩
    rw [← hb]
    congr 1
    first | exact (if_neg (Int32.not_lt.mpr h1n)).symm | exact (if_pos (Int32.not_le.mp h1n)).symm
set_option maxRecDepth 10000 in
set_option maxHeartbeats 1000000 in
theorem c6_goesBy (n eb : Nat) (M : zM) (h : Nat) (hh : h < 40) (N K1 K2 : Nat) (nd op : Nat → Nat → Int32) (lk : Nat → Int32) (hT : rTw M N K1 K2 nd op lk) (f : Int32) (hf : f = mFull (M 54 1) (M 54 2) (M 45 23) (M 60 h)) (q : Nat → Int32 × (Nat → Int32) × Int32 × Int32 × (Nat → Int32)) (hq : q = mHs (M 48) (M 49) (nd h) (f - mLost f (lk h)) (op h)) : zMet zi_X6_goesBy [.ref 45, .int (nI h)] (zLay n eb) M (zLay n eb) (zr none (fun M' => M' 45 = upd (M 45) 23 (q N).1 ∧ (∀ p, p ≠ 45 → p < 61 ∨ 66 < p → M' p = M p) ∧ (M' 62 h = (q N).1 ∧ M' 63 h = mLost f (lk h) ∧ M' 64 h = (q N).2.2.1 ∧ M' 65 h = (q N).2.2.2.1 ∧ ∀ i, i < N → M' 66 (8 * h + i) = (q N).2.2.2.2 i) ∧ ∀ j, j ≠ h → (M' 62 j = M 62 j ∧ M' 63 j = M 63 j ∧ M' 64 j = M 64 j ∧ M' 65 j = M 65 j ∧ ∀ i, i < 8 → M' 66 (8 * j + i) = M 66 (8 * j + i)))) := by
  refine z_mr (zk_X6_goesBy _ _) rfl (Nat.le_of_ble_eq_true rfl) rfl (fun ret hret => ?_)
  obtain ⟨hN, hn, hon, hK1, hk1, hK2, hk2, hpq, hsz, hop, hlk⟩ := hT
  have hch : (nI h).toNatClampNeg = h := z_cl (by omega)
  have inner := z_l1 (P := zp_X6_goesBy) (ret := ret) (pc := 116) (L := zLay n eb) (N := N) (lo := fun y => [some (.ref 45), some (.int (nI h)), none, some (.int y), none])
    (I := fun k y M' => y = nI k ∧ M' 45 = upd (M 45) 23 (q k).1 ∧ (∀ p, p ≠ 45 → p < 61 ∨ 66 < p → M' p = M p) ∧ M' 62 = M 62 ∧ (∀ j, j ≠ h → M' 63 j = M 63 j ∧ M' 64 j = M 64 j ∧ M' 65 j = M 65 j ∧ ∀ i, i < 8 → M' 66 (8 * j + i) = M 66 (8 * j + i)) ∧ M' 63 h = mLost f (lk h) ∧ M' 64 h = (q k).2.2.1 ∧ M' 65 h = (q k).2.2.2.1 ∧ (∀ j, j < N → M' 61 j = (q k).2.1 j) ∧ ∀ j, j < k → M' 66 (8 * h + j) = (q k).2.2.2.2 j) (by
      rintro k y M9 hk ⟨rfl, h45, hfr, hair, hold, hlo9, hcd, hsh, hlf, hgo⟩ ih9
      have f48 : M9 48 = M 48 := hfr 48 (by omega) (by omega)
      have f49 : M9 49 = M 49 := hfr 49 (by omega) (by omega)
      have f51 : M9 51 = M 51 := hfr 51 (by omega) (by omega)
      have f52 : M9 52 = M 52 := hfr 52 (by omega) (by omega)
      have hck : (nI k).toNatClampNeg = k := z_cl (by omega)
      obtain ⟨z, hz, hz3, ez, hndk⟩ := hsz k hk
      have hat : 8 * nI h + nI k = nI (8 * h + k) := by rw [show (8 : Int32) = nI 8 from rfl, pk_mul, nI_add]
      have hin8 : vp_in (8 * nI h + nI k) 320 := by rw [hat]; exact z_inN0 (by omega) (by omega)
      have hch9 : ∀ j ∈ mCh (M 48) 8 (nI k), j < N := mCh_in hon 8 (nI k) (Or.inr ⟨k, hk, rfl⟩) hN
      obtain ⟨b, hb⟩ : ∃ b, b = mMin (q k).2.1 (mCh (M 48) 8 (nI k)) (if (q k).1 < nd h k then (q k).1 else nd h k) := ⟨_, rfl⟩
      have hqs : q (k + 1) = ((q k).1 - b, mSub b (mCh (M 48) 8 (nI k)) (q k).2.1, (q k).2.2.1 ||| (if 0 < b then 1 <<< (M 49 k &&& 31) else 0), (q k).2.2.2.1 ||| (if b < nd h k then 1 <<< (nI k &&& 31) else 0), upd (q k).2.2.2.2 k b) := by rw [hb, hq]; rfl
      refine z_go ?_
      refine z_bf (by show ¬ M9 45 2 ≤ nI k; rw [h45]; show ¬ M 45 2 ≤ nI k; rw [hn]; exact nI_ge hk (by omega)) ?_
      refine z_ca (c6_gets n eb _ N k h z (nd h k) b hN hk (by show mOn N (M9 48); rw [f48]; exact hon) hh hz hz3 (by show M9 51 k = _; rw [f51]; exact ez) (by show 1 <<< (M9 52 (3 * k + h % z) &&& 31) = _; rw [f52]; exact hndk h hh) (by show mMin (M9 61) (mCh (M9 48) 8 (nI k)) (if M9 45 23 < _ then M9 45 23 else _) = b; rw [f48, h45]; exact (mMin_cong hlf _ _ hch9).trans hb.symm)) ?_
      refine And.intro hin8 ?_
      refine And.intro (z_inN0 (by omega) (by omega)) ?_
      refine z_br (fun h1j => ?_) (fun h1n => ?_)
      · refine z_go ?_
        refine And.intro (z_inN0 (by omega) (by omega)) ?_
        refine And.intro (z_inN0 (by omega) (by omega)) ?_
        refine z_ca (z_cv (nd h k) (c6_needs n eb _ k h z (by omega) hh hz hz3 (by show M9 51 k = _; rw [f51]; exact ez)) (by show 1 <<< (M9 52 (3 * k + h % z) &&& 31) = _; rw [f52]; exact hndk h hh)) ?_
        refine z_br (fun h2j => ?_) (fun h2n => ?_)
        · refine z_go ?_
          refine And.intro (z_inN0 (by omega) (by omega)) ?_
          refine ih9 _ _ ⟨nI_1 k, ?_, fun p hp hp2 => ?_, hair, fun j hj => ?_, ?_, ?_, ?_, fun j hj => ?_, fun j hj => ?_⟩
          · show upd (M9 45) 23 (M9 45 23 - b) = _
            rw [h45, fa_upd_twice, hqs]
            rfl
          · rw [z_un (show p ≠ 65 by omega), z_un (show p ≠ 64 by omega), z_un (show p ≠ 66 by omega), z_un (show p ≠ 45 by omega), z_un (show p ≠ 61 by omega)]
            exact hfr p hp hp2
          · obtain ⟨r2, r3, r4, r5⟩ := hold j hj
            refine ⟨r2, ?_, ?_, fun i hi => ?_⟩
            · rw [← r3]; show upd _ (nI h).toNatClampNeg _ j = M9 64 j; rw [hch]; simp only [upd, hj, if_false]; rfl
            · rw [← r4]; show upd _ (nI h).toNatClampNeg _ j = M9 65 j; rw [hch]; simp only [upd, hj, if_false]; rfl
            · rw [← r5 i hi]; show upd _ (8 * nI h + nI k).toNatClampNeg _ (8 * j + i) = M9 66 (8 * j + i); rw [hat, z_cl (by omega)]; simp only [upd]; rw [if_neg (by omega)]; rfl
          · exact hlo9
          · show upd _ (nI h).toNatClampNeg _ h = _
            rw [hch, hqs, ← hcd]
            simp only [upd, if_true]
            show M9 64 h ||| _ = _
            first | rw [if_neg (Int32.not_lt.mpr h1j)] | (rw [if_pos (Int32.not_le.mp h1j)]; rw [← f49, hck]; rfl)
          · show upd _ (nI h).toNatClampNeg _ h = _
            rw [hch, hqs, ← hsh]
            simp only [upd, if_true]
            show M9 65 h ||| _ = _
            first | rw [if_neg (Int32.not_lt.mpr h2j)] | rw [if_pos (Int32.not_le.mp h2j)]
          · show mSub _ _ (M9 61) j = _
            rw [hqs, f48]
            exact mSub_cong _ _ _ _ hlf hch9 j hj
          · show upd _ (8 * nI h + nI k).toNatClampNeg _ (8 * h + j) = _
            rw [hat, z_cl (by omega), hqs]
            by_cases e : j = k
            · subst e; simp [upd]
            · simp only [upd]
              rw [if_neg (by omega), if_neg e]
              exact hgo j (by omega)
        · refine z_go ?_
          refine And.intro (z_inN0 (by omega) (by omega)) ?_
          refine ih9 _ _ ⟨nI_1 k, ?_, fun p hp hp2 => ?_, hair, fun j hj => ?_, ?_, ?_, ?_, fun j hj => ?_, fun j hj => ?_⟩
          · show upd (M9 45) 23 (M9 45 23 - b) = _
            rw [h45, fa_upd_twice, hqs]
            rfl
          · rw [z_un (show p ≠ 65 by omega), z_un (show p ≠ 64 by omega), z_un (show p ≠ 66 by omega), z_un (show p ≠ 45 by omega), z_un (show p ≠ 61 by omega)]
            exact hfr p hp hp2
          · obtain ⟨r2, r3, r4, r5⟩ := hold j hj
            refine ⟨r2, ?_, ?_, fun i hi => ?_⟩
            · rw [← r3]; show upd _ (nI h).toNatClampNeg _ j = M9 64 j; rw [hch]; simp only [upd, hj, if_false]; rfl
            · rw [← r4]; show upd _ (nI h).toNatClampNeg _ j = M9 65 j; rw [hch]; simp only [upd, hj, if_false]; rfl
            · rw [← r5 i hi]; show upd _ (8 * nI h + nI k).toNatClampNeg _ (8 * j + i) = M9 66 (8 * j + i); rw [hat, z_cl (by omega)]; simp only [upd]; rw [if_neg (by omega)]; rfl
          · exact hlo9
          · show upd _ (nI h).toNatClampNeg _ h = _
            rw [hch, hqs, ← hcd]
            simp only [upd, if_true]
            show M9 64 h ||| _ = _
            first | rw [if_neg (Int32.not_lt.mpr h1j)] | (rw [if_pos (Int32.not_le.mp h1j)]; rw [← f49, hck]; rfl)
          · show upd _ (nI h).toNatClampNeg _ h = _
            rw [hch, hqs, ← hsh]
            simp only [upd, if_true]
            show M9 65 h ||| _ = _
            first | rw [if_neg (Int32.not_lt.mpr h2n)] | rw [if_pos (Int32.not_le.mp h2n)]
          · show mSub _ _ (M9 61) j = _
            rw [hqs, f48]
            exact mSub_cong _ _ _ _ hlf hch9 j hj
          · show upd _ (8 * nI h + nI k).toNatClampNeg _ (8 * h + j) = _
            rw [hat, z_cl (by omega), hqs]
            by_cases e : j = k
            · subst e; simp [upd]
            · simp only [upd]
              rw [if_neg (by omega), if_neg e]
              exact hgo j (by omega)
      · refine And.intro (z_inN0 (by omega) (by omega)) ?_
        refine z_go ?_
        refine And.intro (z_inN0 (by omega) (by omega)) ?_
        refine And.intro (z_inN0 (by omega) (by omega)) ?_
        refine z_ca (z_cv (nd h k) (c6_needs n eb _ k h z (by omega) hh hz hz3 (by show M9 51 k = _; rw [f51]; exact ez)) (by show 1 <<< (M9 52 (3 * k + h % z) &&& 31) = _; rw [f52]; exact hndk h hh)) ?_
        refine z_br (fun h3j => ?_) (fun h3n => ?_)
        · refine z_go ?_
          refine And.intro (z_inN0 (by omega) (by omega)) ?_
          refine ih9 _ _ ⟨nI_1 k, ?_, fun p hp hp2 => ?_, hair, fun j hj => ?_, ?_, ?_, ?_, fun j hj => ?_, fun j hj => ?_⟩
          · show upd (M9 45) 23 (M9 45 23 - b) = _
            rw [h45, fa_upd_twice, hqs]
            rfl
          · rw [z_un (show p ≠ 65 by omega), z_un (show p ≠ 64 by omega), z_un (show p ≠ 66 by omega), z_un (show p ≠ 45 by omega), z_un (show p ≠ 61 by omega)]
            exact hfr p hp hp2
          · obtain ⟨r2, r3, r4, r5⟩ := hold j hj
            refine ⟨r2, ?_, ?_, fun i hi => ?_⟩
            · rw [← r3]; show upd _ (nI h).toNatClampNeg _ j = M9 64 j; rw [hch]; simp only [upd, hj, if_false]; rfl
            · rw [← r4]; show upd _ (nI h).toNatClampNeg _ j = M9 65 j; rw [hch]; simp only [upd, hj, if_false]; rfl
            · rw [← r5 i hi]; show upd _ (8 * nI h + nI k).toNatClampNeg _ (8 * j + i) = M9 66 (8 * j + i); rw [hat, z_cl (by omega)]; simp only [upd]; rw [if_neg (by omega)]; rfl
          · exact hlo9
          · show upd _ (nI h).toNatClampNeg _ h = _
            rw [hch, hqs, ← hcd]
            simp only [upd, if_true]
            show M9 64 h ||| _ = _
            first | rw [if_neg (Int32.not_lt.mpr h1n)] | (rw [if_pos (Int32.not_le.mp h1n)]; rw [← f49, hck]; rfl)
          · show upd _ (nI h).toNatClampNeg _ h = _
            rw [hch, hqs, ← hsh]
            simp only [upd, if_true]
            show M9 65 h ||| _ = _
            first | rw [if_neg (Int32.not_lt.mpr h3j)] | rw [if_pos (Int32.not_le.mp h3j)]
          · show mSub _ _ (M9 61) j = _
            rw [hqs, f48]
            exact mSub_cong _ _ _ _ hlf hch9 j hj
          · show upd _ (8 * nI h + nI k).toNatClampNeg _ (8 * h + j) = _
            rw [hat, z_cl (by omega), hqs]
            by_cases e : j = k
            · subst e; simp [upd]
            · simp only [upd]
              rw [if_neg (by omega), if_neg e]
              exact hgo j (by omega)
        · refine z_go ?_
          refine And.intro (z_inN0 (by omega) (by omega)) ?_
          refine ih9 _ _ ⟨nI_1 k, ?_, fun p hp hp2 => ?_, hair, fun j hj => ?_, ?_, ?_, ?_, fun j hj => ?_, fun j hj => ?_⟩
          · show upd (M9 45) 23 (M9 45 23 - b) = _
            rw [h45, fa_upd_twice, hqs]
            rfl
          · rw [z_un (show p ≠ 65 by omega), z_un (show p ≠ 64 by omega), z_un (show p ≠ 66 by omega), z_un (show p ≠ 45 by omega), z_un (show p ≠ 61 by omega)]
            exact hfr p hp hp2
          · obtain ⟨r2, r3, r4, r5⟩ := hold j hj
            refine ⟨r2, ?_, ?_, fun i hi => ?_⟩
            · rw [← r3]; show upd _ (nI h).toNatClampNeg _ j = M9 64 j; rw [hch]; simp only [upd, hj, if_false]; rfl
            · rw [← r4]; show upd _ (nI h).toNatClampNeg _ j = M9 65 j; rw [hch]; simp only [upd, hj, if_false]; rfl
            · rw [← r5 i hi]; show upd _ (8 * nI h + nI k).toNatClampNeg _ (8 * j + i) = M9 66 (8 * j + i); rw [hat, z_cl (by omega)]; simp only [upd]; rw [if_neg (by omega)]; rfl
          · exact hlo9
          · show upd _ (nI h).toNatClampNeg _ h = _
            rw [hch, hqs, ← hcd]
            simp only [upd, if_true]
            show M9 64 h ||| _ = _
            first | rw [if_neg (Int32.not_lt.mpr h1n)] | (rw [if_pos (Int32.not_le.mp h1n)]; rw [← f49, hck]; rfl)
          · show upd _ (nI h).toNatClampNeg _ h = _
            rw [hch, hqs, ← hsh]
            simp only [upd, if_true]
            show M9 65 h ||| _ = _
            first | rw [if_neg (Int32.not_lt.mpr h3n)] | rw [if_pos (Int32.not_le.mp h3n)]
          · show mSub _ _ (M9 61) j = _
            rw [hqs, f48]
            exact mSub_cong _ _ _ _ hlf hch9 j hj
          · show upd _ (8 * nI h + nI k).toNatClampNeg _ (8 * h + j) = _
            rw [hat, z_cl (by omega), hqs]
            by_cases e : j = k
            · subst e; simp [upd]
            · simp only [upd]
              rw [if_neg (by omega), if_neg e]
              exact hgo j (by omega)) (by
      rintro y M9 ⟨rfl, h45, hfr, hair, hold, hlo9, hcd, hsh, hlf, hgo⟩
      refine z_go ?_
      refine z_bt (by show M9 45 2 ≤ nI N; rw [h45]; show M 45 2 ≤ nI N; rw [hn]; exact nI_le (Nat.le_refl _) (by omega)) ?_
      refine z_go ?_
      refine And.intro (z_inN0 (by omega) (by omega)) ?_
      refine z_rq hret rfl ⟨h45, fun p hp hp2 => ?_, ⟨?_, hlo9, hcd, hsh, hgo⟩, fun j hj => ⟨?_, hold j hj⟩⟩
      · rw [z_un (show p ≠ 62 by omega)]; exact hfr p hp hp2
      · show upd (M9 62) (nI h).toNatClampNeg (M9 45 23) h = _
        rw [hch, h45]; simp [upd]
      · show upd (M9 62) (nI h).toNatClampNeg (M9 45 23) j = _
        rw [hch, hair]; simp only [upd, hj, if_false])
  refine And.intro (z_inN0 (i := 2) (n := 3) (by decide) (by decide)) ?_
  refine And.intro (z_inN0 (by omega) (by omega)) ?_
  refine And.intro (z_inN0 (i := 1) (n := 3) (by decide) (by decide)) ?_
  refine z_br (fun h1j => ?_) (fun h1n => ?_)
  · refine z_go ?_
    refine And.intro (z_inN0 (i := 1) (n := 3) (by decide) (by decide)) ?_
    refine z_ca (z_cv (lk h) (c6_leaking n eb _ _ K1 hK1 hk1) (hlk h hh)) ?_
    refine z_br (fun h2j => ?_) (fun h2n => ?_)
    · refine z_go ?_
      refine And.intro (z_inN0 (by omega) (by omega)) ?_
      refine And.intro (z_inN0 (by omega) (by omega)) ?_
      refine z_cx (c6_opens n eb _ _ N K2 hN hn hK2 hk2 hpq) (fun M7 h9 => ?_)
      obtain ⟨l9, rfl, hl9⟩ := h9
      refine And.intro (z_inN0 (by omega) (by omega)) ?_
      refine And.intro (z_inN0 (by omega) (by omega)) ?_
      have hB : f = (M 54 1) := by
        rw [hf]
        unfold mFull
        have q : M 54 1 ≤ M 45 23 + M 54 2 * M 60 (nI h).toNatClampNeg ↔ M 54 1 ≤ M 45 23 + M 54 2 * M 60 h := by rw [hch]
        first | exact if_neg (Int32.not_lt.mpr (q.mp h1j)) | exact if_pos (Int32.not_le.mp (fun z => h1j (q.mpr z)))
      have hLV : mLost f (lk h) = (M 54 1) := by
        unfold mLost
        rw [hB]
        first | exact if_neg (Int32.not_lt.mpr h2j) | exact if_pos (Int32.not_le.mp h2j) | (have h2' := h2j; simp only [hch] at h2'; first | exact if_neg (Int32.not_lt.mpr h2') | exact if_pos (Int32.not_le.mp h2'))
      have eB : (M 54 1) = (M 54 1) := by first | rfl | rw [hch]
      refine inner 0 _ _ (Nat.zero_le _) ⟨rfl, ?_, fun p hp hp2 => ?_, rfl, fun j hj => ⟨?_, ?_, ?_, fun i hi => rfl⟩, ?_, ?_, ?_, fun j hj => ?_, fun j hj => absurd hj (Nat.not_lt_zero j)⟩
      · show upd (upd (upd (M 45) 23 _) 23 _) 23 ((M 54 1) - upd (M 63) (nI h).toNatClampNeg (M 54 1) (nI h).toNatClampNeg) = _
        rw [fa_upd_twice, fa_upd_twice, hq]
        show _ = upd (M 45) 23 (f - mLost f (lk h))
        rw [hLV, hB]
        simp only [upd, if_true, hch]
      · rw [z_un (show p ≠ 65 by omega), z_un (show p ≠ 64 by omega), z_un (show p ≠ 61 by omega), z_un (show p ≠ 45 by omega), z_un (show p ≠ 63 by omega), z_un (show p ≠ 45 by omega), z_un (show p ≠ 45 by omega)]
      · show upd (M 63) (nI h).toNatClampNeg _ j = _
        rw [hch]; simp only [upd, hj, if_false]
      · show upd _ (nI h).toNatClampNeg _ j = M 64 j
        rw [hch]; simp only [upd, hj, if_false]; rfl
      · show upd _ (nI h).toNatClampNeg _ j = M 65 j
        rw [hch]; simp only [upd, hj, if_false]; rfl
      · show upd (M 63) (nI h).toNatClampNeg (M 54 1) h = _
        rw [hLV]
        simp only [upd, if_true, hch]
      · rw [hq]; show upd _ (nI h).toNatClampNeg _ h = _
        rw [hch]; simp only [upd, if_true]; rfl
      · rw [hq]; show upd _ (nI h).toNatClampNeg _ h = _
        rw [hch]; simp only [upd, if_true]; rfl
      · rw [hq]; show l9 j = op h j
        rw [hl9 j hj]; exact hop h hh j hj
    · refine z_go ?_
      refine And.intro (z_inN0 (by omega) (by omega)) ?_
      refine And.intro (z_inN0 (by omega) (by omega)) ?_
      refine z_cx (c6_opens n eb _ _ N K2 hN hn hK2 hk2 hpq) (fun M7 h9 => ?_)
      obtain ⟨l9, rfl, hl9⟩ := h9
      refine And.intro (z_inN0 (by omega) (by omega)) ?_
      refine And.intro (z_inN0 (by omega) (by omega)) ?_
      have hB : f = (M 54 1) := by
        rw [hf]
        unfold mFull
        have q : M 54 1 ≤ M 45 23 + M 54 2 * M 60 (nI h).toNatClampNeg ↔ M 54 1 ≤ M 45 23 + M 54 2 * M 60 h := by rw [hch]
        first | exact if_neg (Int32.not_lt.mpr (q.mp h1j)) | exact if_pos (Int32.not_le.mp (fun z => h1j (q.mpr z)))
      have hLV : mLost f (lk h) = (lk h) := by
        unfold mLost
        rw [hB]
        first | exact if_neg (Int32.not_lt.mpr h2n) | exact if_pos (Int32.not_le.mp h2n) | (have h2' := h2n; simp only [hch] at h2'; first | exact if_neg (Int32.not_lt.mpr h2') | exact if_pos (Int32.not_le.mp h2'))
      have eB : (M 54 1) = (M 54 1) := by first | rfl | rw [hch]
      refine inner 0 _ _ (Nat.zero_le _) ⟨rfl, ?_, fun p hp hp2 => ?_, rfl, fun j hj => ⟨?_, ?_, ?_, fun i hi => rfl⟩, ?_, ?_, ?_, fun j hj => ?_, fun j hj => absurd hj (Nat.not_lt_zero j)⟩
      · show upd (upd (upd (M 45) 23 _) 23 _) 23 ((M 54 1) - upd (M 63) (nI h).toNatClampNeg (lk h) (nI h).toNatClampNeg) = _
        rw [fa_upd_twice, fa_upd_twice, hq]
        show _ = upd (M 45) 23 (f - mLost f (lk h))
        rw [hLV, hB]
        simp only [upd, if_true, hch]
      · rw [z_un (show p ≠ 65 by omega), z_un (show p ≠ 64 by omega), z_un (show p ≠ 61 by omega), z_un (show p ≠ 45 by omega), z_un (show p ≠ 63 by omega), z_un (show p ≠ 45 by omega), z_un (show p ≠ 45 by omega)]
      · show upd (M 63) (nI h).toNatClampNeg _ j = _
        rw [hch]; simp only [upd, hj, if_false]
      · show upd _ (nI h).toNatClampNeg _ j = M 64 j
        rw [hch]; simp only [upd, hj, if_false]; rfl
      · show upd _ (nI h).toNatClampNeg _ j = M 65 j
        rw [hch]; simp only [upd, hj, if_false]; rfl
      · show upd (M 63) (nI h).toNatClampNeg (lk h) h = _
        rw [hLV]
        simp only [upd, if_true, hch]
      · rw [hq]; show upd _ (nI h).toNatClampNeg _ h = _
        rw [hch]; simp only [upd, if_true]; rfl
      · rw [hq]; show upd _ (nI h).toNatClampNeg _ h = _
        rw [hch]; simp only [upd, if_true]; rfl
      · rw [hq]; show l9 j = op h j
        rw [hl9 j hj]; exact hop h hh j hj
  · refine z_go ?_
    refine z_ca (z_cv (lk h) (c6_leaking n eb _ _ K1 hK1 hk1) (hlk h hh)) ?_
    refine z_br (fun h3j => ?_) (fun h3n => ?_)
    · refine z_go ?_
      refine And.intro (z_inN0 (by omega) (by omega)) ?_
      refine And.intro (z_inN0 (by omega) (by omega)) ?_
      refine z_cx (c6_opens n eb _ _ N K2 hN hn hK2 hk2 hpq) (fun M7 h9 => ?_)
      obtain ⟨l9, rfl, hl9⟩ := h9
      refine And.intro (z_inN0 (by omega) (by omega)) ?_
      refine And.intro (z_inN0 (by omega) (by omega)) ?_
      have hB : f = (M 45 23 + M 54 2 * M 60 h) := by
        rw [hf]
        unfold mFull
        have q : M 54 1 ≤ M 45 23 + M 54 2 * M 60 (nI h).toNatClampNeg ↔ M 54 1 ≤ M 45 23 + M 54 2 * M 60 h := by rw [hch]
        first | exact if_neg (Int32.not_lt.mpr (q.mp h1n)) | exact if_pos (Int32.not_le.mp (fun z => h1n (q.mpr z)))
      have hLV : mLost f (lk h) = (M 45 23 + M 54 2 * M 60 h) := by
        unfold mLost
        rw [hB]
        first | exact if_neg (Int32.not_lt.mpr h3j) | exact if_pos (Int32.not_le.mp h3j) | (have h2' := h3j; simp only [hch] at h2'; first | exact if_neg (Int32.not_lt.mpr h2') | exact if_pos (Int32.not_le.mp h2'))
      have eB : (M 45 23 + M 54 2 * M 60 (nI h).toNatClampNeg) = (M 45 23 + M 54 2 * M 60 h) := by first | rfl | rw [hch]
      refine inner 0 _ _ (Nat.zero_le _) ⟨rfl, ?_, fun p hp hp2 => ?_, rfl, fun j hj => ⟨?_, ?_, ?_, fun i hi => rfl⟩, ?_, ?_, ?_, fun j hj => ?_, fun j hj => absurd hj (Nat.not_lt_zero j)⟩
      · show upd (upd (upd (M 45) 23 _) 23 _) 23 ((M 45 23 + M 54 2 * M 60 (nI h).toNatClampNeg) - upd (M 63) (nI h).toNatClampNeg (M 45 23 + M 54 2 * M 60 (nI h).toNatClampNeg) (nI h).toNatClampNeg) = _
        rw [fa_upd_twice, fa_upd_twice, hq]
        show _ = upd (M 45) 23 (f - mLost f (lk h))
        rw [hLV, hB]
        simp only [upd, if_true, hch]
      · rw [z_un (show p ≠ 65 by omega), z_un (show p ≠ 64 by omega), z_un (show p ≠ 61 by omega), z_un (show p ≠ 45 by omega), z_un (show p ≠ 63 by omega), z_un (show p ≠ 45 by omega), z_un (show p ≠ 45 by omega)]
      · show upd (M 63) (nI h).toNatClampNeg _ j = _
        rw [hch]; simp only [upd, hj, if_false]
      · show upd _ (nI h).toNatClampNeg _ j = M 64 j
        rw [hch]; simp only [upd, hj, if_false]; rfl
      · show upd _ (nI h).toNatClampNeg _ j = M 65 j
        rw [hch]; simp only [upd, hj, if_false]; rfl
      · show upd (M 63) (nI h).toNatClampNeg (M 45 23 + M 54 2 * M 60 (nI h).toNatClampNeg) h = _
        rw [hLV]
        simp only [upd, if_true, hch]
      · rw [hq]; show upd _ (nI h).toNatClampNeg _ h = _
        rw [hch]; simp only [upd, if_true]; rfl
      · rw [hq]; show upd _ (nI h).toNatClampNeg _ h = _
        rw [hch]; simp only [upd, if_true]; rfl
      · rw [hq]; show l9 j = op h j
        rw [hl9 j hj]; exact hop h hh j hj
    · refine z_go ?_
      refine And.intro (z_inN0 (by omega) (by omega)) ?_
      refine And.intro (z_inN0 (by omega) (by omega)) ?_
      refine z_cx (c6_opens n eb _ _ N K2 hN hn hK2 hk2 hpq) (fun M7 h9 => ?_)
      obtain ⟨l9, rfl, hl9⟩ := h9
      refine And.intro (z_inN0 (by omega) (by omega)) ?_
      refine And.intro (z_inN0 (by omega) (by omega)) ?_
      have hB : f = (M 45 23 + M 54 2 * M 60 h) := by
        rw [hf]
        unfold mFull
        have q : M 54 1 ≤ M 45 23 + M 54 2 * M 60 (nI h).toNatClampNeg ↔ M 54 1 ≤ M 45 23 + M 54 2 * M 60 h := by rw [hch]
        first | exact if_neg (Int32.not_lt.mpr (q.mp h1n)) | exact if_pos (Int32.not_le.mp (fun z => h1n (q.mpr z)))
      have hLV : mLost f (lk h) = (lk h) := by
        unfold mLost
        rw [hB]
        first | exact if_neg (Int32.not_lt.mpr h3n) | exact if_pos (Int32.not_le.mp h3n) | (have h2' := h3n; simp only [hch] at h2'; first | exact if_neg (Int32.not_lt.mpr h2') | exact if_pos (Int32.not_le.mp h2'))
      have eB : (M 45 23 + M 54 2 * M 60 (nI h).toNatClampNeg) = (M 45 23 + M 54 2 * M 60 h) := by first | rfl | rw [hch]
      refine inner 0 _ _ (Nat.zero_le _) ⟨rfl, ?_, fun p hp hp2 => ?_, rfl, fun j hj => ⟨?_, ?_, ?_, fun i hi => rfl⟩, ?_, ?_, ?_, fun j hj => ?_, fun j hj => absurd hj (Nat.not_lt_zero j)⟩
      · show upd (upd (upd (M 45) 23 _) 23 _) 23 ((M 45 23 + M 54 2 * M 60 (nI h).toNatClampNeg) - upd (M 63) (nI h).toNatClampNeg (lk h) (nI h).toNatClampNeg) = _
        rw [fa_upd_twice, fa_upd_twice, hq]
        show _ = upd (M 45) 23 (f - mLost f (lk h))
        rw [hLV, hB]
        simp only [upd, if_true, hch]
      · rw [z_un (show p ≠ 65 by omega), z_un (show p ≠ 64 by omega), z_un (show p ≠ 61 by omega), z_un (show p ≠ 45 by omega), z_un (show p ≠ 63 by omega), z_un (show p ≠ 45 by omega), z_un (show p ≠ 45 by omega)]
      · show upd (M 63) (nI h).toNatClampNeg _ j = _
        rw [hch]; simp only [upd, hj, if_false]
      · show upd _ (nI h).toNatClampNeg _ j = M 64 j
        rw [hch]; simp only [upd, hj, if_false]; rfl
      · show upd _ (nI h).toNatClampNeg _ j = M 65 j
        rw [hch]; simp only [upd, hj, if_false]; rfl
      · show upd (M 63) (nI h).toNatClampNeg (lk h) h = _
        rw [hLV]
        simp only [upd, if_true, hch]
      · rw [hq]; show upd _ (nI h).toNatClampNeg _ h = _
        rw [hch]; simp only [upd, if_true]; rfl
      · rw [hq]; show upd _ (nI h).toNatClampNeg _ h = _
        rw [hch]; simp only [upd, if_true]; rfl
      · rw [hq]; show l9 j = op h j
        rw [hl9 j hj]; exact hop h hh j hj
set_option maxRecDepth 10000 in
set_option maxHeartbeats 1000000 in
theorem c6_runs (n eb : Nat) (M : zM) (N K1 K2 : Nat) (nd op : Nat → Nat → Int32) (lk : Nat → Int32) (hT : rTw M N K1 K2 nd op lk) : zMet zi_X6_runs [.ref 45] (zLay n eb) M (zLay n eb) (zr none (fun M' => M' 45 = upd (M 45) 23 (mRest N (M 48) (M 49) nd op lk (M 60) (M 45 22) (M 54 1) (M 54 2) 40) ∧ (∀ p, p ≠ 45 → p < 61 ∨ 66 < p → M' p = M p) ∧ ∀ j, j < 40 → mRes 61 N (mHour N (M 48) (M 49) nd op lk (M 60) (M 45 22) (M 54 1) (M 54 2)) j M')) := by
  refine z_mr (zk_X6_runs _ _) rfl (Nat.le_of_ble_eq_true rfl) rfl (fun ret hret => ?_)
  have outer := z_l1 (P := zp_X6_runs) (ret := ret) (pc := 10) (L := zLay n eb) (N := 40) (lo := fun x => [some (.ref 45), some (.int x)])
    (I := fun h x M' => x = nI h ∧ M' 45 = upd (M 45) 23 (mRest N (M 48) (M 49) nd op lk (M 60) (M 45 22) (M 54 1) (M 54 2) h) ∧ (∀ p, p ≠ 45 → p < 61 ∨ 66 < p → M' p = M p) ∧ ∀ j, j < h → mRes 61 N (mHour N (M 48) (M 49) nd op lk (M 60) (M 45 22) (M 54 1) (M 54 2)) j M') (by
    rintro h x M8 hh ⟨rfl, h45, hfr, hres⟩ ih
    have g48 : M8 48 = M 48 := hfr 48 (by omega) (by omega)
    have g49 : M8 49 = M 49 := hfr 49 (by omega) (by omega)
    have g54 : M8 54 = M 54 := hfr 54 (by omega) (by omega)
    have g60 : M8 60 = M 60 := hfr 60 (by omega) (by omega)
    have hN8 : N ≤ 8 := hT.1
    have hT8 : rTw M8 N K1 K2 nd op lk := by
      unfold rTw
      rw [h45, g48, hfr 59 (by omega) (by omega), hfr 51 (by omega) (by omega), hfr 52 (by omega) (by omega), hfr 58 (by omega) (by omega), hfr 50 (by omega) (by omega), hfr 55 (by omega) (by omega), hfr 56 (by omega) (by omega), hfr 57 (by omega) (by omega)]
      exact hT
    refine z_go ?_
    refine z_bf (nI_ge (a := h) (b := 40) hh (by omega)) ?_
    refine z_cx (c6_goesBy n eb M8 h hh N K1 K2 nd op lk hT8 _ rfl _ rfl) (fun M7 h9 => ?_)
    obtain ⟨q45, qfr, qres, qold⟩ := h9
    rw [g54, h45, g60, g48, g49] at q45 qres
    refine ih _ _ ⟨nI_1 h, ?_, fun p hp hp2 => ?_, fun j hj => ?_⟩
    · rw [q45, fa_upd_twice]
      rfl
    · rw [qfr p hp hp2]; exact hfr p hp hp2
    · by_cases e : j = h
      · subst e
        obtain ⟨a1, a2, a3, a4, a5⟩ := qres
        exact ⟨a1, a2, a3, a4, a5⟩
      · obtain ⟨b1, b2, b3, b4, b5⟩ := qold j e
        obtain ⟨r1, r2, r3, r4, r5⟩ := hres j (by omega)
        exact ⟨b1.trans r1, b2.trans r2, b3.trans r3, b4.trans r4, fun i hi => (b5 i (by omega)).trans (r5 i hi)⟩) (by
    rintro x M8 ⟨rfl, h45, hfr, hres⟩
    refine z_go ?_
    refine z_bt (nI_le (a := 40) (b := 40) (Nat.le_refl _) (by omega)) ?_
    refine z_go ?_
    exact z_rq hret rfl ⟨h45, hfr, hres⟩)
  exact outer 0 _ _ (Nat.zero_le _) ⟨rfl, rfl, fun p hp hp2 => z_un hp, fun j hj => absurd hj (Nat.not_lt_zero j)⟩

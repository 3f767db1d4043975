/-! the class: the hours of a course -/
theorem z_cv {i : zI} {as : List Value} {L : zL} {M M' : zM} {e : Int32} (y : Int32) (hc : zMet i as L M L (zx (some (.int e)) M')) (h : e = y) : zMet i as L M L (zx (some (.int y)) M') := by
  subst h
  exact hc
def mNeed (x : Int32) : Int32 := if x = 0 then 1 else if x = 1 then 2 else 4
/-- what a course holds of the hour j -/
def mRes (C N : Nat) (hr : Nat → Int32 × Int32 × Int32 × Int32 × (Nat → Int32)) (j : Nat) (M : zM) : Prop :=
  M (C + 1) j = (hr j).1 ∧ M (C + 2) j = (hr j).2.1 ∧ M (C + 3) j = (hr j).2.2.1 ∧ M (C + 4) j = (hr j).2.2.2.1 ∧ ∀ i, i < N → M (C + 5) (8 * j + i) = (hr j).2.2.2.2 i
/-- the town of the class, as numbers -/
def cTw (M : zM) (N K1 K2 : Nat) (nd op : Nat → Nat → Int32) (lk : Nat → Int32) : Prop :=
  N ≤ 8 ∧ M 8 6 = nI N ∧ mOn N (M 9) ∧ K1 ≤ 6 ∧ M 7 9 = nI K1 ∧ K2 ≤ 6 ∧ M 7 13 = nI K2 ∧ (∀ i, i < K2 → ∃ q, q < 8 ∧ M 20 i = nI q) ∧
  (∀ h, h < 40 → ∀ k, k < N → mNeed (M 14 (8 * h + k)) = nd h k) ∧ (∀ h, h < 40 → ∀ j, j < N → (if nI j = M 7 15 ∨ mPn (mThB (M 7 14)) (M 19) (M 20) (nI h) j K2 = true then 0 else M 11 j) = op h j) ∧ ∀ h, h < 40 → mLk (mThB (M 7 10)) (M 16) (M 17) (M 18) (nI h) K1 = lk h
set_option maxRecDepth 10000 in
set_option maxHeartbeats 1000000 in
theorem c0_follow21_15 (n : Nat) (M : zM) (N K1 K2 : Nat) (nd op : Nat → Nat → Int32) (lk : Nat → Int32) (hT : cTw M N K1 K2 nd op lk) : zMet zi_X0_follow [.ref 21, .ref 7] (zLay n 15) M (zLay n 15) (zr none (fun M' => (∀ p, p ≤ 21 ∨ 27 < p → M' p = M p) ∧ ∀ j, j < 40 → mRes 21 N (mHour N (M 9) (M 10) nd op lk (M 15) (M 7 3) (M 7 4) (M 7 5)) j M')) := by
  refine z_mr (zk_X0_follow _ _) rfl (Nat.le_of_ble_eq_true rfl) rfl (fun ret hret => ?_)
  obtain ⟨hN, hn, hon, hK1, hk1, hK2, hk2, hpq, hnd, hop, hlk⟩ := hT
  have outer := z_l2 (P := zp_X0_follow) (ret := ret) (pc := 13) (L := zLay n 15) (N := 40) (lo := fun r x => [some (.ref 21), some (.ref 7), some (.ref 8), some (.int r), some (.int x), none, none, none, none, none])
    (I := fun h r x M' => x = nI h ∧ r = mRest N (M 9) (M 10) nd op lk (M 15) (M 7 3) (M 7 4) (M 7 5) h ∧ (∀ p, p ≤ 21 ∨ 27 < p → M' p = M p) ∧ ∀ j, j < h → mRes 21 N (mHour N (M 9) (M 10) nd op lk (M 15) (M 7 3) (M 7 4) (M 7 5)) j M') (by
    rintro h r8 x M8 hh ⟨rfl, hr8, hfr8, hres8⟩ ih
    have hch : (nI h).toNatClampNeg = h := z_cl (by omega)
    have g7 : M8 7 = M 7 := hfr8 7 (by omega)
    have g11 : M8 11 = M 11 := hfr8 11 (by omega)
    have g16 : M8 16 = M 16 := hfr8 16 (by omega)
    have g17 : M8 17 = M 17 := hfr8 17 (by omega)
    have g18 : M8 18 = M 18 := hfr8 18 (by omega)
    have g19 : M8 19 = M 19 := hfr8 19 (by omega)
    have g20 : M8 20 = M 20 := hfr8 20 (by omega)
    have gE : M8 15 = M 15 := hfr8 15 (by omega)
    obtain ⟨f, hf⟩ : ∃ f, f = mFull (M 7 4) (M 7 5) (mRest N (M 9) (M 10) nd op lk (M 15) (M 7 3) (M 7 4) (M 7 5) h) (M 15 h) := ⟨_, rfl⟩
    obtain ⟨q, hq⟩ : ∃ q, q = mHs (M 9) (M 10) (nd h) (f - mLost f (lk h)) (op h) := ⟨_, rfl⟩
    have inner := z_l2 (P := zp_X0_follow) (ret := ret) (pc := 101) (L := zLay n 15) (N := N) (lo := fun r y => [some (.ref 21), some (.ref 7), some (.ref 8), some (.int r), some (.int (nI h)), none, some (.int y), none, none, none])
      (I := fun k r y M' => y = nI k ∧ r = (q k).1 ∧ (∀ p, p ≤ 21 ∨ 27 < p → M' p = M p) ∧ (∀ j, j < h → mRes 21 N (mHour N (M 9) (M 10) nd op lk (M 15) (M 7 3) (M 7 4) (M 7 5)) j M') ∧ M' 23 h = mLost f (lk h) ∧ M' 24 h = (q k).2.2.1 ∧ M' 25 h = (q k).2.2.2.1 ∧ (∀ j, j < N → M' 27 j = (q k).2.1 j) ∧ ∀ j, j < k → M' 26 (8 * h + j) = (q k).2.2.2.2 j) (by
        rintro k r9 y M9 hk ⟨rfl, hrest, hfr, hres, hlo9, hcd, hsh, hlf, hgo⟩ ih9
        have f8 : M9 8 = M 8 := hfr 8 (by omega)
        have f9 : M9 9 = M 9 := hfr 9 (by omega)
        have f10 : M9 10 = M 10 := hfr 10 (by omega)
        have f14 : M9 14 = M 14 := hfr 14 (by omega)
        have hck : (nI k).toNatClampNeg = k := z_cl (by omega)
        have hat : nI h * 8 + nI k = nI (8 * h + k) := by rw [show (8 : Int32) = nI 8 from rfl, pk_mul, nI_add, Nat.mul_comm]
        have hin8 : vp_in (nI h * 8 + nI k) 320 := by rw [hat]; exact z_inN0 (by omega) (by omega)
        have hch9 : ∀ j ∈ mCh (M 9) 8 (nI k), j < N := mCh_in hon 8 (nI k) (Or.inr ⟨k, hk, rfl⟩) hN
        obtain ⟨b, hb⟩ : ∃ b, b = mMin (q k).2.1 (mCh (M 9) 8 (nI k)) (if (q k).1 < nd h k then (q k).1 else nd h k) := ⟨_, rfl⟩
        have hqs : q (k + 1) = ((q k).1 - b, mSub b (mCh (M 9) 8 (nI k)) (q k).2.1, (q k).2.2.1 ||| (if 0 < b then 1 <<< (M 10 k &&& 31) else 0), (q k).2.2.2.1 ||| (if b < nd h k then 1 <<< (nI k &&& 31) else 0), upd (q k).2.2.2.2 k b) := by rw [hb, hq]; rfl
        refine z_go ?_
        refine z_bf (by show ¬ M9 8 6 ≤ nI k; rw [f8, hn]; exact nI_ge hk (by omega)) ?_
        refine And.intro hin8 ?_
        refine z_ca (z_cv (nd h k) (c5_needOf _ _ _ (Nat.le_of_ble_eq_true rfl)) (by show mNeed (M9 14 (nI h * 8 + nI k).toNatClampNeg) = _; rw [hat, z_cl (by omega), f14]; exact hnd h hh k hk)) ?_
        refine z_ca (c0_draw21 n 15 _ N k _ b hN hk (by show mOn N (M9 9); rw [f9]; exact hon) (by show mMin (M9 27) (mCh (M9 9) 8 (nI k)) (if _ < _ then _ else _) = b; rw [f9, hrest]; exact (mMin_cong hlf _ _ hch9).trans hb.symm)) ?_
        refine And.intro hin8 ?_
        refine And.intro (z_inN0 (by omega) (by omega)) ?_
        refine z_br (fun h1j => ?_) (fun h1n => ?_)
        · refine z_go ?_
          refine And.intro (z_inN0 (by omega) (by omega)) ?_
          refine And.intro (z_inN0 (by omega) (by omega)) ?_
          refine z_br (fun h2j => ?_) (fun h2n => ?_)
          · refine z_go ?_
            refine And.intro (z_inN0 (by omega) (by omega)) ?_
            refine ih9 _ _ _ ⟨nI_1 k, ?_, fun p hp => ?_, fun j hj => ?_, ?_, ?_, ?_, fun j hj => ?_, fun j hj => ?_⟩
            · rw [hqs, hrest]
            · rw [z_un (show p ≠ 25 by omega), z_un (show p ≠ 24 by omega), z_un (show p ≠ 26 by omega), z_un (show p ≠ 27 by omega)]
              exact hfr p hp
            · obtain ⟨r1, r2, r3, r4, r5⟩ := hres j hj
              refine ⟨?_, ?_, ?_, ?_, fun i hi => ?_⟩
              · exact r1
              · exact r2
              · rw [← r3]; show upd _ (nI h).toNatClampNeg _ j = M9 24 j; rw [hch]; simp only [upd, Nat.ne_of_lt hj, if_false]; rfl
              · rw [← r4]; show upd _ (nI h).toNatClampNeg _ j = M9 25 j; rw [hch]; simp only [upd, Nat.ne_of_lt hj, if_false]; rfl
              · rw [← r5 i hi]; show upd _ (nI h * 8 + nI k).toNatClampNeg _ (8 * j + i) = M9 26 (8 * j + i); rw [hat, z_cl (by omega)]; simp only [upd]; rw [if_neg (by omega)]; rfl
            · exact hlo9
            · show upd _ (nI h).toNatClampNeg _ h = _
              rw [hch, hqs, ← hcd]
              simp only [upd, if_true]
              show M9 24 h ||| _ = _
              first | rw [if_neg (Int32.not_lt.mpr h1j)] | (rw [if_pos (Int32.not_le.mp h1j)]; rw [← f10, hck]; rfl)
            · show upd _ (nI h).toNatClampNeg _ h = _
              rw [hch, hqs, ← hsh]
              simp only [upd, if_true]
              show M9 25 h ||| _ = _
              first | rw [if_neg (Int32.not_lt.mpr h2j)] | rw [if_pos (Int32.not_le.mp h2j)]
            · show mSub _ _ (M9 27) j = _
              rw [hqs, f9]
              exact mSub_cong _ _ _ _ hlf hch9 j hj
            · show upd _ (nI h * 8 + nI k).toNatClampNeg _ (8 * h + j) = _
              rw [hat, z_cl (by omega), hqs]
              by_cases e : j = k
              · subst e; simp [upd]
              · simp only [upd]
                rw [if_neg (by omega), if_neg e]
                exact hgo j (by omega)
          · refine z_go ?_
            refine And.intro (z_inN0 (by omega) (by omega)) ?_
            refine ih9 _ _ _ ⟨nI_1 k, ?_, fun p hp => ?_, fun j hj => ?_, ?_, ?_, ?_, fun j hj => ?_, fun j hj => ?_⟩
            · rw [hqs, hrest]
            · rw [z_un (show p ≠ 25 by omega), z_un (show p ≠ 24 by omega), z_un (show p ≠ 26 by omega), z_un (show p ≠ 27 by omega)]
              exact hfr p hp
            · obtain ⟨r1, r2, r3, r4, r5⟩ := hres j hj
              refine ⟨?_, ?_, ?_, ?_, fun i hi => ?_⟩
              · exact r1
              · exact r2
              · rw [← r3]; show upd _ (nI h).toNatClampNeg _ j = M9 24 j; rw [hch]; simp only [upd, Nat.ne_of_lt hj, if_false]; rfl
              · rw [← r4]; show upd _ (nI h).toNatClampNeg _ j = M9 25 j; rw [hch]; simp only [upd, Nat.ne_of_lt hj, if_false]; rfl
              · rw [← r5 i hi]; show upd _ (nI h * 8 + nI k).toNatClampNeg _ (8 * j + i) = M9 26 (8 * j + i); rw [hat, z_cl (by omega)]; simp only [upd]; rw [if_neg (by omega)]; rfl
            · exact hlo9
            · show upd _ (nI h).toNatClampNeg _ h = _
              rw [hch, hqs, ← hcd]
              simp only [upd, if_true]
              show M9 24 h ||| _ = _
              first | rw [if_neg (Int32.not_lt.mpr h1j)] | (rw [if_pos (Int32.not_le.mp h1j)]; rw [← f10, hck]; rfl)
            · show upd _ (nI h).toNatClampNeg _ h = _
              rw [hch, hqs, ← hsh]
              simp only [upd, if_true]
              show M9 25 h ||| _ = _
              first | rw [if_neg (Int32.not_lt.mpr h2n)] | rw [if_pos (Int32.not_le.mp h2n)]
            · show mSub _ _ (M9 27) j = _
              rw [hqs, f9]
              exact mSub_cong _ _ _ _ hlf hch9 j hj
            · show upd _ (nI h * 8 + nI k).toNatClampNeg _ (8 * h + j) = _
              rw [hat, z_cl (by omega), hqs]
              by_cases e : j = k
              · subst e; simp [upd]
              · simp only [upd]
                rw [if_neg (by omega), if_neg e]
                exact hgo j (by omega)
        · refine And.intro (z_inN0 (by omega) (by omega)) ?_
          refine z_go ?_
          refine And.intro (z_inN0 (by omega) (by omega)) ?_
          refine And.intro (z_inN0 (by omega) (by omega)) ?_
          refine z_br (fun h3j => ?_) (fun h3n => ?_)
          · refine z_go ?_
            refine And.intro (z_inN0 (by omega) (by omega)) ?_
            refine ih9 _ _ _ ⟨nI_1 k, ?_, fun p hp => ?_, fun j hj => ?_, ?_, ?_, ?_, fun j hj => ?_, fun j hj => ?_⟩
            · rw [hqs, hrest]
            · rw [z_un (show p ≠ 25 by omega), z_un (show p ≠ 24 by omega), z_un (show p ≠ 26 by omega), z_un (show p ≠ 27 by omega)]
              exact hfr p hp
            · obtain ⟨r1, r2, r3, r4, r5⟩ := hres j hj
              refine ⟨?_, ?_, ?_, ?_, fun i hi => ?_⟩
              · exact r1
              · exact r2
              · rw [← r3]; show upd _ (nI h).toNatClampNeg _ j = M9 24 j; rw [hch]; simp only [upd, Nat.ne_of_lt hj, if_false]; rfl
              · rw [← r4]; show upd _ (nI h).toNatClampNeg _ j = M9 25 j; rw [hch]; simp only [upd, Nat.ne_of_lt hj, if_false]; rfl
              · rw [← r5 i hi]; show upd _ (nI h * 8 + nI k).toNatClampNeg _ (8 * j + i) = M9 26 (8 * j + i); rw [hat, z_cl (by omega)]; simp only [upd]; rw [if_neg (by omega)]; rfl
            · exact hlo9
            · show upd _ (nI h).toNatClampNeg _ h = _
              rw [hch, hqs, ← hcd]
              simp only [upd, if_true]
              show M9 24 h ||| _ = _
              first | rw [if_neg (Int32.not_lt.mpr h1n)] | (rw [if_pos (Int32.not_le.mp h1n)]; rw [← f10, hck]; rfl)
            · show upd _ (nI h).toNatClampNeg _ h = _
              rw [hch, hqs, ← hsh]
              simp only [upd, if_true]
              show M9 25 h ||| _ = _
              first | rw [if_neg (Int32.not_lt.mpr h3j)] | rw [if_pos (Int32.not_le.mp h3j)]
            · show mSub _ _ (M9 27) j = _
              rw [hqs, f9]
              exact mSub_cong _ _ _ _ hlf hch9 j hj
            · show upd _ (nI h * 8 + nI k).toNatClampNeg _ (8 * h + j) = _
              rw [hat, z_cl (by omega), hqs]
              by_cases e : j = k
              · subst e; simp [upd]
              · simp only [upd]
                rw [if_neg (by omega), if_neg e]
                exact hgo j (by omega)
          · refine z_go ?_
            refine And.intro (z_inN0 (by omega) (by omega)) ?_
            refine ih9 _ _ _ ⟨nI_1 k, ?_, fun p hp => ?_, fun j hj => ?_, ?_, ?_, ?_, fun j hj => ?_, fun j hj => ?_⟩
            · rw [hqs, hrest]
            · rw [z_un (show p ≠ 25 by omega), z_un (show p ≠ 24 by omega), z_un (show p ≠ 26 by omega), z_un (show p ≠ 27 by omega)]
              exact hfr p hp
            · obtain ⟨r1, r2, r3, r4, r5⟩ := hres j hj
              refine ⟨?_, ?_, ?_, ?_, fun i hi => ?_⟩
              · exact r1
              · exact r2
              · rw [← r3]; show upd _ (nI h).toNatClampNeg _ j = M9 24 j; rw [hch]; simp only [upd, Nat.ne_of_lt hj, if_false]; rfl
              · rw [← r4]; show upd _ (nI h).toNatClampNeg _ j = M9 25 j; rw [hch]; simp only [upd, Nat.ne_of_lt hj, if_false]; rfl
              · rw [← r5 i hi]; show upd _ (nI h * 8 + nI k).toNatClampNeg _ (8 * j + i) = M9 26 (8 * j + i); rw [hat, z_cl (by omega)]; simp only [upd]; rw [if_neg (by omega)]; rfl
            · exact hlo9
            · show upd _ (nI h).toNatClampNeg _ h = _
              rw [hch, hqs, ← hcd]
              simp only [upd, if_true]
              show M9 24 h ||| _ = _
              first | rw [if_neg (Int32.not_lt.mpr h1n)] | (rw [if_pos (Int32.not_le.mp h1n)]; rw [← f10, hck]; rfl)
            · show upd _ (nI h).toNatClampNeg _ h = _
              rw [hch, hqs, ← hsh]
              simp only [upd, if_true]
              show M9 25 h ||| _ = _
              first | rw [if_neg (Int32.not_lt.mpr h3n)] | rw [if_pos (Int32.not_le.mp h3n)]
            · show mSub _ _ (M9 27) j = _
              rw [hqs, f9]
              exact mSub_cong _ _ _ _ hlf hch9 j hj
            · show upd _ (nI h * 8 + nI k).toNatClampNeg _ (8 * h + j) = _
              rw [hat, z_cl (by omega), hqs]
              by_cases e : j = k
              · subst e; simp [upd]
              · simp only [upd]
                rw [if_neg (by omega), if_neg e]
                exact hgo j (by omega)) (by
        rintro r9 y M9 ⟨rfl, hrest, hfr, hres, hlo9, hcd, hsh, hlf, hgo⟩
        have f8 : M9 8 = M 8 := hfr 8 (by omega)
        rw [hf] at hq
        rw [hf] at hlo9
        refine z_go ?_
        refine z_bt (by show M9 8 6 ≤ nI N; rw [f8, hn]; exact nI_le (Nat.le_refl _) (by omega)) ?_
        refine z_go ?_
        refine And.intro (z_inN0 (by omega) (by omega)) ?_
        refine ih _ _ _ ⟨nI_1 h, ?_, fun p hp => ?_, fun j hj => ?_⟩
        · rw [hrest, hq]; rfl
        · rw [z_un (show p ≠ 22 by omega)]; exact hfr p hp
        · by_cases e : j = h
          · subst e
            refine ⟨?_, ?_, ?_, ?_, fun i hi => ?_⟩
            · show upd _ (nI j).toNatClampNeg _ j = _
              rw [hch, hrest, hq]; simp only [upd, if_true]; rfl
            · exact hlo9
            · rw [show (mHour N (M 9) (M 10) nd op lk (M 15) (M 7 3) (M 7 4) (M 7 5) j).2.2.1 = (q N).2.2.1 by rw [hq]; rfl]; exact hcd
            · rw [show (mHour N (M 9) (M 10) nd op lk (M 15) (M 7 3) (M 7 4) (M 7 5) j).2.2.2.1 = (q N).2.2.2.1 by rw [hq]; rfl]; exact hsh
            · rw [show (mHour N (M 9) (M 10) nd op lk (M 15) (M 7 3) (M 7 4) (M 7 5) j).2.2.2.2 = (q N).2.2.2.2 by rw [hq]; rfl]; exact hgo i hi
          · obtain ⟨r1, r2, r3, r4, r5⟩ := hres j (by omega)
            refine ⟨?_, r2, r3, r4, r5⟩
            rw [← r1]; show upd _ (nI h).toNatClampNeg _ j = M9 22 j; rw [hch]; simp only [upd, e, if_false])
    rw [hf] at hq inner
    refine z_go ?_
    refine z_bf (nI_ge (a := h) (b := 40) hh (by omega)) ?_
    refine And.intro (z_inN0 (by omega) (by omega)) ?_
    refine z_ca (z_cv (lk h) (c4_leaking n 15 _ _ K1 hK1 (by show M8 7 9 = _; rw [g7]; exact hk1)) (by show mLk (mThB (M8 7 10)) (M8 16) (M8 17) (M8 18) (nI h) K1 = _; rw [g7, g16, g17, g18]; exact hlk h hh)) ?_
    refine And.intro (z_inN0 (by omega) (by omega)) ?_
    refine And.intro (z_inN0 (by omega) (by omega)) ?_
    refine And.intro (z_inN0 (by omega) (by omega)) ?_
    refine And.intro (z_inN0 (by omega) (by omega)) ?_
    refine z_cx (c4_openPipes27 n 15 _ _ K2 hK2 (by show M8 7 13 = _; rw [g7]; exact hk2) (by show ∀ i, i < K2 → ∃ q, q < 8 ∧ M8 20 i = nI q; rw [g20]; exact hpq)) (fun M7 h9 => ?_)
    obtain ⟨l9, rfl, hl9⟩ := h9
    refine inner 0 _ _ _ (Nat.zero_le _) ⟨rfl, ?_, fun p hp => ?_, fun j hj => ?_, ?_, ?_, ?_, fun j hj => ?_, fun j hj => absurd hj (Nat.not_lt_zero j)⟩
    · rw [hq]
      show mFull (M8 7 4) (M8 7 5) r8 (M8 15 (nI h).toNatClampNeg) - upd (M8 23) (nI h).toNatClampNeg _ (nI h).toNatClampNeg = _
      rw [hch, g7, gE, hr8]
      simp only [upd, if_true]
      rfl
    · rw [z_un (show p ≠ 27 by omega), z_un (show p ≠ 25 by omega), z_un (show p ≠ 24 by omega), z_un (show p ≠ 23 by omega)]
      exact hfr8 p hp
    · obtain ⟨r1, r2, r3, r4, r5⟩ := hres8 j hj
      refine ⟨r1, ?_, ?_, ?_, r5⟩
      · rw [← r2]; show upd _ (nI h).toNatClampNeg _ j = M8 23 j; rw [hch]; simp only [upd, Nat.ne_of_lt hj, if_false]
      · rw [← r3]; show upd _ (nI h).toNatClampNeg _ j = M8 24 j; rw [hch]; simp only [upd, Nat.ne_of_lt hj, if_false]; rfl
      · rw [← r4]; show upd _ (nI h).toNatClampNeg _ j = M8 25 j; rw [hch]; simp only [upd, Nat.ne_of_lt hj, if_false]; rfl
    · show upd _ (nI h).toNatClampNeg _ h = _
      rw [hch]; simp only [upd, if_true]
      show mLost (mFull (M8 7 4) (M8 7 5) r8 (M8 15 h)) (lk h) = _
      rw [g7, gE, hr8]
    · rw [hq]; show upd _ (nI h).toNatClampNeg _ h = _
      rw [hch]; simp only [upd, if_true]; rfl
    · rw [hq]; show upd _ (nI h).toNatClampNeg _ h = _
      rw [hch]; simp only [upd, if_true]; rfl
    · rw [hq]; show l9 j = op h j
      rw [hl9 j (by omega), ← hop h hh j hj]
      show (if nI j = M8 7 15 ∨ mPn (mThB (M8 7 14)) (M8 19) (M8 20) (nI h) j K2 = true then 0 else M8 11 j) = _
      rw [g7, g11, g19, g20]) (by
    rintro r8 x M8 ⟨rfl, hr8, hfr8, hres8⟩
    refine z_go ?_
    refine z_bt (nI_le (a := 40) (b := 40) (Nat.le_refl _) (by omega)) ?_
    refine z_go ?_
    exact z_rq hret rfl ⟨hfr8, hres8⟩)
  exact outer 0 _ _ _ (Nat.zero_le _) ⟨rfl, rfl, fun _ _ => rfl, fun j hj => absurd hj (Nat.not_lt_zero j)⟩
set_option maxRecDepth 10000 in
set_option maxHeartbeats 1000000 in
theorem c0_follow28_15 (n : Nat) (M : zM) (N K1 K2 : Nat) (nd op : Nat → Nat → Int32) (lk : Nat → Int32) (hT : cTw M N K1 K2 nd op lk) : zMet zi_X0_follow [.ref 28, .ref 7] (zLay n 15) M (zLay n 15) (zr none (fun M' => (∀ p, p ≤ 28 ∨ 34 < p → M' p = M p) ∧ ∀ j, j < 40 → mRes 28 N (mHour N (M 9) (M 10) nd op lk (M 15) (M 7 3) (M 7 4) (M 7 5)) j M')) := by
  refine z_mr (zk_X0_follow _ _) rfl (Nat.le_of_ble_eq_true rfl) rfl (fun ret hret => ?_)
  obtain ⟨hN, hn, hon, hK1, hk1, hK2, hk2, hpq, hnd, hop, hlk⟩ := hT
  have outer := z_l2 (P := zp_X0_follow) (ret := ret) (pc := 13) (L := zLay n 15) (N := 40) (lo := fun r x => [some (.ref 28), some (.ref 7), some (.ref 8), some (.int r), some (.int x), none, none, none, none, none])
    (I := fun h r x M' => x = nI h ∧ r = mRest N (M 9) (M 10) nd op lk (M 15) (M 7 3) (M 7 4) (M 7 5) h ∧ (∀ p, p ≤ 28 ∨ 34 < p → M' p = M p) ∧ ∀ j, j < h → mRes 28 N (mHour N (M 9) (M 10) nd op lk (M 15) (M 7 3) (M 7 4) (M 7 5)) j M') (by
    rintro h r8 x M8 hh ⟨rfl, hr8, hfr8, hres8⟩ ih
    have hch : (nI h).toNatClampNeg = h := z_cl (by omega)
    have g7 : M8 7 = M 7 := hfr8 7 (by omega)
    have g11 : M8 11 = M 11 := hfr8 11 (by omega)
    have g16 : M8 16 = M 16 := hfr8 16 (by omega)
    have g17 : M8 17 = M 17 := hfr8 17 (by omega)
    have g18 : M8 18 = M 18 := hfr8 18 (by omega)
    have g19 : M8 19 = M 19 := hfr8 19 (by omega)
    have g20 : M8 20 = M 20 := hfr8 20 (by omega)
    have gE : M8 15 = M 15 := hfr8 15 (by omega)
    obtain ⟨f, hf⟩ : ∃ f, f = mFull (M 7 4) (M 7 5) (mRest N (M 9) (M 10) nd op lk (M 15) (M 7 3) (M 7 4) (M 7 5) h) (M 15 h) := ⟨_, rfl⟩
    obtain ⟨q, hq⟩ : ∃ q, q = mHs (M 9) (M 10) (nd h) (f - mLost f (lk h)) (op h) := ⟨_, rfl⟩
    have inner := z_l2 (P := zp_X0_follow) (ret := ret) (pc := 101) (L := zLay n 15) (N := N) (lo := fun r y => [some (.ref 28), some (.ref 7), some (.ref 8), some (.int r), some (.int (nI h)), none, some (.int y), none, none, none])
      (I := fun k r y M' => y = nI k ∧ r = (q k).1 ∧ (∀ p, p ≤ 28 ∨ 34 < p → M' p = M p) ∧ (∀ j, j < h → mRes 28 N (mHour N (M 9) (M 10) nd op lk (M 15) (M 7 3) (M 7 4) (M 7 5)) j M') ∧ M' 30 h = mLost f (lk h) ∧ M' 31 h = (q k).2.2.1 ∧ M' 32 h = (q k).2.2.2.1 ∧ (∀ j, j < N → M' 34 j = (q k).2.1 j) ∧ ∀ j, j < k → M' 33 (8 * h + j) = (q k).2.2.2.2 j) (by
        rintro k r9 y M9 hk ⟨rfl, hrest, hfr, hres, hlo9, hcd, hsh, hlf, hgo⟩ ih9
        have f8 : M9 8 = M 8 := hfr 8 (by omega)
        have f9 : M9 9 = M 9 := hfr 9 (by omega)
        have f10 : M9 10 = M 10 := hfr 10 (by omega)
        have f14 : M9 14 = M 14 := hfr 14 (by omega)
        have hck : (nI k).toNatClampNeg = k := z_cl (by omega)
        have hat : nI h * 8 + nI k = nI (8 * h + k) := by rw [show (8 : Int32) = nI 8 from rfl, pk_mul, nI_add, Nat.mul_comm]
        have hin8 : vp_in (nI h * 8 + nI k) 320 := by rw [hat]; exact z_inN0 (by omega) (by omega)
        have hch9 : ∀ j ∈ mCh (M 9) 8 (nI k), j < N := mCh_in hon 8 (nI k) (Or.inr ⟨k, hk, rfl⟩) hN
        obtain ⟨b, hb⟩ : ∃ b, b = mMin (q k).2.1 (mCh (M 9) 8 (nI k)) (if (q k).1 < nd h k then (q k).1 else nd h k) := ⟨_, rfl⟩
        have hqs : q (k + 1) = ((q k).1 - b, mSub b (mCh (M 9) 8 (nI k)) (q k).2.1, (q k).2.2.1 ||| (if 0 < b then 1 <<< (M 10 k &&& 31) else 0), (q k).2.2.2.1 ||| (if b < nd h k then 1 <<< (nI k &&& 31) else 0), upd (q k).2.2.2.2 k b) := by rw [hb, hq]; rfl
        refine z_go ?_
        refine z_bf (by show ¬ M9 8 6 ≤ nI k; rw [f8, hn]; exact nI_ge hk (by omega)) ?_
        refine And.intro hin8 ?_
        refine z_ca (z_cv (nd h k) (c5_needOf _ _ _ (Nat.le_of_ble_eq_true rfl)) (by show mNeed (M9 14 (nI h * 8 + nI k).toNatClampNeg) = _; rw [hat, z_cl (by omega), f14]; exact hnd h hh k hk)) ?_
        refine z_ca (c0_draw28 n 15 _ N k _ b hN hk (by show mOn N (M9 9); rw [f9]; exact hon) (by show mMin (M9 34) (mCh (M9 9) 8 (nI k)) (if _ < _ then _ else _) = b; rw [f9, hrest]; exact (mMin_cong hlf _ _ hch9).trans hb.symm)) ?_
        refine And.intro hin8 ?_
        refine And.intro (z_inN0 (by omega) (by omega)) ?_
        refine z_br (fun h1j => ?_) (fun h1n => ?_)
        · refine z_go ?_
          refine And.intro (z_inN0 (by omega) (by omega)) ?_
          refine And.intro (z_inN0 (by omega) (by omega)) ?_
          refine z_br (fun h2j => ?_) (fun h2n => ?_)
          · refine z_go ?_
            refine And.intro (z_inN0 (by omega) (by omega)) ?_
            refine ih9 _ _ _ ⟨nI_1 k, ?_, fun p hp => ?_, fun j hj => ?_, ?_, ?_, ?_, fun j hj => ?_, fun j hj => ?_⟩
            · rw [hqs, hrest]
            · rw [z_un (show p ≠ 32 by omega), z_un (show p ≠ 31 by omega), z_un (show p ≠ 33 by omega), z_un (show p ≠ 34 by omega)]
              exact hfr p hp
            · obtain ⟨r1, r2, r3, r4, r5⟩ := hres j hj
              refine ⟨?_, ?_, ?_, ?_, fun i hi => ?_⟩
              · exact r1
              · exact r2
              · rw [← r3]; show upd _ (nI h).toNatClampNeg _ j = M9 31 j; rw [hch]; simp only [upd, Nat.ne_of_lt hj, if_false]; rfl
              · rw [← r4]; show upd _ (nI h).toNatClampNeg _ j = M9 32 j; rw [hch]; simp only [upd, Nat.ne_of_lt hj, if_false]; rfl
              · rw [← r5 i hi]; show upd _ (nI h * 8 + nI k).toNatClampNeg _ (8 * j + i) = M9 33 (8 * j + i); rw [hat, z_cl (by omega)]; simp only [upd]; rw [if_neg (by omega)]; rfl
            · exact hlo9
            · show upd _ (nI h).toNatClampNeg _ h = _
              rw [hch, hqs, ← hcd]
              simp only [upd, if_true]
              show M9 31 h ||| _ = _
              first | rw [if_neg (Int32.not_lt.mpr h1j)] | (rw [if_pos (Int32.not_le.mp h1j)]; rw [← f10, hck]; rfl)
            · show upd _ (nI h).toNatClampNeg _ h = _
              rw [hch, hqs, ← hsh]
              simp only [upd, if_true]
              show M9 32 h ||| _ = _
              first | rw [if_neg (Int32.not_lt.mpr h2j)] | rw [if_pos (Int32.not_le.mp h2j)]
            · show mSub _ _ (M9 34) j = _
              rw [hqs, f9]
              exact mSub_cong _ _ _ _ hlf hch9 j hj
            · show upd _ (nI h * 8 + nI k).toNatClampNeg _ (8 * h + j) = _
              rw [hat, z_cl (by omega), hqs]
              by_cases e : j = k
              · subst e; simp [upd]
              · simp only [upd]
                rw [if_neg (by omega), if_neg e]
                exact hgo j (by omega)
          · refine z_go ?_
            refine And.intro (z_inN0 (by omega) (by omega)) ?_
            refine ih9 _ _ _ ⟨nI_1 k, ?_, fun p hp => ?_, fun j hj => ?_, ?_, ?_, ?_, fun j hj => ?_, fun j hj => ?_⟩
            · rw [hqs, hrest]
            · rw [z_un (show p ≠ 32 by omega), z_un (show p ≠ 31 by omega), z_un (show p ≠ 33 by omega), z_un (show p ≠ 34 by omega)]
              exact hfr p hp
            · obtain ⟨r1, r2, r3, r4, r5⟩ := hres j hj
              refine ⟨?_, ?_, ?_, ?_, fun i hi => ?_⟩
              · exact r1
              · exact r2
              · rw [← r3]; show upd _ (nI h).toNatClampNeg _ j = M9 31 j; rw [hch]; simp only [upd, Nat.ne_of_lt hj, if_false]; rfl
              · rw [← r4]; show upd _ (nI h).toNatClampNeg _ j = M9 32 j; rw [hch]; simp only [upd, Nat.ne_of_lt hj, if_false]; rfl
              · rw [← r5 i hi]; show upd _ (nI h * 8 + nI k).toNatClampNeg _ (8 * j + i) = M9 33 (8 * j + i); rw [hat, z_cl (by omega)]; simp only [upd]; rw [if_neg (by omega)]; rfl
            · exact hlo9
            · show upd _ (nI h).toNatClampNeg _ h = _
              rw [hch, hqs, ← hcd]
              simp only [upd, if_true]
              show M9 31 h ||| _ = _
              first | rw [if_neg (Int32.not_lt.mpr h1j)] | (rw [if_pos (Int32.not_le.mp h1j)]; rw [← f10, hck]; rfl)
            · show upd _ (nI h).toNatClampNeg _ h = _
              rw [hch, hqs, ← hsh]
              simp only [upd, if_true]
              show M9 32 h ||| _ = _
              first | rw [if_neg (Int32.not_lt.mpr h2n)] | rw [if_pos (Int32.not_le.mp h2n)]
            · show mSub _ _ (M9 34) j = _
              rw [hqs, f9]
              exact mSub_cong _ _ _ _ hlf hch9 j hj
            · show upd _ (nI h * 8 + nI k).toNatClampNeg _ (8 * h + j) = _
              rw [hat, z_cl (by omega), hqs]
              by_cases e : j = k
              · subst e; simp [upd]
              · simp only [upd]
                rw [if_neg (by omega), if_neg e]
                exact hgo j (by omega)
        · refine And.intro (z_inN0 (by omega) (by omega)) ?_
          refine z_go ?_
          refine And.intro (z_inN0 (by omega) (by omega)) ?_
          refine And.intro (z_inN0 (by omega) (by omega)) ?_
          refine z_br (fun h3j => ?_) (fun h3n => ?_)
          · refine z_go ?_
            refine And.intro (z_inN0 (by omega) (by omega)) ?_
            refine ih9 _ _ _ ⟨nI_1 k, ?_, fun p hp => ?_, fun j hj => ?_, ?_, ?_, ?_, fun j hj => ?_, fun j hj => ?_⟩
            · rw [hqs, hrest]
            · rw [z_un (show p ≠ 32 by omega), z_un (show p ≠ 31 by omega), z_un (show p ≠ 33 by omega), z_un (show p ≠ 34 by omega)]
              exact hfr p hp
            · obtain ⟨r1, r2, r3, r4, r5⟩ := hres j hj
              refine ⟨?_, ?_, ?_, ?_, fun i hi => ?_⟩
              · exact r1
              · exact r2
              · rw [← r3]; show upd _ (nI h).toNatClampNeg _ j = M9 31 j; rw [hch]; simp only [upd, Nat.ne_of_lt hj, if_false]; rfl
              · rw [← r4]; show upd _ (nI h).toNatClampNeg _ j = M9 32 j; rw [hch]; simp only [upd, Nat.ne_of_lt hj, if_false]; rfl
              · rw [← r5 i hi]; show upd _ (nI h * 8 + nI k).toNatClampNeg _ (8 * j + i) = M9 33 (8 * j + i); rw [hat, z_cl (by omega)]; simp only [upd]; rw [if_neg (by omega)]; rfl
            · exact hlo9
            · show upd _ (nI h).toNatClampNeg _ h = _
              rw [hch, hqs, ← hcd]
              simp only [upd, if_true]
              show M9 31 h ||| _ = _
              first | rw [if_neg (Int32.not_lt.mpr h1n)] | (rw [if_pos (Int32.not_le.mp h1n)]; rw [← f10, hck]; rfl)
            · show upd _ (nI h).toNatClampNeg _ h = _
              rw [hch, hqs, ← hsh]
              simp only [upd, if_true]
              show M9 32 h ||| _ = _
              first | rw [if_neg (Int32.not_lt.mpr h3j)] | rw [if_pos (Int32.not_le.mp h3j)]
            · show mSub _ _ (M9 34) j = _
              rw [hqs, f9]
              exact mSub_cong _ _ _ _ hlf hch9 j hj
            · show upd _ (nI h * 8 + nI k).toNatClampNeg _ (8 * h + j) = _
              rw [hat, z_cl (by omega), hqs]
              by_cases e : j = k
              · subst e; simp [upd]
              · simp only [upd]
                rw [if_neg (by omega), if_neg e]
                exact hgo j (by omega)
          · refine z_go ?_
            refine And.intro (z_inN0 (by omega) (by omega)) ?_
            refine ih9 _ _ _ ⟨nI_1 k, ?_, fun p hp => ?_, fun j hj => ?_, ?_, ?_, ?_, fun j hj => ?_, fun j hj => ?_⟩
            · rw [hqs, hrest]
            · rw [z_un (show p ≠ 32 by omega), z_un (show p ≠ 31 by omega), z_un (show p ≠ 33 by omega), z_un (show p ≠ 34 by omega)]
              exact hfr p hp
            · obtain ⟨r1, r2, r3, r4, r5⟩ := hres j hj
              refine ⟨?_, ?_, ?_, ?_, fun i hi => ?_⟩
              · exact r1
              · exact r2
              · rw [← r3]; show upd _ (nI h).toNatClampNeg _ j = M9 31 j; rw [hch]; simp only [upd, Nat.ne_of_lt hj, if_false]; rfl
              · rw [← r4]; show upd _ (nI h).toNatClampNeg _ j = M9 32 j; rw [hch]; simp only [upd, Nat.ne_of_lt hj, if_false]; rfl
              · rw [← r5 i hi]; show upd _ (nI h * 8 + nI k).toNatClampNeg _ (8 * j + i) = M9 33 (8 * j + i); rw [hat, z_cl (by omega)]; simp only [upd]; rw [if_neg (by omega)]; rfl
            · exact hlo9
            · show upd _ (nI h).toNatClampNeg _ h = _
              rw [hch, hqs, ← hcd]
              simp only [upd, if_true]
              show M9 31 h ||| _ = _
              first | rw [if_neg (Int32.not_lt.mpr h1n)] | (rw [if_pos (Int32.not_le.mp h1n)]; rw [← f10, hck]; rfl)
            · show upd _ (nI h).toNatClampNeg _ h = _
              rw [hch, hqs, ← hsh]
              simp only [upd, if_true]
              show M9 32 h ||| _ = _
              first | rw [if_neg (Int32.not_lt.mpr h3n)] | rw [if_pos (Int32.not_le.mp h3n)]
            · show mSub _ _ (M9 34) j = _
              rw [hqs, f9]
              exact mSub_cong _ _ _ _ hlf hch9 j hj
            · show upd _ (nI h * 8 + nI k).toNatClampNeg _ (8 * h + j) = _
              rw [hat, z_cl (by omega), hqs]
              by_cases e : j = k
              · subst e; simp [upd]
              · simp only [upd]
                rw [if_neg (by omega), if_neg e]
                exact hgo j (by omega)) (by
        rintro r9 y M9 ⟨rfl, hrest, hfr, hres, hlo9, hcd, hsh, hlf, hgo⟩
        have f8 : M9 8 = M 8 := hfr 8 (by omega)
        rw [hf] at hq
        rw [hf] at hlo9
        refine z_go ?_
        refine z_bt (by show M9 8 6 ≤ nI N; rw [f8, hn]; exact nI_le (Nat.le_refl _) (by omega)) ?_
        refine z_go ?_
        refine And.intro (z_inN0 (by omega) (by omega)) ?_
        refine ih _ _ _ ⟨nI_1 h, ?_, fun p hp => ?_, fun j hj => ?_⟩
        · rw [hrest, hq]; rfl
        · rw [z_un (show p ≠ 29 by omega)]; exact hfr p hp
        · by_cases e : j = h
          · subst e
            refine ⟨?_, ?_, ?_, ?_, fun i hi => ?_⟩
            · show upd _ (nI j).toNatClampNeg _ j = _
              rw [hch, hrest, hq]; simp only [upd, if_true]; rfl
            · exact hlo9
            · rw [show (mHour N (M 9) (M 10) nd op lk (M 15) (M 7 3) (M 7 4) (M 7 5) j).2.2.1 = (q N).2.2.1 by rw [hq]; rfl]; exact hcd
            · rw [show (mHour N (M 9) (M 10) nd op lk (M 15) (M 7 3) (M 7 4) (M 7 5) j).2.2.2.1 = (q N).2.2.2.1 by rw [hq]; rfl]; exact hsh
            · rw [show (mHour N (M 9) (M 10) nd op lk (M 15) (M 7 3) (M 7 4) (M 7 5) j).2.2.2.2 = (q N).2.2.2.2 by rw [hq]; rfl]; exact hgo i hi
          · obtain ⟨r1, r2, r3, r4, r5⟩ := hres j (by omega)
            refine ⟨?_, r2, r3, r4, r5⟩
            rw [← r1]; show upd _ (nI h).toNatClampNeg _ j = M9 29 j; rw [hch]; simp only [upd, e, if_false])
    rw [hf] at hq inner
    refine z_go ?_
    refine z_bf (nI_ge (a := h) (b := 40) hh (by omega)) ?_
    refine And.intro (z_inN0 (by omega) (by omega)) ?_
    refine z_ca (z_cv (lk h) (c4_leaking n 15 _ _ K1 hK1 (by show M8 7 9 = _; rw [g7]; exact hk1)) (by show mLk (mThB (M8 7 10)) (M8 16) (M8 17) (M8 18) (nI h) K1 = _; rw [g7, g16, g17, g18]; exact hlk h hh)) ?_
    refine And.intro (z_inN0 (by omega) (by omega)) ?_
    refine And.intro (z_inN0 (by omega) (by omega)) ?_
    refine And.intro (z_inN0 (by omega) (by omega)) ?_
    refine And.intro (z_inN0 (by omega) (by omega)) ?_
    refine z_cx (c4_openPipes34 n 15 _ _ K2 hK2 (by show M8 7 13 = _; rw [g7]; exact hk2) (by show ∀ i, i < K2 → ∃ q, q < 8 ∧ M8 20 i = nI q; rw [g20]; exact hpq)) (fun M7 h9 => ?_)
    obtain ⟨l9, rfl, hl9⟩ := h9
    refine inner 0 _ _ _ (Nat.zero_le _) ⟨rfl, ?_, fun p hp => ?_, fun j hj => ?_, ?_, ?_, ?_, fun j hj => ?_, fun j hj => absurd hj (Nat.not_lt_zero j)⟩
    · rw [hq]
      show mFull (M8 7 4) (M8 7 5) r8 (M8 15 (nI h).toNatClampNeg) - upd (M8 30) (nI h).toNatClampNeg _ (nI h).toNatClampNeg = _
      rw [hch, g7, gE, hr8]
      simp only [upd, if_true]
      rfl
    · rw [z_un (show p ≠ 34 by omega), z_un (show p ≠ 32 by omega), z_un (show p ≠ 31 by omega), z_un (show p ≠ 30 by omega)]
      exact hfr8 p hp
    · obtain ⟨r1, r2, r3, r4, r5⟩ := hres8 j hj
      refine ⟨r1, ?_, ?_, ?_, r5⟩
      · rw [← r2]; show upd _ (nI h).toNatClampNeg _ j = M8 30 j; rw [hch]; simp only [upd, Nat.ne_of_lt hj, if_false]
      · rw [← r3]; show upd _ (nI h).toNatClampNeg _ j = M8 31 j; rw [hch]; simp only [upd, Nat.ne_of_lt hj, if_false]; rfl
      · rw [← r4]; show upd _ (nI h).toNatClampNeg _ j = M8 32 j; rw [hch]; simp only [upd, Nat.ne_of_lt hj, if_false]; rfl
    · show upd _ (nI h).toNatClampNeg _ h = _
      rw [hch]; simp only [upd, if_true]
      show mLost (mFull (M8 7 4) (M8 7 5) r8 (M8 15 h)) (lk h) = _
      rw [g7, gE, hr8]
    · rw [hq]; show upd _ (nI h).toNatClampNeg _ h = _
      rw [hch]; simp only [upd, if_true]; rfl
    · rw [hq]; show upd _ (nI h).toNatClampNeg _ h = _
      rw [hch]; simp only [upd, if_true]; rfl
    · rw [hq]; show l9 j = op h j
      rw [hl9 j (by omega), ← hop h hh j hj]
      show (if nI j = M8 7 15 ∨ mPn (mThB (M8 7 14)) (M8 19) (M8 20) (nI h) j K2 = true then 0 else M8 11 j) = _
      rw [g7, g11, g19, g20]) (by
    rintro r8 x M8 ⟨rfl, hr8, hfr8, hres8⟩
    refine z_go ?_
    refine z_bt (nI_le (a := 40) (b := 40) (Nat.le_refl _) (by omega)) ?_
    refine z_go ?_
    exact z_rq hret rfl ⟨hfr8, hres8⟩)
  exact outer 0 _ _ _ (Nat.zero_le _) ⟨rfl, rfl, fun _ _ => rfl, fun j hj => absurd hj (Nat.not_lt_zero j)⟩
set_option maxRecDepth 10000 in
set_option maxHeartbeats 1000000 in
theorem c0_follow28_36 (n : Nat) (M : zM) (N K1 K2 : Nat) (nd op : Nat → Nat → Int32) (lk : Nat → Int32) (hT : cTw M N K1 K2 nd op lk) : zMet zi_X0_follow [.ref 28, .ref 7] (zLay n 36) M (zLay n 36) (zr none (fun M' => (∀ p, p ≤ 28 ∨ 34 < p → M' p = M p) ∧ ∀ j, j < 40 → mRes 28 N (mHour N (M 9) (M 10) nd op lk (M 36) (M 7 3) (M 7 4) (M 7 5)) j M')) := by
  refine z_mr (zk_X0_follow _ _) rfl (Nat.le_of_ble_eq_true rfl) rfl (fun ret hret => ?_)
  obtain ⟨hN, hn, hon, hK1, hk1, hK2, hk2, hpq, hnd, hop, hlk⟩ := hT
  have outer := z_l2 (P := zp_X0_follow) (ret := ret) (pc := 13) (L := zLay n 36) (N := 40) (lo := fun r x => [some (.ref 28), some (.ref 7), some (.ref 8), some (.int r), some (.int x), none, none, none, none, none])
    (I := fun h r x M' => x = nI h ∧ r = mRest N (M 9) (M 10) nd op lk (M 36) (M 7 3) (M 7 4) (M 7 5) h ∧ (∀ p, p ≤ 28 ∨ 34 < p → M' p = M p) ∧ ∀ j, j < h → mRes 28 N (mHour N (M 9) (M 10) nd op lk (M 36) (M 7 3) (M 7 4) (M 7 5)) j M') (by
    rintro h r8 x M8 hh ⟨rfl, hr8, hfr8, hres8⟩ ih
    have hch : (nI h).toNatClampNeg = h := z_cl (by omega)
    have g7 : M8 7 = M 7 := hfr8 7 (by omega)
    have g11 : M8 11 = M 11 := hfr8 11 (by omega)
    have g16 : M8 16 = M 16 := hfr8 16 (by omega)
    have g17 : M8 17 = M 17 := hfr8 17 (by omega)
    have g18 : M8 18 = M 18 := hfr8 18 (by omega)
    have g19 : M8 19 = M 19 := hfr8 19 (by omega)
    have g20 : M8 20 = M 20 := hfr8 20 (by omega)
    have gE : M8 36 = M 36 := hfr8 36 (by omega)
    obtain ⟨f, hf⟩ : ∃ f, f = mFull (M 7 4) (M 7 5) (mRest N (M 9) (M 10) nd op lk (M 36) (M 7 3) (M 7 4) (M 7 5) h) (M 36 h) := ⟨_, rfl⟩
    obtain ⟨q, hq⟩ : ∃ q, q = mHs (M 9) (M 10) (nd h) (f - mLost f (lk h)) (op h) := ⟨_, rfl⟩
    have inner := z_l2 (P := zp_X0_follow) (ret := ret) (pc := 101) (L := zLay n 36) (N := N) (lo := fun r y => [some (.ref 28), some (.ref 7), some (.ref 8), some (.int r), some (.int (nI h)), none, some (.int y), none, none, none])
      (I := fun k r y M' => y = nI k ∧ r = (q k).1 ∧ (∀ p, p ≤ 28 ∨ 34 < p → M' p = M p) ∧ (∀ j, j < h → mRes 28 N (mHour N (M 9) (M 10) nd op lk (M 36) (M 7 3) (M 7 4) (M 7 5)) j M') ∧ M' 30 h = mLost f (lk h) ∧ M' 31 h = (q k).2.2.1 ∧ M' 32 h = (q k).2.2.2.1 ∧ (∀ j, j < N → M' 34 j = (q k).2.1 j) ∧ ∀ j, j < k → M' 33 (8 * h + j) = (q k).2.2.2.2 j) (by
        rintro k r9 y M9 hk ⟨rfl, hrest, hfr, hres, hlo9, hcd, hsh, hlf, hgo⟩ ih9
        have f8 : M9 8 = M 8 := hfr 8 (by omega)
        have f9 : M9 9 = M 9 := hfr 9 (by omega)
        have f10 : M9 10 = M 10 := hfr 10 (by omega)
        have f14 : M9 14 = M 14 := hfr 14 (by omega)
        have hck : (nI k).toNatClampNeg = k := z_cl (by omega)
        have hat : nI h * 8 + nI k = nI (8 * h + k) := by rw [show (8 : Int32) = nI 8 from rfl, pk_mul, nI_add, Nat.mul_comm]
        have hin8 : vp_in (nI h * 8 + nI k) 320 := by rw [hat]; exact z_inN0 (by omega) (by omega)
        have hch9 : ∀ j ∈ mCh (M 9) 8 (nI k), j < N := mCh_in hon 8 (nI k) (Or.inr ⟨k, hk, rfl⟩) hN
        obtain ⟨b, hb⟩ : ∃ b, b = mMin (q k).2.1 (mCh (M 9) 8 (nI k)) (if (q k).1 < nd h k then (q k).1 else nd h k) := ⟨_, rfl⟩
        have hqs : q (k + 1) = ((q k).1 - b, mSub b (mCh (M 9) 8 (nI k)) (q k).2.1, (q k).2.2.1 ||| (if 0 < b then 1 <<< (M 10 k &&& 31) else 0), (q k).2.2.2.1 ||| (if b < nd h k then 1 <<< (nI k &&& 31) else 0), upd (q k).2.2.2.2 k b) := by rw [hb, hq]; rfl
        refine z_go ?_
        refine z_bf (by show ¬ M9 8 6 ≤ nI k; rw [f8, hn]; exact nI_ge hk (by omega)) ?_
        refine And.intro hin8 ?_
        refine z_ca (z_cv (nd h k) (c5_needOf _ _ _ (Nat.le_of_ble_eq_true rfl)) (by show mNeed (M9 14 (nI h * 8 + nI k).toNatClampNeg) = _; rw [hat, z_cl (by omega), f14]; exact hnd h hh k hk)) ?_
        refine z_ca (c0_draw28 n 36 _ N k _ b hN hk (by show mOn N (M9 9); rw [f9]; exact hon) (by show mMin (M9 34) (mCh (M9 9) 8 (nI k)) (if _ < _ then _ else _) = b; rw [f9, hrest]; exact (mMin_cong hlf _ _ hch9).trans hb.symm)) ?_
        refine And.intro hin8 ?_
        refine And.intro (z_inN0 (by omega) (by omega)) ?_
        refine z_br (fun h1j => ?_) (fun h1n => ?_)
        · refine z_go ?_
          refine And.intro (z_inN0 (by omega) (by omega)) ?_
          refine And.intro (z_inN0 (by omega) (by omega)) ?_
          refine z_br (fun h2j => ?_) (fun h2n => ?_)
          · refine z_go ?_
            refine And.intro (z_inN0 (by omega) (by omega)) ?_
            refine ih9 _ _ _ ⟨nI_1 k, ?_, fun p hp => ?_, fun j hj => ?_, ?_, ?_, ?_, fun j hj => ?_, fun j hj => ?_⟩
            · rw [hqs, hrest]
            · rw [z_un (show p ≠ 32 by omega), z_un (show p ≠ 31 by omega), z_un (show p ≠ 33 by omega), z_un (show p ≠ 34 by omega)]
              exact hfr p hp
            · obtain ⟨r1, r2, r3, r4, r5⟩ := hres j hj
              refine ⟨?_, ?_, ?_, ?_, fun i hi => ?_⟩
              · exact r1
              · exact r2
              · rw [← r3]; show upd _ (nI h).toNatClampNeg _ j = M9 31 j; rw [hch]; simp only [upd, Nat.ne_of_lt hj, if_false]; rfl
              · rw [← r4]; show upd _ (nI h).toNatClampNeg _ j = M9 32 j; rw [hch]; simp only [upd, Nat.ne_of_lt hj, if_false]; rfl
              · rw [← r5 i hi]; show upd _ (nI h * 8 + nI k).toNatClampNeg _ (8 * j + i) = M9 33 (8 * j + i); rw [hat, z_cl (by omega)]; simp only [upd]; rw [if_neg (by omega)]; rfl
            · exact hlo9
            · show upd _ (nI h).toNatClampNeg _ h = _
              rw [hch, hqs, ← hcd]
              simp only [upd, if_true]
              show M9 31 h ||| _ = _
              first | rw [if_neg (Int32.not_lt.mpr h1j)] | (rw [if_pos (Int32.not_le.mp h1j)]; rw [← f10, hck]; rfl)
            · show upd _ (nI h).toNatClampNeg _ h = _
              rw [hch, hqs, ← hsh]
              simp only [upd, if_true]
              show M9 32 h ||| _ = _
              first | rw [if_neg (Int32.not_lt.mpr h2j)] | rw [if_pos (Int32.not_le.mp h2j)]
            · show mSub _ _ (M9 34) j = _
              rw [hqs, f9]
              exact mSub_cong _ _ _ _ hlf hch9 j hj
            · show upd _ (nI h * 8 + nI k).toNatClampNeg _ (8 * h + j) = _
              rw [hat, z_cl (by omega), hqs]
              by_cases e : j = k
              · subst e; simp [upd]
              · simp only [upd]
                rw [if_neg (by omega), if_neg e]
                exact hgo j (by omega)
          · refine z_go ?_
            refine And.intro (z_inN0 (by omega) (by omega)) ?_
            refine ih9 _ _ _ ⟨nI_1 k, ?_, fun p hp => ?_, fun j hj => ?_, ?_, ?_, ?_, fun j hj => ?_, fun j hj => ?_⟩
            · rw [hqs, hrest]
            · rw [z_un (show p ≠ 32 by omega), z_un (show p ≠ 31 by omega), z_un (show p ≠ 33 by omega), z_un (show p ≠ 34 by omega)]
              exact hfr p hp
            · obtain ⟨r1, r2, r3, r4, r5⟩ := hres j hj
              refine ⟨?_, ?_, ?_, ?_, fun i hi => ?_⟩
              · exact r1
              · exact r2
              · rw [← r3]; show upd _ (nI h).toNatClampNeg _ j = M9 31 j; rw [hch]; simp only [upd, Nat.ne_of_lt hj, if_false]; rfl
              · rw [← r4]; show upd _ (nI h).toNatClampNeg _ j = M9 32 j; rw [hch]; simp only [upd, Nat.ne_of_lt hj, if_false]; rfl
              · rw [← r5 i hi]; show upd _ (nI h * 8 + nI k).toNatClampNeg _ (8 * j + i) = M9 33 (8 * j + i); rw [hat, z_cl (by omega)]; simp only [upd]; rw [if_neg (by omega)]; rfl
            · exact hlo9
            · show upd _ (nI h).toNatClampNeg _ h = _
              rw [hch, hqs, ← hcd]
              simp only [upd, if_true]
              show M9 31 h ||| _ = _
              first | rw [if_neg (Int32.not_lt.mpr h1j)] | (rw [if_pos (Int32.not_le.mp h1j)]; rw [← f10, hck]; rfl)
            · show upd _ (nI h).toNatClampNeg _ h = _
              rw [hch, hqs, ← hsh]
              simp only [upd, if_true]
              show M9 32 h ||| _ = _
              first | rw [if_neg (Int32.not_lt.mpr h2n)] | rw [if_pos (Int32.not_le.mp h2n)]
            · show mSub _ _ (M9 34) j = _
              rw [hqs, f9]
              exact mSub_cong _ _ _ _ hlf hch9 j hj
            · show upd _ (nI h * 8 + nI k).toNatClampNeg _ (8 * h + j) = _
              rw [hat, z_cl (by omega), hqs]
              by_cases e : j = k
              · subst e; simp [upd]
              · simp only [upd]
                rw [if_neg (by omega), if_neg e]
                exact hgo j (by omega)
        · refine And.intro (z_inN0 (by omega) (by omega)) ?_
          refine z_go ?_
          refine And.intro (z_inN0 (by omega) (by omega)) ?_
          refine And.intro (z_inN0 (by omega) (by omega)) ?_
          refine z_br (fun h3j => ?_) (fun h3n => ?_)
          · refine z_go ?_
            refine And.intro (z_inN0 (by omega) (by omega)) ?_
            refine ih9 _ _ _ ⟨nI_1 k, ?_, fun p hp => ?_, fun j hj => ?_, ?_, ?_, ?_, fun j hj => ?_, fun j hj => ?_⟩
            · rw [hqs, hrest]
            · rw [z_un (show p ≠ 32 by omega), z_un (show p ≠ 31 by omega), z_un (show p ≠ 33 by omega), z_un (show p ≠ 34 by omega)]
              exact hfr p hp
            · obtain ⟨r1, r2, r3, r4, r5⟩ := hres j hj
              refine ⟨?_, ?_, ?_, ?_, fun i hi => ?_⟩
              · exact r1
              · exact r2
              · rw [← r3]; show upd _ (nI h).toNatClampNeg _ j = M9 31 j; rw [hch]; simp only [upd, Nat.ne_of_lt hj, if_false]; rfl
              · rw [← r4]; show upd _ (nI h).toNatClampNeg _ j = M9 32 j; rw [hch]; simp only [upd, Nat.ne_of_lt hj, if_false]; rfl
              · rw [← r5 i hi]; show upd _ (nI h * 8 + nI k).toNatClampNeg _ (8 * j + i) = M9 33 (8 * j + i); rw [hat, z_cl (by omega)]; simp only [upd]; rw [if_neg (by omega)]; rfl
            · exact hlo9
            · show upd _ (nI h).toNatClampNeg _ h = _
              rw [hch, hqs, ← hcd]
              simp only [upd, if_true]
              show M9 31 h ||| _ = _
              first | rw [if_neg (Int32.not_lt.mpr h1n)] | (rw [if_pos (Int32.not_le.mp h1n)]; rw [← f10, hck]; rfl)
            · show upd _ (nI h).toNatClampNeg _ h = _
              rw [hch, hqs, ← hsh]
              simp only [upd, if_true]
              show M9 32 h ||| _ = _
              first | rw [if_neg (Int32.not_lt.mpr h3j)] | rw [if_pos (Int32.not_le.mp h3j)]
            · show mSub _ _ (M9 34) j = _
              rw [hqs, f9]
              exact mSub_cong _ _ _ _ hlf hch9 j hj
            · show upd _ (nI h * 8 + nI k).toNatClampNeg _ (8 * h + j) = _
              rw [hat, z_cl (by omega), hqs]
              by_cases e : j = k
              · subst e; simp [upd]
              · simp only [upd]
                rw [if_neg (by omega), if_neg e]
                exact hgo j (by omega)
          · refine z_go ?_
            refine And.intro (z_inN0 (by omega) (by omega)) ?_
            refine ih9 _ _ _ ⟨nI_1 k, ?_, fun p hp => ?_, fun j hj => ?_, ?_, ?_, ?_, fun j hj => ?_, fun j hj => ?_⟩
            · rw [hqs, hrest]
            · rw [z_un (show p ≠ 32 by omega), z_un (show p ≠ 31 by omega), z_un (show p ≠ 33 by omega), z_un (show p ≠ 34 by omega)]
              exact hfr p hp
            · obtain ⟨r1, r2, r3, r4, r5⟩ := hres j hj
              refine ⟨?_, ?_, ?_, ?_, fun i hi => ?_⟩
              · exact r1
              · exact r2
              · rw [← r3]; show upd _ (nI h).toNatClampNeg _ j = M9 31 j; rw [hch]; simp only [upd, Nat.ne_of_lt hj, if_false]; rfl
              · rw [← r4]; show upd _ (nI h).toNatClampNeg _ j = M9 32 j; rw [hch]; simp only [upd, Nat.ne_of_lt hj, if_false]; rfl
              · rw [← r5 i hi]; show upd _ (nI h * 8 + nI k).toNatClampNeg _ (8 * j + i) = M9 33 (8 * j + i); rw [hat, z_cl (by omega)]; simp only [upd]; rw [if_neg (by omega)]; rfl
            · exact hlo9
            · show upd _ (nI h).toNatClampNeg _ h = _
              rw [hch, hqs, ← hcd]
              simp only [upd, if_true]
              show M9 31 h ||| _ = _
              first | rw [if_neg (Int32.not_lt.mpr h1n)] | (rw [if_pos (Int32.not_le.mp h1n)]; rw [← f10, hck]; rfl)
            · show upd _ (nI h).toNatClampNeg _ h = _
              rw [hch, hqs, ← hsh]
              simp only [upd, if_true]
              show M9 32 h ||| _ = _
              first | rw [if_neg (Int32.not_lt.mpr h3n)] | rw [if_pos (Int32.not_le.mp h3n)]
            · show mSub _ _ (M9 34) j = _
              rw [hqs, f9]
              exact mSub_cong _ _ _ _ hlf hch9 j hj
            · show upd _ (nI h * 8 + nI k).toNatClampNeg _ (8 * h + j) = _
              rw [hat, z_cl (by omega), hqs]
              by_cases e : j = k
              · subst e; simp [upd]
              · simp only [upd]
                rw [if_neg (by omega), if_neg e]
                exact hgo j (by omega)) (by
        rintro r9 y M9 ⟨rfl, hrest, hfr, hres, hlo9, hcd, hsh, hlf, hgo⟩
        have f8 : M9 8 = M 8 := hfr 8 (by omega)
        rw [hf] at hq
        rw [hf] at hlo9
        refine z_go ?_
        refine z_bt (by show M9 8 6 ≤ nI N; rw [f8, hn]; exact nI_le (Nat.le_refl _) (by omega)) ?_
        refine z_go ?_
        refine And.intro (z_inN0 (by omega) (by omega)) ?_
        refine ih _ _ _ ⟨nI_1 h, ?_, fun p hp => ?_, fun j hj => ?_⟩
        · rw [hrest, hq]; rfl
        · rw [z_un (show p ≠ 29 by omega)]; exact hfr p hp
        · by_cases e : j = h
          · subst e
            refine ⟨?_, ?_, ?_, ?_, fun i hi => ?_⟩
            · show upd _ (nI j).toNatClampNeg _ j = _
              rw [hch, hrest, hq]; simp only [upd, if_true]; rfl
            · exact hlo9
            · rw [show (mHour N (M 9) (M 10) nd op lk (M 36) (M 7 3) (M 7 4) (M 7 5) j).2.2.1 = (q N).2.2.1 by rw [hq]; rfl]; exact hcd
            · rw [show (mHour N (M 9) (M 10) nd op lk (M 36) (M 7 3) (M 7 4) (M 7 5) j).2.2.2.1 = (q N).2.2.2.1 by rw [hq]; rfl]; exact hsh
            · rw [show (mHour N (M 9) (M 10) nd op lk (M 36) (M 7 3) (M 7 4) (M 7 5) j).2.2.2.2 = (q N).2.2.2.2 by rw [hq]; rfl]; exact hgo i hi
          · obtain ⟨r1, r2, r3, r4, r5⟩ := hres j (by omega)
            refine ⟨?_, r2, r3, r4, r5⟩
            rw [← r1]; show upd _ (nI h).toNatClampNeg _ j = M9 29 j; rw [hch]; simp only [upd, e, if_false])
    rw [hf] at hq inner
    refine z_go ?_
    refine z_bf (nI_ge (a := h) (b := 40) hh (by omega)) ?_
    refine And.intro (z_inN0 (by omega) (by omega)) ?_
    refine z_ca (z_cv (lk h) (c4_leaking n 36 _ _ K1 hK1 (by show M8 7 9 = _; rw [g7]; exact hk1)) (by show mLk (mThB (M8 7 10)) (M8 16) (M8 17) (M8 18) (nI h) K1 = _; rw [g7, g16, g17, g18]; exact hlk h hh)) ?_
    refine And.intro (z_inN0 (by omega) (by omega)) ?_
    refine And.intro (z_inN0 (by omega) (by omega)) ?_
    refine And.intro (z_inN0 (by omega) (by omega)) ?_
    refine And.intro (z_inN0 (by omega) (by omega)) ?_
    refine z_cx (c4_openPipes34 n 36 _ _ K2 hK2 (by show M8 7 13 = _; rw [g7]; exact hk2) (by show ∀ i, i < K2 → ∃ q, q < 8 ∧ M8 20 i = nI q; rw [g20]; exact hpq)) (fun M7 h9 => ?_)
    obtain ⟨l9, rfl, hl9⟩ := h9
    refine inner 0 _ _ _ (Nat.zero_le _) ⟨rfl, ?_, fun p hp => ?_, fun j hj => ?_, ?_, ?_, ?_, fun j hj => ?_, fun j hj => absurd hj (Nat.not_lt_zero j)⟩
    · rw [hq]
      show mFull (M8 7 4) (M8 7 5) r8 (M8 36 (nI h).toNatClampNeg) - upd (M8 30) (nI h).toNatClampNeg _ (nI h).toNatClampNeg = _
      rw [hch, g7, gE, hr8]
      simp only [upd, if_true]
      rfl
    · rw [z_un (show p ≠ 34 by omega), z_un (show p ≠ 32 by omega), z_un (show p ≠ 31 by omega), z_un (show p ≠ 30 by omega)]
      exact hfr8 p hp
    · obtain ⟨r1, r2, r3, r4, r5⟩ := hres8 j hj
      refine ⟨r1, ?_, ?_, ?_, r5⟩
      · rw [← r2]; show upd _ (nI h).toNatClampNeg _ j = M8 30 j; rw [hch]; simp only [upd, Nat.ne_of_lt hj, if_false]
      · rw [← r3]; show upd _ (nI h).toNatClampNeg _ j = M8 31 j; rw [hch]; simp only [upd, Nat.ne_of_lt hj, if_false]; rfl
      · rw [← r4]; show upd _ (nI h).toNatClampNeg _ j = M8 32 j; rw [hch]; simp only [upd, Nat.ne_of_lt hj, if_false]; rfl
    · show upd _ (nI h).toNatClampNeg _ h = _
      rw [hch]; simp only [upd, if_true]
      show mLost (mFull (M8 7 4) (M8 7 5) r8 (M8 36 h)) (lk h) = _
      rw [g7, gE, hr8]
    · rw [hq]; show upd _ (nI h).toNatClampNeg _ h = _
      rw [hch]; simp only [upd, if_true]; rfl
    · rw [hq]; show upd _ (nI h).toNatClampNeg _ h = _
      rw [hch]; simp only [upd, if_true]; rfl
    · rw [hq]; show l9 j = op h j
      rw [hl9 j (by omega), ← hop h hh j hj]
      show (if nI j = M8 7 15 ∨ mPn (mThB (M8 7 14)) (M8 19) (M8 20) (nI h) j K2 = true then 0 else M8 11 j) = _
      rw [g7, g11, g19, g20]) (by
    rintro r8 x M8 ⟨rfl, hr8, hfr8, hres8⟩
    refine z_go ?_
    refine z_bt (nI_le (a := 40) (b := 40) (Nat.le_refl _) (by omega)) ?_
    refine z_go ?_
    exact z_rq hret rfl ⟨hfr8, hres8⟩)
  exact outer 0 _ _ _ (Nat.zero_le _) ⟨rfl, rfl, fun _ _ => rfl, fun j hj => absurd hj (Nat.not_lt_zero j)⟩

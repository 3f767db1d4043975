/-! how much a house may get: 0 to 4 -/
/-- the numbers told are small -/
def wb2 (w : Rw) : Prop := (∃ s, s ≤ 60 ∧ w.1 0 0 = nI s) ∧ (∃ r, r ≤ 99 ∧ w.1 0 1 = nI r) ∧ (∃ l, l ≤ 9 ∧ w.1 0 2 = nI l) ∧ ∀ i, i < w.2 2 → ∃ m, m ≤ 9 ∧ w.1 4 i = nI m
theorem mMin_nat {l : Nat → Int32} {L : Nat → Nat} : ∀ (c : List Nat) (W : Nat), W < 1000 → (∀ j ∈ c, l j = nI (L j) ∧ L j < 1000) → ∃ B, mMin l c (nI W) = nI B ∧ B ≤ W ∧ ∀ j ∈ c, B ≤ L j
  | [], W, _, _ => ⟨W, rfl, Nat.le_refl _, fun j hj => by cases hj⟩
  | j :: r, W, hW, h => by
    have hj := h j List.mem_cons_self
    unfold mMin
    rw [hj.1]
    by_cases c : L j < W
    · rw [if_pos (nI_lt c (by omega))]
      obtain ⟨B, e, h1, h2⟩ := mMin_nat r (L j) (by omega) (fun i hi => h i (List.mem_cons_of_mem _ hi))
      refine ⟨B, e, by omega, fun i hi => ?_⟩
      rcases List.mem_cons.mp hi with q | q
      · rw [q]; exact h1
      · exact h2 i q
    · rw [if_neg (nI_nlt (by omega) (by omega))]
      obtain ⟨B, e, h1, h2⟩ := mMin_nat r W hW (fun i hi => h i (List.mem_cons_of_mem _ hi))
      refine ⟨B, e, h1, fun i hi => ?_⟩
      rcases List.mem_cons.mp hi with q | q
      · rw [q]; omega
      · exact h2 i q
/-- a chain goes down -/
def dnC : List Nat → Prop
  | [] => True
  | j :: r => (∀ i ∈ r, i < j) ∧ dnC r
theorem mCh_dn {n : Nat} {on : Nat → Int32} (h : mOn n on) : ∀ (f : Nat) (p : Int32), (p < 0 ∨ ∃ i, i < n ∧ p = nI i) → n ≤ 8 → dnC (mCh on f p) ∧ ∀ i, p = nI i → i < n → ∀ j ∈ mCh on f p, j ≤ i
  | 0, _, _, _ => ⟨trivial, fun _ _ _ j hj => by cases hj⟩
  | f + 1, p, hp, hn => by
    unfold mCh
    by_cases h0 : p < 0
    · rw [if_pos h0]; exact ⟨trivial, fun _ _ _ j hj => by cases hj⟩
    · rw [if_neg h0]
      rcases hp with hp | ⟨i, hi, rfl⟩
      · exact absurd hp h0
      · rw [nI_clamp (by omega)]
        have hq : on i < 0 ∨ ∃ k, k < i ∧ on i = nI k := by
          rcases h i hi with q | q
          · left; rw [q]; decide
          · exact Or.inr q
        have hr : ∀ j ∈ mCh on f (on i), j < i := by
          rcases hq with q | ⟨k, hk, e⟩
          · intro j hj
            cases f with
            | zero => cases hj
            | succ f => unfold mCh at hj; rw [if_pos q] at hj; cases hj
          · intro j hj
            have := (mCh_dn h f (on i) (Or.inr ⟨k, by omega, e⟩) hn).2 k e (by omega) j hj
            omega
        refine ⟨⟨hr, (mCh_dn h f (on i) ?_ hn).1⟩, fun i2 e2 hi2 j hj => ?_⟩
        · rcases hq with q | ⟨k, hk, e⟩
          · exact Or.inl q
          · exact Or.inr ⟨k, by omega, e⟩
        · have e3 := (nI_eq (by omega) (by omega)).mp e2
          rcases List.mem_cons.mp hj with q | q
          · omega
          · have := hr j q; omega
theorem mSub_nat {n B c9 : Nat} : ∀ (c : List Nat) (l : Nat → Int32), dnC c → (∀ j, j < n → ∃ L, L ≤ c9 ∧ l j = nI L) → (∀ j ∈ c, j < n ∧ ∃ L, B ≤ L ∧ L ≤ c9 ∧ l j = nI L) → ∀ j, j < n → ∃ L, L ≤ c9 ∧ mSub (nI B) c l j = nI L
  | [], _, _, h, _, j, hj => h j hj
  | i :: r, l, hd, h, hc, j, hj => by
    unfold mSub
    obtain ⟨hi, L0, hB, h9, e0⟩ := hc i List.mem_cons_self
    refine mSub_nat r _ hd.2 (fun k hk => ?_) (fun k hk => ?_) j hj
    · by_cases e : k = i
      · subst e
        rw [upd_eq, e0, pk_sub hB]
        exact ⟨_, by omega, rfl⟩
      · rw [upd_ne e]; exact h k hk
    · have hlt := hd.1 k hk
      rw [upd_ne (by omega)]
      exact hc k (List.mem_cons_of_mem _ hk)
theorem mHs_nat {n R : Nat} {on nt nd l0 : Nat → Int32} (hn : n ≤ 8) (h : mOn n on) (hR : R ≤ 99) (hl : ∀ j, j < n → ∃ L, L ≤ 9 ∧ l0 j = nI L) (hd : ∀ j, j < n → ∃ D, D ≤ 4 ∧ nd j = nI D) :
    ∀ k, k ≤ n → (∃ R', R' ≤ R ∧ (mHs on nt nd (nI R) l0 k).1 = nI R') ∧ (∀ j, j < n → ∃ L, L ≤ 9 ∧ (mHs on nt nd (nI R) l0 k).2.1 j = nI L) ∧ ∀ j, j < k → ∃ c, c ≤ 4 ∧ (mHs on nt nd (nI R) l0 k).2.2.2.2 j = nI c
  | 0, _ => ⟨⟨R, Nat.le_refl _, rfl⟩, hl, fun j hj => absurd hj (Nat.not_lt_zero j)⟩
  | k + 1, hk => by
    obtain ⟨⟨R', hR', e1⟩, i2, i3⟩ := mHs_nat hn h hR hl hd k (by omega) (nt := nt)
    obtain ⟨D, hD, eD⟩ := hd k (by omega)
    have hin := mCh_in h 8 (nI k) (Or.inr ⟨k, by omega, rfl⟩) hn
    have hdn := (mCh_dn h 8 (nI k) (Or.inr ⟨k, by omega, rfl⟩) hn).1
    have hw : (if (mHs on nt nd (nI R) l0 k).1 < nd k then (mHs on nt nd (nI R) l0 k).1 else nd k) = nI (if R' < D then R' else D) := by
      rw [e1, eD]
      by_cases c : R' < D
      · rw [if_pos c, if_pos (nI_lt c (by omega))]
      · rw [if_neg c, if_neg (nI_nlt (by omega) (by omega))]
    have hW4 : (if R' < D then R' else D) ≤ 4 ∧ (if R' < D then R' else D) ≤ R' := by split <;> omega
    have hLx : ∃ L : Nat → Nat, ∀ j, j < n → L j ≤ 9 ∧ (mHs on nt nd (nI R) l0 k).2.1 j = nI (L j) := by
      refine ⟨fun j => ((mHs on nt nd (nI R) l0 k).2.1 j).toNatClampNeg, fun j hj => ?_⟩
      obtain ⟨L, hL, e⟩ := i2 j hj
      simp only [e]
      rw [z_cl (by omega)]
      exact ⟨hL, rfl⟩
    obtain ⟨L, hL⟩ := hLx
    obtain ⟨B, eB, hB1, hB2⟩ := mMin_nat (l := (mHs on nt nd (nI R) l0 k).2.1) (L := L) (mCh on 8 (nI k)) (if R' < D then R' else D) (by omega) (fun j hj => ⟨(hL j (hin j hj)).2, by have := (hL j (hin j hj)).1; omega⟩)
    unfold mHs
    simp only
    rw [hw, eB, e1, pk_sub (by omega)]
    refine ⟨⟨R' - B, by omega, rfl⟩, mSub_nat _ _ hdn i2 (fun j hj => ⟨hin j hj, L j, hB2 j hj, (hL j (hin j hj)).1, (hL j (hin j hj)).2⟩), fun j hj => ?_⟩
    by_cases e : j = k
    · subst e
      rw [upd_eq]
      exact ⟨B, by omega, rfl⟩
    · rw [upd_ne e]
      exact i3 j (by omega)
theorem mLk_nat {th : Nat → Bool} {fr mu pa : Nat → Int32} {h : Int32} : ∀ k, k ≤ 6 → (∀ i, i < k → ∃ m, m ≤ 9 ∧ mu i = nI m) → ∃ s, s ≤ 9 * k ∧ mLk th fr mu pa h k = nI s
  | 0, _, _ => ⟨0, Nat.le_refl _, rfl⟩
  | k + 1, hk, hm => by
    obtain ⟨s, hs, e⟩ := mLk_nat k (by omega) (fun i hi => hm i (by omega)) (th := th) (fr := fr) (pa := pa) (h := h)
    obtain ⟨m, h9, em⟩ := hm k (by omega)
    unfold mLk
    rw [e]
    split
    · rw [em, nI_add]; exact ⟨_, by omega, rfl⟩
    · rw [Int32.add_zero]; exact ⟨s, by omega, rfl⟩
theorem mFull_nat {r l R e : Nat} (hr : r ≤ 99) (hl : l ≤ 9) (hR : R ≤ 99) (he : e ≤ 10) : ∃ F, F ≤ 99 ∧ mFull (nI r) (nI l) (nI R) (nI e) = nI F := by
  have hle : l * e ≤ 90 := Nat.le_trans (Nat.mul_le_mul hl he) (by omega)
  unfold mFull
  rw [pk_mul, nI_add]
  by_cases c : R + l * e < r
  · rw [if_pos (nI_lt c (by omega))]; exact ⟨_, by omega, rfl⟩
  · rw [if_neg (nI_nlt (by omega) (by omega))]; exact ⟨r, hr, rfl⟩
theorem mLost_nat {F k : Nat} (hF : F ≤ 99) (hk : k ≤ 99) : ∃ R, R ≤ 99 ∧ nI F - mLost (nI F) (nI k) = nI R := by
  unfold mLost
  by_cases c : k < F
  · rw [if_pos (nI_lt c (by omega)), pk_sub (by omega)]; exact ⟨_, by omega, rfl⟩
  · rw [if_neg (nI_nlt (by omega) (by omega)), pk_sub (Nat.le_refl _)]; exact ⟨_, by omega, rfl⟩
section
variable {n r l s : Nat} {on nt : Nat → Int32} {nd op : Nat → Nat → Int32} {lk el : Nat → Int32}
theorem mRest_nat (hn : n ≤ 8) (h : mOn n on) (hr : r ≤ 99) (hl : l ≤ 9) (hs : s ≤ 60) (hd : ∀ t, t < 40 → ∀ j, j < n → ∃ D, D ≤ 4 ∧ nd t j = nI D) (ho : ∀ t, t < 40 → ∀ j, j < n → ∃ L, L ≤ 9 ∧ op t j = nI L) (hk : ∀ t, t < 40 → ∃ k, k ≤ 99 ∧ lk t = nI k) (he : ∀ t, t < 40 → ∃ e, e ≤ 10 ∧ el t = nI e) :
    ∀ t, t ≤ 40 → ∃ R, R ≤ 99 ∧ mRest n on nt nd op lk el (nI s) (nI r) (nI l) t = nI R
  | 0, _ => ⟨s, by omega, rfl⟩
  | t + 1, ht => by
    obtain ⟨R, hR, e⟩ := mRest_nat hn h hr hl hs hd ho hk he t (by omega)
    obtain ⟨ee, he1, he2⟩ := he t (by omega)
    obtain ⟨kk, hk1, hk2⟩ := hk t (by omega)
    obtain ⟨F, hF, eF⟩ := mFull_nat hr hl hR he1
    obtain ⟨R2, hR2, eR2⟩ := mLost_nat hF hk1
    unfold mRest
    simp only
    rw [e, he2, hk2, eF, eR2]
    obtain ⟨⟨R3, h3, e3⟩, -, -⟩ := mHs_nat (nt := nt) hn h hR2 (ho t (by omega)) (hd t (by omega)) n (Nat.le_refl _)
    exact ⟨R3, by omega, e3⟩
theorem mHour_nat (hn : n ≤ 8) (h : mOn n on) (hr : r ≤ 99) (hl : l ≤ 9) (hs : s ≤ 60) (hd : ∀ t, t < 40 → ∀ j, j < n → ∃ D, D ≤ 4 ∧ nd t j = nI D) (ho : ∀ t, t < 40 → ∀ j, j < n → ∃ L, L ≤ 9 ∧ op t j = nI L) (hk : ∀ t, t < 40 → ∃ k, k ≤ 99 ∧ lk t = nI k) (he : ∀ t, t < 40 → ∃ e, e ≤ 10 ∧ el t = nI e) {t j : Nat} (ht : t < 40) (hj : j < n) :
    ∃ c, c ≤ 4 ∧ (mHour n on nt nd op lk el (nI s) (nI r) (nI l) t).2.2.2.2 j = nI c := by
  obtain ⟨R, hR, e⟩ := mRest_nat (nt := nt) hn h hr hl hs hd ho hk he t (by omega)
  obtain ⟨ee, he1, he2⟩ := he t ht
  obtain ⟨kk, hk1, hk2⟩ := hk t ht
  obtain ⟨F, hF, eF⟩ := mFull_nat hr hl hR he1
  obtain ⟨R2, hR2, eR2⟩ := mLost_nat hF hk1
  unfold mHour
  simp only
  rw [e, he2, hk2, eF, eR2]
  exact (mHs_nat (nt := nt) hn h hR2 (ho t ht) (hd t ht) n (Nat.le_refl _)).2.2 j hj
end
theorem eEl_nat (f : Nat → Int32) (n h : Nat) : ∃ e, e ≤ 10 ∧ eEl f n h = nI e := by
  unfold eEl
  by_cases c : h < eMn f n
  · rw [if_pos c]
    unfold eMn at c
    by_cases c2 : eK f n < n
    · rw [if_pos c2] at c; omega
    · rw [if_neg c2] at c
      have e := eK_ok c2
      have z := fa_first_no (fun k => !decide (48 ≤ f k ∧ f k ≤ 57)) n h (by show h < eK f n; omega)
      have z2 : 48 ≤ f h ∧ f h ≤ 57 := by simpa using z
      have a1 := (fa_le 48 (f h)).mp z2.1
      have a2 := (fa_le (f h) 57).mp z2.2
      have z48 : (48 : Int32).toInt = 48 := by decide
      have z57 : (57 : Int32).toInt = 57 := by decide
      rw [z48] at a1
      rw [z57] at a2
      refine ⟨(f h).toInt.toNat - 48, by omega, ?_⟩
      have e1 : (f h - 48).toInt = (f h).toInt - 48 := by rw [fb_subI (by rw [z48]; omega) (by rw [z48]; omega), z48]
      rw [fa_eq, e1, nI_toInt (by omega)]
      omega
  · rw [if_neg c]; exact ⟨3, by omega, rfl⟩
theorem pWd_nat (f : Nat → Int32) (n : Nat) {k : Nat} (hk : k < (pRes f n).2) : ∃ L, L ≤ 9 ∧ pWd f n k = nI L := by
  have z := (pFail_4 ((pRes_ok f n).2 k hk)).2.2.1.2
  unfold pW at z
  have hn0 : ¬ f (pPos f n k + 2) - 48 < 0 := fun c => by
    have h1 := (fa_lt _ _).mp c
    have h2 := (fa_le _ _).mp z.1
    have z0 : (0 : Int32).toInt = 0 := by decide
    have z1 : (1 : Int32).toInt = 1 := by decide
    omega
  obtain ⟨L, hL, e⟩ := nI_of2 (x := f (pPos f n k + 2) - 48) (M := 9) (n := 9) (by decide) hn0 z.2
  exact ⟨L, hL, e⟩
theorem tNd_nat (w : Rw) (h : Nat) {k : Nat} (hk : k < tN w) : ∃ D, D ≤ 4 ∧ tNd w h k = nI D := by
  have hl := pLn_1 (w.1 1) (w.2 0) k
  unfold tNd
  rcases pDn_ok (w.1 1) (w.2 0) hk (Nat.mod_lt h (show 0 < pLn (w.1 1) (w.2 0) k by omega)) with e | e | e <;> rw [e]
  · exact ⟨1, by omega, by decide⟩
  · exact ⟨2, by omega, by decide⟩
  · exact ⟨4, by omega, by decide⟩
theorem tHr_nat {w : Rw} (hw : wf w) (hb : wb2 w) {thL thP : Nat → Bool} {sh : Int32} {wd el : Nat → Int32} (hwd : ∀ k, k < tN w → ∃ L, L ≤ 9 ∧ wd k = nI L) (hel : ∀ t, t < 40 → ∃ e, e ≤ 10 ∧ el t = nI e) {t j : Nat} (ht : t < 40) (hj : j < tN w) :
    ∃ c, c ≤ 4 ∧ (tHr w thL thP sh wd el (w.1 0 0) t).2.2.2.2 j = nI c := by
  obtain ⟨⟨s, hs, es⟩, ⟨r, hr, er⟩, ⟨l, hl, el'⟩, hm⟩ := hb
  unfold tHr
  rw [es, er, el']
  refine mHour_nat (tN8 w) (pOn_ok _ _) hr hl hs (fun t _ j hj => tNd_nat w t hj) (fun t _ j hj => ?_) (fun t _ => ?_) hel ht hj
  · unfold tOp
    split
    · exact ⟨0, by omega, rfl⟩
    · exact hwd j hj
  · unfold tLk
    have h6 := hw.1.2.2.1
    obtain ⟨k, hk, e⟩ := mLk_nat (th := thL) (fr := w.1 3) (pa := w.1 5) (h := nI t) (w.2 2) h6 hm
    exact ⟨k, by omega, e⟩
theorem tWd_nat {w : Rw} (hw : wf w) (hb : wb2 w) {k v t : Nat} (hk : k < tN w) (hv : v ≤ 9) (ht : t < 40) : ∃ c, c ≤ 4 ∧ (tWd w k v t).2.2.2.2 k = nI c := by
  unfold tWd
  refine tHr_nat hw hb (fun q hq => ?_) (fun t _ => eEl_nat _ _ _) ht hk
  by_cases e : q = k
  · subst e; rw [upd_eq]; exact ⟨v, hv, rfl⟩
  · rw [upd_ne e]; exact pWd_nat _ _ hq

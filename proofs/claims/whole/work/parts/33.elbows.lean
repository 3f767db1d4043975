/-! the reference reads the houses; the elbows, in both -/
def rHm (f : Nat → Int32) (n N : Nat) (M : zM) : Prop := ∀ k, k < N → M 48 k = pOn f n k ∧ M 49 k = pNt f n k ∧ M 50 k = pWd f n k ∧ M 51 k = nI (pLn f n k) ∧ ∀ i, i < pLn f n k → M 52 (3 * k + i) = pDn f n k i
theorem rNo_neg {s : Nat} (h : s < 4) : ¬ 0 ≤ rNo s := by
  rcases (by omega : s = 0 ∨ s = 1 ∨ s = 2 ∨ s = 3) with e | e | e | e <;> subst e <;> decide
theorem rNo_sub {s a : Nat} (h : s < 4) (ha : a < 1000) : nI a - rNo s - 1 = nI (a + s) := by
  have k : ∀ (c : Int32) (t : Nat), c.toInt = -((t : Int) + 1) → t < 10 → nI a - c - 1 = nI (a + t) := by
    intro c t hc ht
    have h1 : (1 : Int32).toInt = 1 := by decide
    have e1 : (nI a - c).toInt = (a : Int) + t + 1 := by rw [fb_subI (by rw [nI_toInt (by omega), hc]; omega) (by rw [nI_toInt (by omega), hc]; omega), nI_toInt (by omega), hc]; omega
    rw [fa_eq, fb_subI (by rw [e1, h1]; omega) (by rw [e1, h1]; omega), e1, h1, nI_toInt (by omega)]
    omega
  rcases (by omega : s = 0 ∨ s = 1 ∨ s = 2 ∨ s = 3) with e | e | e | e <;> subst e
  · exact k (-1) 0 (by decide) (by omega)
  · exact k (-2) 1 (by decide) (by omega)
  · exact k (-3) 2 (by decide) (by omega)
  · exact k (-4) 3 (by decide) (by omega)
set_option maxRecDepth 10000 in
set_option maxHeartbeats 1000000 in
theorem c6_readsHouses (n eb : Nat) (M : zM) (f : Nat → Int32) (sz : Nat) (hT : rTx M f sz) : zMet zi_X6_readsHouses [.ref 45] (zLay n eb) M (zLay n eb) (zr (some (.int (pRes f sz).1)) (fun M' => M' 45 = upd (M 45) 2 (nI (pRes f sz).2) ∧ (∀ p, p ≠ 45 → p < 48 ∨ 52 < p → M' p = M p) ∧ rHm f sz (pRes f sz).2 M')) := by
  refine z_mr (zk_X6_readsHouses _ _) rfl (Nat.le_of_ble_eq_true rfl) rfl (fun ret hret => ?_)
  have hs55 := hT.1
  by_cases h0 : sz = 0
  · subst h0
    have hp0 : pRes f 0 = (-1, 0) := by rw [pRes, if_pos rfl]
    rw [hp0] at hret
    refine z_go ?_
    refine And.intro (z_inN0 (i := 0) (n := 2) (by decide) (by decide)) ?_
    refine z_bf (by show ¬ (0 : Int32) < M 46 0; rw [hT.2.1]; decide) ?_
    refine z_bt (by decide) ?_
    refine z_go ?_
    exact z_rq hret rfl ⟨rfl, fun p hp hp2 => z_un hp, fun k hk => absurd hk (Nat.not_lt_zero k)⟩
  have hR0 : pRes f sz = pGo f sz 9 0 0 := by rw [pRes, if_neg h0]
  have loop := z_l2 (P := zp_X6_readsHouses) (ret := ret) (pc := 9) (L := zLay n eb) (N := 9) (lo := fun x y => [some (.ref 45), some (.int x), some (.int y), none])
    (I := fun h x y M' => x = nI h ∧ ∃ a, y = nI a ∧ a = pPos f sz h ∧ h ≤ 8 ∧ a ≤ sz ∧ (a < sz ∨ 0 < a) ∧ pRes f sz = pGo f sz ((8 - h) + 1) h a ∧ M' 45 = upd (M 45) 2 0 ∧ (∀ p, p ≠ 45 → p < 48 ∨ 52 < p → M' p = M p) ∧ rHm f sz h M') (by
    rintro h x y M' hi ⟨rfl, a, rfl, ha, hh, hasz, hgo, hR, h45, hfr, har⟩ ih
    have hT' : rTx M' f sz := by
      unfold rTx
      rw [hfr 46 (by omega) (by omega), hfr 47 (by omega) (by omega)]
      exact hT
    have hl13 := pLen_1 f sz a
    have hadd : nI a + nI (3 + pLen f sz a) = nI (a + 3 + pLen f sz a) := by rw [nI_add, Nat.add_assoc]
    have key : z_run (z_from 23 zp_X6_readsHouses) (z_E zp_X6_readsHouses ret) ret [some (.ref 45), some (.int (nI h)), some (.int (nI a)), none] [] (zLay n eb) M' := by
      by_cases hs : pFail f sz h a < 4
      · have hE : pRes f sz = (nI (a + pFail f sz h a), 0) := by rw [hR, pGo, if_pos hs]
        refine z_ca (c6_rhno n eb M' h a hh (by omega) f sz hT' hs) ?_
        refine z_bf (rNo_neg hs) ?_
        refine z_rq hret (z_vi ?_) ?_
        · show nI a - rNo _ - 1 = _
          rw [hE]; exact rNo_sub hs (by omega)
        · rw [hE]
          exact ⟨h45, fun p hp hp2 => hfr p hp hp2, fun k hk => absurd hk (Nat.not_lt_zero k)⟩
      · have h8 := (pFail_4 hs).1.1
        have hE : pRes f sz = if a + 3 + pLen f sz a = sz then (-1, h + 1) else if f (a + 3 + pLen f sz a) = 59 then pGo f sz (8 - h) (h + 1) (a + 3 + pLen f sz a + 1) else (nI (a + 3 + pLen f sz a), 0) := by rw [hR, pGo, if_neg hs]
        have hle := (pLen_in (f := f) (n := sz) (a := a) (i := pLen f sz a - 1) (pFail_4 hs).2.2.2.1 (pFail_4 hs).2.2.2.2 (by omega)).1
        by_cases hend : a + 3 + pLen f sz a = sz
        · refine z_cx (c6_rhok n eb M' h a hh (by omega) f sz hT' hs) (fun M7 h9 => ?_)
          obtain ⟨q1, q2, q3, q4, q5, q6, q7⟩ := h9
          have hT7 : rTx M7 f sz := by
            unfold rTx
            rw [q1 46 (by omega), q1 47 (by omega)]
            exact hT'
          have har' : rHm f sz (h + 1) M7 := by
            intro k hk
            by_cases e : k = h
            · subst e
              refine ⟨?_, ?_, ?_, ?_, fun t ht => ?_⟩
              · rw [q3, pOn, ← ha]
              · rw [q4, pNt, ← ha]
              · rw [q5, pWd, ← ha]
              · rw [q6, pLn, ← ha]
              · rw [pLn, ← ha] at ht
                rw [q7 t ht, pDn, ← ha]
            · obtain ⟨r1, r2, r3, r4, r5⟩ := har k (by omega)
              obtain ⟨b1, b2, b3, b4, b5⟩ := q2 k e
              exact ⟨b1.trans r1, b2.trans r2, b3.trans r3, b4.trans r4, fun t ht => (b5 t (by have := (pLen_1 f sz (pPos f sz k)).2; have ht' : t < pLen f sz (pPos f sz k) := ht; omega)).trans (r5 t ht)⟩
          refine z_bt (nI_pos' (by omega)) ?_
          refine z_go ?_
          refine And.intro (z_inN0 (i := 0) (n := 2) (by decide) (by decide)) ?_
          refine z_bt (by show nI a + nI (3 + pLen f sz a) = M7 46 0; rw [hadd, hT7.2.1, hend]) ?_
          refine z_rq hret (by rw [hE, if_pos hend]) ?_
          rw [hE, if_pos hend]
          refine ⟨?_, fun p hp hp2 => ?_, har'⟩
          · show upd (M7 45) 2 (nI h + 1) = _
            rw [q1 45 (by omega), h45, fa_upd_twice, nI_1]
          · rw [z_un (by omega), q1 p (by omega)]; exact hfr p hp hp2
        · have hlt : a + 3 + pLen f sz a < sz := by omega
          by_cases h59 : f (a + 3 + pLen f sz a) = 59
          · refine z_cx (c6_rhok n eb M' h a hh (by omega) f sz hT' hs) (fun M7 h9 => ?_)
            obtain ⟨q1, q2, q3, q4, q5, q6, q7⟩ := h9
            have hT7 : rTx M7 f sz := by
              unfold rTx
              rw [q1 46 (by omega), q1 47 (by omega)]
              exact hT'
            have har' : rHm f sz (h + 1) M7 := by
              intro k hk
              by_cases e : k = h
              · subst e
                refine ⟨?_, ?_, ?_, ?_, fun t ht => ?_⟩
                · rw [q3, pOn, ← ha]
                · rw [q4, pNt, ← ha]
                · rw [q5, pWd, ← ha]
                · rw [q6, pLn, ← ha]
                · rw [pLn, ← ha] at ht
                  rw [q7 t ht, pDn, ← ha]
              · obtain ⟨r1, r2, r3, r4, r5⟩ := har k (by omega)
                obtain ⟨b1, b2, b3, b4, b5⟩ := q2 k e
                exact ⟨b1.trans r1, b2.trans r2, b3.trans r3, b4.trans r4, fun t ht => (b5 t (by have := (pLen_1 f sz (pPos f sz k)).2; have ht' : t < pLen f sz (pPos f sz k) := ht; omega)).trans (r5 t ht)⟩
            refine z_bt (nI_pos' (by omega)) ?_
            refine z_go ?_
            refine And.intro (z_inN0 (i := 0) (n := 2) (by decide) (by decide)) ?_
            refine z_bf (by show ¬ nI a + nI (3 + pLen f sz a) = M7 46 0; rw [hadd, hT7.2.1]; exact fun z => hend ((nI_eq (by omega) (by omega)).mp z)) ?_
            refine z_go ?_
            refine z_ca ((show zMet zi_X6_byteAt [.ref 45, .int (nI a + nI (3 + pLen f sz a))] (zLay n eb) _ (zLay n eb) _ from (by rw [hadd]; exact c6_byteAt n eb _ (a + 3 + pLen f sz a) (by omega) f sz (by exact hT7)))) ?_
            refine z_bt (by show rB f sz (a + 3 + pLen f sz a) = 59; rw [rB, if_pos hlt]; exact h59) ?_
            refine z_go ?_
            refine ih _ _ _ ⟨nI_1 h, a + 3 + pLen f sz a + 1, ?_, ?_, ?_, by omega, Or.inr (by omega), ?_, ?_, ?_, har'⟩
            · show nI a + nI (3 + pLen f sz a) + 1 = _
              rw [nI_add, nI_1, show a + (3 + pLen f sz a) + 1 = a + 3 + pLen f sz a + 1 by omega]
            · rw [ha]; rfl
            · omega
            · rw [hE, if_neg hend, if_pos h59, show 8 - h = 8 - (h + 1) + 1 by omega]
            · rw [q1 45 (by omega)]; exact h45
            · exact fun p hp hp2 => by rw [q1 p (by omega)]; exact hfr p hp hp2
          · refine z_cx (c6_rhok n eb M' h a hh (by omega) f sz hT' hs) (fun M7 h9 => ?_)
            obtain ⟨q1, q2, q3, q4, q5, q6, q7⟩ := h9
            have hT7 : rTx M7 f sz := by
              unfold rTx
              rw [q1 46 (by omega), q1 47 (by omega)]
              exact hT'
            have har' : rHm f sz (h + 1) M7 := by
              intro k hk
              by_cases e : k = h
              · subst e
                refine ⟨?_, ?_, ?_, ?_, fun t ht => ?_⟩
                · rw [q3, pOn, ← ha]
                · rw [q4, pNt, ← ha]
                · rw [q5, pWd, ← ha]
                · rw [q6, pLn, ← ha]
                · rw [pLn, ← ha] at ht
                  rw [q7 t ht, pDn, ← ha]
              · obtain ⟨r1, r2, r3, r4, r5⟩ := har k (by omega)
                obtain ⟨b1, b2, b3, b4, b5⟩ := q2 k e
                exact ⟨b1.trans r1, b2.trans r2, b3.trans r3, b4.trans r4, fun t ht => (b5 t (by have := (pLen_1 f sz (pPos f sz k)).2; have ht' : t < pLen f sz (pPos f sz k) := ht; omega)).trans (r5 t ht)⟩
            refine z_bt (nI_pos' (by omega)) ?_
            refine z_go ?_
            refine And.intro (z_inN0 (i := 0) (n := 2) (by decide) (by decide)) ?_
            refine z_bf (by show ¬ nI a + nI (3 + pLen f sz a) = M7 46 0; rw [hadd, hT7.2.1]; exact fun z => hend ((nI_eq (by omega) (by omega)).mp z)) ?_
            refine z_go ?_
            refine z_ca ((show zMet zi_X6_byteAt [.ref 45, .int (nI a + nI (3 + pLen f sz a))] (zLay n eb) _ (zLay n eb) _ from (by rw [hadd]; exact c6_byteAt n eb _ (a + 3 + pLen f sz a) (by omega) f sz (by exact hT7)))) ?_
            refine z_bf (by show ¬ rB f sz (a + 3 + pLen f sz a) = 59; rw [rB, if_pos hlt]; exact h59) ?_
            refine z_rq hret (z_vi ?_) ?_
            · show nI a + nI (3 + pLen f sz a) = _
              rw [hE, if_neg hend, if_neg h59, nI_add, Nat.add_assoc]
            · rw [hE, if_neg hend, if_neg h59]
              exact ⟨by rw [q1 45 (by omega)]; exact h45, fun p hp hp2 => by rw [q1 p (by omega)]; exact hfr p hp hp2, fun k hk => absurd hk (Nat.not_lt_zero k)⟩
    refine z_go ?_
    by_cases hA : a < sz
    · refine And.intro (z_inN0 (i := 0) (n := 2) (by decide) (by decide)) ?_
      refine z_bt (by show nI a < M' 46 0; rw [hT'.2.1]; exact nI_lt hA (by omega)) ?_
      exact z_go key
    · refine And.intro (z_inN0 (i := 0) (n := 2) (by decide) (by decide)) ?_
      refine z_bf (by show ¬ nI a < M' 46 0; rw [hT'.2.1]; exact nI_nlt (by omega) (by omega)) ?_
      refine z_bf (fun z => absurd ((nI_leI (a := a) (b := 0) (by omega) (by omega)).mp z) (by omega)) ?_
      exact key) (by
    rintro x y M' ⟨rfl, a, rfl, ha, hh, -⟩
    omega)
  exact loop 0 _ _ _ (Nat.zero_le _) ⟨rfl, 0, rfl, rfl, by omega, by omega, Or.inl (by omega), hR0, rfl, fun p hp hp2 => z_un hp, fun k hk => absurd hk (Nat.not_lt_zero k)⟩
def eK (f : Nat → Int32) (n : Nat) : Nat := fa_first (fun k => !decide (48 ≤ f k ∧ f k ≤ 57)) n
def eFt (f : Nat → Int32) (n : Nat) : Int32 := if eK f n < n then nI (eK f n) else -1
def eMn (f : Nat → Int32) (n : Nat) : Nat := if eK f n < n then 0 else n
def eEl (f : Nat → Int32) (n h : Nat) : Int32 := if h < eMn f n then f h - 48 else 3
theorem eK_s (f : Nat → Int32) (n : Nat) : eK f (n + 1) = if eK f n < n then eK f n else if ¬ (48 ≤ f n ∧ f n ≤ 57) then n else n + 1 := by
  show (if eK f n < n then eK f n else if (!decide (48 ≤ f n ∧ f n ≤ 57)) = true then n else n + 1) = _
  by_cases c : 48 ≤ f n ∧ f n ≤ 57
  · rw [if_neg (show ¬ (!decide (48 ≤ f n ∧ f n ≤ 57)) = true by rw [decide_eq_true c]; decide), if_neg (show ¬ ¬ (48 ≤ f n ∧ f n ≤ 57) from fun z => z c)]
  · rw [if_pos (show (!decide (48 ≤ f n ∧ f n ≤ 57)) = true by rw [decide_eq_false c]; decide), if_pos c]
theorem eK_stop {f : Nat → Int32} {i n : Nat} (h : eK f i < i) (hn : i ≤ n) : eK f n = eK f i := by
  induction n with
  | zero => have : i = 0 := by omega
            subst this; rfl
  | succ n ih =>
    by_cases e : i = n + 1
    · rw [e]
    · have := ih (by omega)
      rw [eK_s, this, if_pos (by omega)]
theorem eK_ok {f : Nat → Int32} {n : Nat} (h : ¬ eK f n < n) : eK f n = n := by
  have := fa_first_le (fun k => !decide (48 ≤ f k ∧ f k ≤ 57)) n
  unfold eK at *
  omega
set_option maxRecDepth 10000 in
set_option maxHeartbeats 1000000 in
theorem c4_readElbows (n : Nat) (M : zM) (sz : Nat) (hs : sz ≤ 40) (hsz : M 5 2 = nI sz) : zMet zi_X4_readElbows [.ref 7, .ref 5] (zLay n 15) M (zLay n 15) (zr (some (.int (eFt (M 6) sz))) (fun M' => M' 7 = upd (M 7) 2 (nI (eMn (M 6) sz)) ∧ (∀ p, p ≠ 7 → p ≠ 15 → M' p = M p) ∧ ∀ h, h < 40 → M' 15 h = eEl (M 6) sz h)) := by
  refine z_mr (zk_X4_readElbows _ _) rfl (Nat.le_of_ble_eq_true rfl) rfl (fun ret hret => ?_)
  have hle := fa_first_le (fun k => !decide (48 ≤ M 6 k ∧ M 6 k ≤ 57)) sz
  have loop2 : ∀ mn : Int32, mn = nI (eMn (M 6) sz) → _ := fun mn hmn => z_l1 (P := zp_X4_readElbows) (ret := ret) (pc := 65) (L := zLay n 15) (N := 40) (lo := fun x => [some (.ref 7), some (.ref 5), some (.int (eFt (M 6) sz)), some (.int x)]) (I := fun h x M' => x = nI h ∧ ∃ l, M' = va_up (va_up M 7 (upd (M 7) 2 mn)) 15 l ∧ ∀ t, t < h → l t = eEl (M 6) sz t) (by
    rintro h x M' hh ⟨rfl, l, rfl, hl⟩ ih
    subst hmn
    have hch : (nI h).toNatClampNeg = h := z_cl (by omega)
    have hmn : eMn (M 6) sz ≤ 40 := by unfold eMn; split <;> omega
    refine z_go ?_
    refine z_bf (nI_ge (a := h) (b := 40) hh (by omega)) ?_
    refine z_br (fun h1j => ?_) (fun h1n => ?_)
    · refine z_go ?_
      refine And.intro (z_inN0 (by omega) (by omega)) ?_
      refine ih _ _ ⟨nI_1 h, upd l h 3, by rw [z_uu, z_us, hch] <;> rfl, fun t ht => ?_⟩
      by_cases e : t = h
      · subst e; simp only [upd, if_true]; rw [eEl, if_neg (fun q => absurd (show nI (eMn (M 6) sz) ≤ nI t from h1j) (nI_ge q (by omega)))]
      · simp only [upd, e, if_false]; exact hl t (by omega)
    · refine And.intro (z_inN0 (by omega) (by omega)) ?_
      refine z_go ?_
      refine And.intro (z_inN0 (by omega) (by omega)) ?_
      have hlt : h < eMn (M 6) sz := by
        rcases Nat.lt_or_ge h (eMn (M 6) sz) with q | q
        · exact q
        · exact absurd (show nI (eMn (M 6) sz) ≤ nI h from nI_le q (by omega)) h1n
      refine ih _ _ ⟨nI_1 h, upd l h (M 6 h - 48), by rw [z_uu, z_us, hch] <;> rfl, fun t ht => ?_⟩
      by_cases e : t = h
      · subst e; simp only [upd, if_true]; rw [eEl, if_pos hlt]
      · simp only [upd, e, if_false]; exact hl t (by omega)) (by
    rintro x M' ⟨rfl, l, rfl, hl⟩
    subst hmn
    refine z_go ?_
    refine z_bt (nI_le (a := 40) (b := 40) (Nat.le_refl _) (by omega)) ?_
    refine z_go ?_
    exact z_rq hret rfl ⟨rfl, fun p hp hp2 => by rw [z_un hp2, z_un hp], hl⟩)
  have tail : ∀ x, z_E zp_X4_readElbows ret 41 [some (.ref 7), some (.ref 5), some (.int (eFt (M 6) sz)), some (.int x)] [] (zLay n 15) M := by
    intro x
    refine z_go ?_
    have hid : ∀ mn, va_up M 7 (upd (M 7) 2 mn) = va_up (va_up M 7 (upd (M 7) 2 mn)) 15 (M 15) := fun mn => (show va_up (va_up M 7 (upd (M 7) 2 mn)) 15 ((va_up M 7 (upd (M 7) 2 mn)) 15) = _ from z_uid).symm
    by_cases hk : eK (M 6) sz < sz
    · refine z_bf (by show ¬ eFt (M 6) sz = -1; rw [eFt, if_pos hk]; exact nI_nm1 (by omega)) ?_
      refine z_go ?_
      exact loop2 _ (by rw [eMn, if_pos hk]; rfl) 0 _ _ (Nat.zero_le _) ⟨rfl, M 15, hid _, fun t ht => absurd ht (Nat.not_lt_zero t)⟩
    · refine z_bt (by show eFt (M 6) sz = -1; rw [eFt, if_neg hk]) ?_
      refine z_go ?_
      refine loop2 _ ?_ 0 _ _ (Nat.zero_le _) ⟨rfl, M 15, hid _, fun t ht => absurd ht (Nat.not_lt_zero t)⟩
      show (if (40 : Int32) < M 5 2 then 40 else M 5 2) = _
      rw [hsz, eMn, if_neg hk]
      exact if_neg (fun z => absurd ((nI_ltI (a := 40) (b := sz) (by omega) (by omega)).mp z) (by omega))
  have loop1 := z_l2 (P := zp_X4_readElbows) (ret := ret) (pc := 4) (L := zLay n 15) (N := sz) (lo := fun ft x => [some (.ref 7), some (.ref 5), some (.int ft), some (.int x)]) (I := fun i ft x M' => M' = M ∧ ft = eFt (M 6) i ∧ x = nI i) (by
    rintro i ft x M' hi ⟨rfl, rfl, rfl⟩ ih
    have hcl : (nI i).toNatClampNeg = i := z_cl (by omega)
    refine z_go ?_
    by_cases hk : eK (M' 6) i < i
    · have e1 : eFt (M' 6) sz = eFt (M' 6) i := by rw [eFt, eFt, eK_stop hk (by omega), if_pos (by omega), if_pos hk]
      rw [e1] at tail
      refine z_bf (by show ¬ M' 5 2 ≤ nI i; rw [hsz]; exact nI_ge hi (by omega)) ?_
      refine z_bf (by show ¬ eFt (M' 6) i = -1; rw [eFt, if_pos hk]; exact nI_nm1 (by omega)) ?_
      exact tail _
    · refine z_bf (by show ¬ M' 5 2 ≤ nI i; rw [hsz]; exact nI_ge hi (by omega)) ?_
      refine z_bt (by show eFt (M' 6) i = -1; rw [eFt, if_neg hk]) ?_
      refine And.intro (z_inN0 (by omega) (by omega)) ?_
      refine z_ca (c5_within _ _ _ _ _ (Nat.le_of_ble_eq_true rfl)) ?_
      refine z_br (fun h1n => ?_) (fun h1j => ?_)
      · refine ih _ _ _ ⟨rfl, ?_, nI_1 i⟩
        rw [show eFt (M' 6) (i + 1) = if eK (M' 6) (i + 1) < i + 1 then nI (eK (M' 6) (i + 1)) else -1 from rfl, eK_s, if_neg hk]
        have c : ¬ (48 ≤ M' 6 i ∧ M' 6 i ≤ 57) := by have z := zb_eq0.mp h1n; simp only [hcl] at z; exact z
        rw [if_pos c, if_pos (Nat.lt_succ_self i)]
      · refine z_go ?_
        refine ih _ _ _ ⟨rfl, ?_, nI_1 i⟩
        rw [show eFt (M' 6) (i + 1) = if eK (M' 6) (i + 1) < i + 1 then nI (eK (M' 6) (i + 1)) else -1 from rfl, eK_s, if_neg hk]
        have c : ¬ ¬ (48 ≤ M' 6 i ∧ M' 6 i ≤ 57) := fun q => h1j (show zb _ = 0 from zb_eq0.mpr (by simp only [hcl]; exact q))
        rw [if_neg c, if_neg (Nat.lt_irrefl _), eFt, if_neg hk]) (by
    rintro ft x M' ⟨rfl, rfl, rfl⟩
    refine z_go ?_
    refine z_bt (by show M' 5 2 ≤ nI sz; rw [hsz]; exact nI_le (Nat.le_refl _) (by omega)) ?_
    exact tail _)
  exact loop1 0 _ _ _ (Nat.zero_le _) ⟨rfl, rfl, rfl⟩

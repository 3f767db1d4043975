/-! the class reads the houses -/
set_option maxRecDepth 10000 in
set_option maxHeartbeats 1000000 in
theorem c2_goRound (n eb : Nat) (M : zM) (N : Nat) (hN : N ≤ 8) (hn : M 8 6 = nI N) (ln : Nat → Nat) (hln : ∀ k, k < N → 1 ≤ ln k ∧ ln k ≤ 3 ∧ M 12 k = nI (ln k)) : zMet zi_X2_goRound [.ref 8] (zLay n eb) M (zLay n eb) (zr none (fun M' => (∀ p, p ≠ 14 → M' p = M p) ∧ ∀ k, k < N → ∀ t, t < 40 → M' 14 (8 * t + k) = M 13 (3 * k + t % ln k))) := by
  refine z_mr (zk_X2_goRound _ _) rfl (Nat.le_of_ble_eq_true rfl) rfl (fun ret hret => ?_)
  have outer := z_l1 (P := zp_X2_goRound) (ret := ret) (pc := 2) (L := zLay n eb) (N := N) (lo := fun x => [some (.ref 8), some (.int x), none, none]) (I := fun k x M' => x = nI k ∧ ∃ l, M' = va_up M 14 l ∧ ∀ j, j < k → ∀ t, t < 40 → l (8 * t + j) = M 13 (3 * j + t % ln j)) (by
    rintro k x M' hk ⟨rfl, l, rfl, hl⟩ ih
    obtain ⟨hl0, hl3, e12⟩ := hln k hk
    have inner : ∀ rr : Int32, rr = nI (ln k) → _ := fun rr hrr => z_l1 (P := zp_X2_goRound) (ret := ret) (pc := 23) (L := zLay n eb) (N := 40) (lo := fun y => [some (.ref 8), some (.int (nI k)), some (.int rr), some (.int y)]) (I := fun h y M' => y = nI h ∧ ∃ l, M' = va_up M 14 l ∧ (∀ j, j < k → ∀ t, t < 40 → l (8 * t + j) = M 13 (3 * j + t % ln j)) ∧ ∀ t, t < h → l (8 * t + k) = M 13 (3 * k + t % ln k)) (by
      rintro h y M' hh ⟨rfl, l, rfl, hl, hl2⟩ ih9
      subst hrr
      have hat : nI h * 8 + nI k = nI (8 * h + k) := by rw [show (8 : Int32) = nI 8 from rfl, pk_mul, nI_add, Nat.mul_comm]
      have hlt : h % ln k < ln k := Nat.mod_lt _ (by omega)
      have hix : nI k * 3 + (nI h - nI h / nI (ln k) * nI (ln k)) = nI (3 * k + h % ln k) := by
        rw [pk_rem (by omega) (by omega) (by omega), show (3 : Int32) = nI 3 from rfl, pk_mul, nI_add, Nat.mul_comm]
      refine z_go ?_
      refine z_bf (nI_ge (a := h) (b := 40) hh (by omega)) ?_
      refine And.intro (nI_ne0 (by omega) (by omega)) ?_
      refine And.intro (by show vp_in (nI k * 3 + (nI h - nI h / nI (ln k) * nI (ln k))) 24; rw [hix]; exact z_inN0 (by omega) (by omega)) ?_
      refine And.intro (by show vp_in (nI h * 8 + nI k) 320; rw [hat]; exact z_inN0 (by omega) (by omega)) ?_
      refine ih9 _ _ ⟨nI_1 h, upd l (8 * h + k) (M 13 (3 * k + h % ln k)), ?_, fun j hj t ht => ?_, fun t ht => ?_⟩
      · show va_up (va_up M 14 l) 14 (upd (va_up M 14 l 14) (nI h * 8 + nI k).toNatClampNeg (M 13 (nI k * 3 + (nI h - nI h / nI (ln k) * nI (ln k))).toNatClampNeg)) = _
        rw [z_uu, z_us, hat, hix, z_cl (by omega), z_cl (by omega)]
      · simp only [upd]; rw [if_neg (by omega)]; exact hl j hj t ht
      · simp only [upd]
        by_cases e : t = h
        · subst e; simp
        · rw [if_neg (by omega)]; exact hl2 t (by omega)) (by
      rintro y M' ⟨rfl, l, rfl, hl, hl2⟩
      refine z_go ?_
      refine z_bt (nI_le (a := 40) (b := 40) (Nat.le_refl _) (by omega)) ?_
      refine z_go ?_
      refine ih _ _ ⟨nI_1 k, l, rfl, fun j hj t ht => ?_⟩
      by_cases e : j = k
      · subst e; exact hl2 t ht
      · exact hl j (by omega) t ht)
    refine z_go ?_
    refine z_bf (by show ¬ M 8 6 ≤ nI k; rw [hn]; exact nI_ge hk (by omega)) ?_
    refine And.intro (z_inN0 (by omega) (by omega)) ?_
    refine inner _ ?_ 0 _ _ (Nat.zero_le _) ⟨rfl, l, rfl, hl, fun t ht => absurd ht (Nat.not_lt_zero t)⟩
    show (if (1 : Int32) < M 12 (nI k).toNatClampNeg then M 12 (nI k).toNatClampNeg else 1) = _
    rw [z_cl (by omega), e12]
    by_cases e1 : ln k = 1
    · rw [e1]; rfl
    · rw [if_pos (show (1 : Int32) < nI (ln k) from nI_lt (a := 1) (b := ln k) (by omega) (by omega))]) (by
    rintro x M' ⟨rfl, l, rfl, hl⟩
    refine z_go ?_
    refine z_bt (by show M 8 6 ≤ nI N; rw [hn]; exact nI_le (Nat.le_refl _) (by omega)) ?_
    refine z_go ?_
    exact z_rq hret rfl ⟨fun p hp => z_un hp, fun k hk t ht => hl k hk t ht⟩)
  exact outer 0 _ _ (Nat.zero_le _) ⟨rfl, M 14, z_uid.symm, fun j hj => absurd hj (Nat.not_lt_zero j)⟩
/-- the arrays hold the first h houses -/
def cAr (f : Nat → Int32) (n h : Nat) (M : zM) : Prop := ∀ k, k < h → M 9 k = pOn f n k ∧ M 10 k = pNt f n k ∧ M 11 k = pWd f n k ∧ M 12 k = nI (pLn f n k) ∧ ∀ i, i < pLn f n k → M 13 (3 * k + i) = pDn f n k i
/-- and of the house h its first p places -/
def cCu (f : Nat → Int32) (n h p : Nat) (M : zM) : Prop :=
  (1 ≤ p → h < 8 ∧ pP h (f (pPos f n h)) ∧ M 9 h = pOn f n h) ∧ (2 ≤ p → pN (f (pPos f n h + 1)) ∧ M 10 h = pNt f n h) ∧ (3 ≤ p → pW (f (pPos f n h + 2)) ∧ M 11 h = pWd f n h) ∧ (4 ≤ p → M 12 h = nI (p - 3)) ∧ ∀ i, i < p - 3 → pL (f (pPos f n h + 3 + i)) ∧ M 13 (3 * h + i) = pDn f n h i
def cFr (M : zM) (M' : zM) : Prop := M' 8 = upd (M 8) 6 0 ∧ ∀ q, q ≠ 8 → q < 9 ∨ 13 < q → M' q = M q
def cHm (f : Nat → Int32) (n N : Nat) (M : zM) : Prop := ∀ k, k < N → M 9 k = pOn f n k ∧ M 10 k = pNt f n k ∧ M 11 k = pWd f n k ∧ M 12 k = nI (pLn f n k) ∧ (∀ i, i < pLn f n k → M 13 (3 * k + i) = pDn f n k i) ∧ ∀ t, t < 40 → M 14 (8 * t + k) = pDn f n k (t % pLn f n k)
/-- what reading says while the house h is at its place p, at the byte a + p -/
theorem pGo_p {f : Nat → Int32} {n h p g a : Nat} (hp : p < 4) (q1 : 1 ≤ p → h < 8 ∧ a < n ∧ pP h (f a)) (q2 : 2 ≤ p → a + 1 < n ∧ pN (f (a + 1))) (q3 : 3 ≤ p → a + 2 < n ∧ pW (f (a + 2)))
    (no0 : p = 0 → ¬ (h < 8 ∧ a < n ∧ pP h (f a))) (no1 : p = 1 → ¬ (a + 1 < n ∧ pN (f (a + 1)))) (no2 : p = 2 → ¬ (a + 2 < n ∧ pW (f (a + 2)))) (no3 : p = 3 → ¬ (a + 3 < n ∧ pL (f (a + 3)))) : pGo f n (g + 1) h a = (nI (a + p), 0) := by
  have e : pFail f n h a = p := by
    rcases (by omega : p = 0 ∨ p = 1 ∨ p = 2 ∨ p = 3) with e | e | e | e <;> subst e
    · exact pFail_is0 (no0 rfl)
    · exact pFail_is1 (q1 (by omega)) (no1 rfl)
    · exact pFail_is2 (q1 (by omega)) (q2 (by omega)) (no2 rfl)
    · exact pFail_is3 (q1 (by omega)) (q2 (by omega)) (q3 (by omega)) (no3 rfl)
  rw [pGo, e, if_pos hp]
theorem pGo_s {f : Nat → Int32} {n h s g a : Nat} (h1 : 1 ≤ s) (h3 : s ≤ 3) (q1 : h < 8 ∧ a < n ∧ pP h (f a)) (q2 : a + 1 < n ∧ pN (f (a + 1))) (q3 : a + 2 < n ∧ pW (f (a + 2))) (hin : ∀ i, i < s → a + 3 + i < n ∧ pL (f (a + 3 + i))) (hout : s < 3 → ¬ (a + 3 + s < n ∧ pL (f (a + 3 + s)))) :
    pLen f n a = s ∧ pGo f n (g + 1) h a = if a + 3 + s = n then (-1, h + 1) else if f (a + 3 + s) = 59 then pGo f n g (h + 1) (a + 3 + s + 1) else (nI (a + 3 + s), 0) := by
  have e : pFail f n h a = 4 := pFail_is4 q1 q2 q3 (hin 0 (by omega))
  have el : pLen f n a = s := pLen_is h1 h3 (fun i _ hi => hin i hi) hout
  exact ⟨el, by rw [pGo, e, if_neg (by omega), el]⟩
set_option maxRecDepth 10000 in
set_option maxHeartbeats 1000000 in
theorem c2_readFrom (n eb : Nat) (M : zM) (sz : Nat) (hs55 : sz ≤ 55) (hsz : M 3 2 = nI sz) : zMet zi_X2_readFrom [.ref 8, .ref 3] (zLay n eb) M (zLay n eb) (zr (some (.int (pRes (M 4) sz).1)) (fun M' => M' 8 = upd (M 8) 6 (nI (pRes (M 4) sz).2) ∧ (∀ q, q ≠ 8 → q < 9 ∨ 14 < q → M' q = M q) ∧ cHm (M 4) sz (pRes (M 4) sz).2 M')) := by
  refine z_mr (zk_X2_readFrom _ _) rfl (Nat.le_of_ble_eq_true rfl) rfl (fun ret hret => ?_)
  obtain ⟨f, hf⟩ : ∃ f, f = M 4 := ⟨_, rfl⟩
  by_cases h0 : sz = 0
  · have e0 : M 3 2 = 0 := by rw [hsz, h0]; rfl
    refine z_bt (by show M 3 2 = 0; exact e0) ?_
    refine z_rq hret (by rw [pRes, if_pos h0]) ?_
    rw [pRes, if_pos h0]
    exact ⟨rfl, fun q h1 h2 => z_un h1, fun k hk => absurd hk (Nat.not_lt_zero k)⟩
  have hR0 : pRes (M 4) sz = pGo (M 4) sz 9 0 0 := by rw [pRes, if_neg h0]
  rw [← hf] at hret hR0
  refine z_bf (by show ¬ M 3 2 = 0; rw [hsz]; exact nI_ne0 (by omega) (by omega)) ?_
  refine z_go ?_
  have loop := z_l3 (P := zp_X2_readFrom) (ret := ret) (pc := 21) (L := zLay n eb) (N := sz) (lo := fun hs ps x => [some (.ref 8), some (.ref 3), some (.int hs), some (.int ps), some (.int x), none])
    (I := fun i hs ps x M' => ∃ h p, hs = nI h ∧ ps = nI p ∧ x = nI i ∧ i = pPos f sz h + p ∧ h ≤ 8 ∧ p ≤ 6 ∧ pRes f sz = pGo f sz ((8 - h) + 1) h (pPos f sz h) ∧ cFr M M' ∧ cAr f sz h M' ∧ cCu f sz h p M') (by
    rintro i hs ps x M' hi ⟨h, p, rfl, rfl, rfl, hip, hh, hp, hR, hfr, har, hcu⟩ ih
    have hci : (nI i).toNatClampNeg = i := z_cl (by omega)
    have hch : (nI h).toNatClampNeg = h := z_cl (by omega)
    have g3 : M' 3 = M 3 := hfr.2 3 (by omega) (by omega)
    have g4 : M' 4 = f := by rw [hfr.2 4 (by omega) (by omega), hf]
    obtain ⟨c1, c2, c3, c4, c5⟩ := hcu
    obtain ⟨a, ha⟩ : ∃ a, a = pPos f sz h := ⟨_, rfl⟩
    have p1 : 1 ≤ p → h < 8 ∧ a < sz ∧ pP h (f a) := fun q => ⟨(c1 q).1, by omega, by rw [ha]; exact (c1 q).2.1⟩
    have p2 : 2 ≤ p → a + 1 < sz ∧ pN (f (a + 1)) := fun q => ⟨by omega, by rw [ha]; exact (c2 q).1⟩
    have p3 : 3 ≤ p → a + 2 < sz ∧ pW (f (a + 2)) := fun q => ⟨by omega, by rw [ha]; exact (c3 q).1⟩
    have p4 : ∀ t, t < p - 3 → a + 3 + t < sz ∧ pL (f (a + 3 + t)) := fun t ht => ⟨by omega, by rw [ha]; exact (c5 t ht).1⟩
    rw [← ha] at hip hR
    have key : ∀ bb, bb = f i → ¬ (f i = 59 ∧ 3 < p) → z_E zp_X2_readFrom ret 59 [some (.ref 8), some (.ref 3), some (.int (nI h)), some (.int (nI p)), some (.int (nI i)), some (.int bb)] [] (zLay n eb) M' := by
      intro bb hbb hA
      subst hbb
      refine z_go ?_
      by_cases h8 : h < 8
      · rcases (by omega : p = 0 ∨ p = 1 ∨ p = 2 ∨ 3 ≤ p) with e | e | e | e
        · subst e
          have e2 : a = i := by omega
          by_cases hb : pP h (f i)
          · refine z_ca (z_cv 1 (c2_tk0 n eb M' h (f i) h8) (zbc_1 hb)) ?_
            refine z_bf (by decide) ?_
            refine z_go ?_
            refine ih _ _ _ _ ⟨h, 1, rfl, (by rfl), nI_1 i, by omega, hh, by omega, (by rw [hR, ha]), ?_, ?_, ?_⟩
            · refine ⟨?_, fun q h1 h2 => ?_⟩
              · exact hfr.1
              · rw [z_un (by omega)]; exact hfr.2 q h1 h2
            · intro k hk
              obtain ⟨r1, r2, r3, r4, r5⟩ := har k hk
              refine ⟨(by show upd (M' 9) h _ k = _; simp only [upd, Nat.ne_of_lt hk, if_false]; exact r1), r2, r3, r4, r5⟩
            · exact ⟨fun q => ⟨h8, (by rw [← ha, e2]; exact hb), (by show upd (M' 9) h _ h = _; simp only [upd, if_true]; rw [pOn, ← ha, e2])⟩, fun q => absurd q (by omega), fun q => absurd q (by omega), fun q => absurd q (by omega), fun t ht => absurd ht (by omega)⟩
          · have hE : pRes f sz = (nI i, 0) := by
              rw [hR]
              exact (by rw [← e2]; exact pGo_p (p := 0) (by omega) p1 p2 p3 (fun _ z => hb (by rw [← e2]; exact z.2.2)) (fun q => absurd q (by omega)) (fun q => absurd q (by omega)) (fun q => absurd q (by omega)))
            refine z_ca (z_cv 0 (c2_tk0 n eb M' h (f i) h8) (zbc_0 hb)) ?_
            refine z_bt (by decide) ?_
            refine z_go ?_
            refine z_rq hret (z_vi ?_) ?_
            · show nI i = _
              rw [hE]
            · rw [hE]
              exact ⟨hfr.1, fun q h1 h2 => (by first | exact hfr.2 q h1 (by omega) | (rw [z_un (by omega)]; exact hfr.2 q h1 (by omega))), fun k hk => absurd hk (Nat.not_lt_zero k)⟩
        · subst e
          have e2 : a + 1 = i := by omega
          by_cases hb : pN (f i)
          · refine z_ca (z_cv 1 (c2_tk1 n eb M' h (f i) h8) (zbc_1 hb)) ?_
            refine z_bf (by decide) ?_
            refine z_go ?_
            refine ih _ _ _ _ ⟨h, 2, rfl, (by rfl), nI_1 i, by omega, hh, by omega, (by rw [hR, ha]), ?_, ?_, ?_⟩
            · refine ⟨?_, fun q h1 h2 => ?_⟩
              · exact hfr.1
              · rw [z_un (by omega)]; exact hfr.2 q h1 h2
            · intro k hk
              obtain ⟨r1, r2, r3, r4, r5⟩ := har k hk
              refine ⟨r1, (by show upd (M' 10) h _ k = _; simp only [upd, Nat.ne_of_lt hk, if_false]; exact r2), r3, r4, r5⟩
            · exact ⟨fun q => c1 (by omega), fun q => ⟨(by rw [← ha, e2]; exact hb), (by show upd (M' 10) h _ h = _; simp only [upd, if_true]; rw [pNt, ← ha, e2])⟩, fun q => absurd q (by omega), fun q => absurd q (by omega), fun t ht => absurd ht (by omega)⟩
          · have hE : pRes f sz = (nI i, 0) := by
              rw [hR]
              exact (by rw [← e2]; exact pGo_p (p := 1) (by omega) p1 p2 p3 (fun q => absurd q (by omega)) (fun _ z => hb (by rw [← e2]; exact z.2)) (fun q => absurd q (by omega)) (fun q => absurd q (by omega)))
            refine z_ca (z_cv 0 (c2_tk1 n eb M' h (f i) h8) (zbc_0 hb)) ?_
            refine z_bt (by decide) ?_
            refine z_go ?_
            refine z_rq hret (z_vi ?_) ?_
            · show nI i = _
              rw [hE]
            · rw [hE]
              exact ⟨hfr.1, fun q h1 h2 => (by first | exact hfr.2 q h1 (by omega) | (rw [z_un (by omega)]; exact hfr.2 q h1 (by omega))), fun k hk => absurd hk (Nat.not_lt_zero k)⟩
        · subst e
          have e2 : a + 2 = i := by omega
          by_cases hb : pW (f i)
          · refine z_ca (z_cv 1 (c2_tk2 n eb M' h (f i) h8) (zbc_1 hb)) ?_
            refine z_bf (by decide) ?_
            refine z_go ?_
            refine ih _ _ _ _ ⟨h, 3, rfl, (by rfl), nI_1 i, by omega, hh, by omega, (by rw [hR, ha]), ?_, ?_, ?_⟩
            · refine ⟨?_, fun q h1 h2 => ?_⟩
              · exact hfr.1
              · rw [z_un (by omega)]; exact hfr.2 q h1 h2
            · intro k hk
              obtain ⟨r1, r2, r3, r4, r5⟩ := har k hk
              refine ⟨r1, r2, (by show upd (M' 11) h _ k = _; simp only [upd, Nat.ne_of_lt hk, if_false]; exact r3), r4, r5⟩
            · exact ⟨fun q => c1 (by omega), fun q => c2 (by omega), fun q => ⟨(by rw [← ha, e2]; exact hb), (by show upd (M' 11) h _ h = _; simp only [upd, if_true]; rw [pWd, ← ha, e2])⟩, fun q => absurd q (by omega), fun t ht => absurd ht (by omega)⟩
          · have hE : pRes f sz = (nI i, 0) := by
              rw [hR]
              exact (by rw [← e2]; exact pGo_p (p := 2) (by omega) p1 p2 p3 (fun q => absurd q (by omega)) (fun q => absurd q (by omega)) (fun _ z => hb (by rw [← e2]; exact z.2)) (fun q => absurd q (by omega)))
            refine z_ca (z_cv 0 (c2_tk2 n eb M' h (f i) h8) (zbc_0 hb)) ?_
            refine z_bt (by decide) ?_
            refine z_go ?_
            refine z_rq hret (z_vi ?_) ?_
            · show nI i = _
              rw [hE]
            · rw [hE]
              exact ⟨hfr.1, fun q h1 h2 => (by first | exact hfr.2 q h1 (by omega) | (rw [z_un (by omega)]; exact hfr.2 q h1 (by omega))), fun k hk => absurd hk (Nat.not_lt_zero k)⟩
        · obtain ⟨s, rfl⟩ : ∃ s, p = s + 3 := ⟨p - 3, by omega⟩
          by_cases hb : pL (f i) ∧ s ≤ 2
          · refine z_ca (c2_tk3 n eb M' h s (f i) h8 hb.2 hb.1) ?_
            refine z_bf (by decide) ?_
            refine z_go ?_
            refine ih _ _ _ _ ⟨h, s + 3 + 1, rfl, nI_1 (s + 3), nI_1 i, by omega, hh, by omega, (by rw [hR, ha]), ?_, ?_, ?_⟩
            · refine ⟨hfr.1, fun q h1 h2 => ?_⟩
              rw [z_un (by omega), z_un (by omega)]; exact hfr.2 q h1 h2
            · intro k hk
              obtain ⟨r1, r2, r3, r4, r5⟩ := har k hk
              have hlk := (pLen_1 f sz (pPos f sz k)).2
              refine ⟨r1, r2, r3, ?_, fun t ht => ?_⟩
              · show upd (M' 12) h _ k = _
                simp only [upd, Nat.ne_of_lt hk, if_false]; exact r4
              · show upd (M' 13) (3 * h + s) _ (3 * k + t) = _
                have ht' : t < pLen f sz (pPos f sz k) := ht
                simp only [upd]; rw [if_neg (by omega)]; exact r5 t ht
            · refine ⟨fun q => c1 (by omega), fun q => c2 (by omega), fun q => c3 (by omega), fun q => ?_, fun t ht => ?_⟩
              · show upd (M' 12) h _ h = _
                simp only [upd, if_true]; rfl
              · by_cases et : t = s
                · subst et
                  refine ⟨by rw [← ha, show a + 3 + t = i by omega]; exact hb.1, ?_⟩
                  show upd (M' 13) (3 * h + t) _ (3 * h + t) = _
                  simp only [upd, if_true]
                  rw [pDn, ← ha, show a + 3 + t = i by omega]
                · obtain ⟨z1, z2⟩ := c5 t (by omega)
                  refine ⟨z1, ?_⟩
                  show upd (M' 13) (3 * h + s) _ (3 * h + t) = _
                  simp only [upd]; rw [if_neg (by omega)]; exact z2
          · have hE : pRes f sz = (nI i, 0) := by
              rw [hR]
              exact (by
                  by_cases es : s = 0
                  · subst es
                    have e2 : a + 3 = i := by omega
                    rw [← e2]
                    exact pGo_p (p := 3) (by omega) p1 p2 p3 (fun q => absurd q (by omega)) (fun q => absurd q (by omega)) (fun q => absurd q (by omega)) (fun _ z => hb ⟨by rw [← e2]; exact z.2, by omega⟩)
                  · have e2 : a + 3 + s = i := by omega
                    have z := (pGo_s (f := f) (n := sz) (h := h) (s := s) (g := 8 - h) (a := a) (by omega) (by omega) (p1 (by omega)) (p2 (by omega)) (p3 (by omega)) (fun t ht => p4 t (by omega)) (fun q z => hb ⟨by rw [← e2]; exact z.2, by omega⟩)).2
                    rw [z, if_neg (by omega), if_neg (by rw [e2]; exact fun z => hA ⟨z, by omega⟩), e2])
            refine z_ca (c2_tk3no n eb M' h s (f i) h8 (by omega) (by by_cases q : pL (f i); exact Or.inr (fun z => hb ⟨q, z⟩); exact Or.inl q)) ?_
            refine z_bt (by decide) ?_
            refine z_go ?_
            refine z_rq hret (z_vi ?_) ?_
            · show nI i = _
              rw [hE]
            · rw [hE]
              exact ⟨hfr.1, fun q h1 h2 => (by first | exact hfr.2 q h1 (by omega) | (rw [z_un (by omega)]; exact hfr.2 q h1 (by omega))), fun k hk => absurd hk (Nat.not_lt_zero k)⟩
      · have e : h = 8 := by omega
        have ep : p = 0 := by
          rcases Nat.eq_zero_or_pos p with q | q
          · exact q
          · exact absurd (p1 q).1 h8
        subst e; subst ep
        have hE : pRes f sz = (nI i, 0) := by
          rw [hR]
          exact (by rw [show i = a + 0 by omega]; exact pGo_p (p := 0) (by omega) p1 p2 p3 (fun _ z => absurd z.1 (by omega)) (fun q => absurd q (by omega)) (fun q => absurd q (by omega)) (fun q => absurd q (by omega)))
        refine z_ca (c2_tk8 n eb M' 8 (nI 0) (f i) (by omega) (by omega)) ?_
        refine z_bt (by decide) ?_
        refine z_go ?_
        refine z_rq hret (z_vi ?_) ?_
        · show nI i = _
          rw [hE]
        · rw [hE]
          exact ⟨hfr.1, fun q h1 h2 => (by first | exact hfr.2 q h1 (by omega) | (rw [z_un (by omega)]; exact hfr.2 q h1 (by omega))), fun k hk => absurd hk (Nat.not_lt_zero k)⟩
    refine z_go ?_
    by_cases hA : f i = 59 ∧ 3 < p
    · have z := pGo_s (f := f) (n := sz) (h := h) (s := p - 3) (g := 8 - h) (a := a) (by omega) (by omega) (p1 (by omega)) (p2 (by omega)) (p3 (by omega)) p4 (fun q z => p59_L (by rw [show a + 3 + (p - 3) = i by omega, hA.1] at z; exact z.2))
      have h8 := (p1 (by omega)).1
      refine z_bf (by show ¬ M' 3 2 ≤ nI i; rw [g3, hsz]; exact nI_ge hi (by omega)) ?_
      refine And.intro (z_inN0 (by omega) (by omega)) ?_
      refine z_bt (by show M' 4 (nI i).toNatClampNeg = 59; rw [g4, hci]; exact hA.1) ?_
      refine z_bf (nI_ge (a := 3) (b := p) hA.2 (by omega)) ?_
      refine z_go ?_
      refine ih _ _ _ _ ⟨h + 1, 0, nI_1 h, rfl, nI_1 i, ?_, by omega, by omega, ?_, hfr, ?_, ⟨fun q => absurd q (by omega), fun q => absurd q (by omega), fun q => absurd q (by omega), fun q => absurd q (by omega), fun t ht => absurd ht (by omega)⟩⟩
      · show i + 1 = pPos f sz h + 3 + pLen f sz (pPos f sz h) + 1 + 0
        rw [← ha, z.1]; omega
      · rw [hR, z.2, if_neg (by omega), show a + 3 + (p - 3) = i by omega, if_pos hA.1, show pPos f sz (h + 1) = i + 1 by (show pPos f sz h + 3 + pLen f sz (pPos f sz h) + 1 = i + 1; rw [← ha, z.1]; omega), show 8 - h = (8 - (h + 1)) + 1 by omega]
      · intro k hk
        by_cases ek : k = h
        · subst ek
          have el : pLn f sz k = p - 3 := by rw [pLn, ← ha]; exact z.1
          refine ⟨(c1 (by omega)).2.2, (c2 (by omega)).2, (c3 (by omega)).2, ?_, fun t ht => (c5 t (by omega)).2⟩
          rw [el]; exact c4 (by omega)
        · exact har k (by omega)
    · by_cases h59 : f i = 59
      · have hp3 : ¬ 3 < p := fun z => hA ⟨h59, z⟩
        refine z_bf (by show ¬ M' 3 2 ≤ nI i; rw [g3, hsz]; exact nI_ge hi (by omega)) ?_
        refine And.intro (z_inN0 (by omega) (by omega)) ?_
        refine z_bt (by show M' 4 (nI i).toNatClampNeg = 59; rw [g4, hci]; exact h59) ?_
        refine z_bt (nI_le (a := p) (b := 3) (by omega) (by omega)) ?_
        exact key _ (by show M' 4 (nI i).toNatClampNeg = f i; rw [g4, hci]) hA
      · refine z_bf (by show ¬ M' 3 2 ≤ nI i; rw [g3, hsz]; exact nI_ge hi (by omega)) ?_
        refine And.intro (z_inN0 (by omega) (by omega)) ?_
        refine z_bf (by show ¬ M' 4 (nI i).toNatClampNeg = 59; rw [g4, hci]; exact h59) ?_
        exact key _ (by show M' 4 (nI i).toNatClampNeg = f i; rw [g4, hci]) hA) (by
    rintro hs ps x M' ⟨h, p, rfl, rfl, rfl, hip, hh, hp, hR, hfr, har, hcu⟩
    have g3 : M' 3 = M 3 := hfr.2 3 (by omega) (by omega)
    obtain ⟨c1, c2, c3, c4, c5⟩ := hcu
    obtain ⟨a, ha⟩ : ∃ a, a = pPos f sz h := ⟨_, rfl⟩
    have p1 : 1 ≤ p → h < 8 ∧ a < sz ∧ pP h (f a) := fun q => ⟨(c1 q).1, by omega, by rw [ha]; exact (c1 q).2.1⟩
    have p2 : 2 ≤ p → a + 1 < sz ∧ pN (f (a + 1)) := fun q => ⟨by omega, by rw [ha]; exact (c2 q).1⟩
    have p3 : 3 ≤ p → a + 2 < sz ∧ pW (f (a + 2)) := fun q => ⟨by omega, by rw [ha]; exact (c3 q).1⟩
    have p4 : ∀ t, t < p - 3 → a + 3 + t < sz ∧ pL (f (a + 3 + t)) := fun t ht => ⟨by omega, by rw [ha]; exact (c5 t ht).1⟩
    rw [← ha] at hip hR
    refine z_go ?_
    refine z_bt (by show M' 3 2 ≤ nI sz; rw [g3, hsz]; exact nI_le (Nat.le_refl _) (by omega)) ?_
    refine z_go ?_
    by_cases h4 : p ≤ 3
    · have hE : pRes f sz = (nI sz, 0) := by
        rw [hR, show nI sz = nI (a + p) by rw [hip]]
        exact pGo_p (p := p) (by omega) p1 p2 p3 (fun q z => absurd z.2.1 (by omega)) (fun q z => absurd z.1 (by omega)) (fun q z => absurd z.1 (by omega)) (fun q z => absurd z.1 (by omega))
      refine z_bf (fun z => absurd ((nI_ltI (a := 3) (b := p) (by omega) (by omega)).mp z) (by omega)) ?_
      refine z_rq hret (z_vi ?_) ?_
      · show M' 3 2 = _
        rw [g3, hsz, hE]
      · rw [hE]
        exact ⟨hfr.1, fun q h1 h2 => hfr.2 q h1 (by omega), fun k hk => absurd hk (Nat.not_lt_zero k)⟩
    · have h8 := (p1 (by omega)).1
      have z := pGo_s (f := f) (n := sz) (h := h) (s := p - 3) (g := 8 - h) (a := a) (by omega) (by omega) (p1 (by omega)) (p2 (by omega)) (p3 (by omega)) p4 (fun q z => absurd z.1 (by omega))
      have hE : pRes f sz = (-1, h + 1) := by rw [hR, z.2, if_pos (by omega)]
      have hmin : (if (8 : Int32) < nI h + 1 then 8 else nI h + 1) = nI (h + 1) := by
        rw [nI_1]
        exact if_neg (fun z => absurd ((nI_ltI (a := 8) (b := h + 1) (by omega) (by omega)).mp z) (by omega))
      have har' : cAr f sz (h + 1) M' := by
        intro k hk
        by_cases ek : k = h
        · subst ek
          have el : pLn f sz k = p - 3 := by rw [pLn, ← ha]; exact z.1
          refine ⟨(c1 (by omega)).2.2, (c2 (by omega)).2, (c3 (by omega)).2, ?_, fun t ht => (c5 t (by omega)).2⟩
          rw [el]; exact c4 (by omega)
        · exact har k (by omega)
      refine z_bt (nI_lt (a := 3) (b := p) (by omega) (by omega)) ?_
      refine z_go ?_
      refine z_cx (c2_goRound n eb _ (h + 1) (by omega) (by show upd (M' 8) 6 _ 6 = _; simp only [upd, if_true]; exact hmin) (pLn f sz) (fun k hk => ⟨(pLen_1 f sz _).1, (pLen_1 f sz _).2, (har' k hk).2.2.2.1⟩)) (fun M9 h9 => ?_)
      refine z_rq hret (by rw [hE]) ?_
      rw [hE]
      obtain ⟨w1, w2⟩ := h9
      refine ⟨?_, fun q h1 h2 => ?_, fun k hk => ?_⟩
      · rw [w1 8 (by omega)]
        show upd (M' 8) 6 _ = _
        rw [hmin, hfr.1, fa_upd_twice]
      · rw [w1 q (by omega), z_un (by omega)]; exact hfr.2 q h1 (by omega)
      · obtain ⟨r1, r2, r3, r4, r5⟩ := har' k hk
        refine ⟨?_, ?_, ?_, ?_, fun t ht => ?_, fun t ht => ?_⟩
        · rw [w1 9 (by omega)]; exact r1
        · rw [w1 10 (by omega)]; exact r2
        · rw [w1 11 (by omega)]; exact r3
        · rw [w1 12 (by omega)]; exact r4
        · rw [w1 13 (by omega)]; exact r5 t ht
        · rw [w2 k hk t ht]
          exact r5 _ (Nat.mod_lt _ (by have := (pLen_1 f sz (pPos f sz k)).1; exact this)))
  refine loop 0 _ _ _ _ (Nat.zero_le _) ⟨0, 0, rfl, rfl, rfl, rfl, by omega, by omega, hR0, ⟨rfl, fun q h1 h2 => z_un h1⟩, fun k hk => absurd hk (Nat.not_lt_zero k), ⟨fun q => absurd q (by omega), fun q => absurd q (by omega), fun q => absurd q (by omega), fun q => absurd q (by omega), fun t ht => absurd ht (by omega)⟩⟩

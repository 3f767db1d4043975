/-! the law's run -/
theorem z_gl {b1 b2 b3 b4 : Bool} {p1 p2 p3 p4 kc ks ci2 l j : Nat} {fs2 : List (Option Value)} {i : zI} {rest : List (Bool × Nat × zOp)} {jump : zJ} {ret : zR} {lo lo2 : zO} {L L1 L3 : zL} {M M3 : zM} (hl : L.length = l) (hok : z_ok lo [] L = true) (hkc : Nat.ble (l + 1) kc = true) (hks : z_sz L + fs2.length ≤ ks) (hL1 : L ++ ([.inr (ci2, fs2)] : zL) = L1) (hok1 : z_ok lo [.ref l] L1 = true) (hc : zMet i [.ref l] L1 (z_nw M l) L3 (zx none M3)) (hb1 : L3.length ≤ kc) (hb2 : z_sz L3 ≤ ks) (hj : (z_n1 lo j && Nat.blt j lo.length) = true) (hlo : lo.set j (some (.ref l)) = lo2)
    (h : z_run rest jump ret lo2 [] L3 M3) : z_run ((b1, p1, o_new kc ks ci2 fs2) :: (b2, p2, o_dup) :: (b3, p3, o_ci kc ks i 0) :: (b4, p4, o_as j) :: rest) jump ret lo [] L M := by
  subst hl; subst hL1; subst hlo
  have hks' : Nat.ble (z_sz L + fs2.length) ks = true := Nat.ble_eq_true_of_le hks
  have hcat : Nat.ble (z_cat [.ref L.length]) 8 = true := rfl
  have hd : Nat.beq (Value.ref L.length).category 1 = true := rfl
  simp only [z_run, o_new, o_dup, o_ci, hok, hkc, hks', hd, hok1, hcat, Bool.and_self, cond_true, List.drop_zero, List.take_zero, List.reverse_nil]
  refine ⟨L3, _, hc, ⟨hb1, hb2⟩, fun w M' q => ?_⟩
  obtain ⟨rfl, rfl⟩ := q
  refine ⟨rfl, ?_⟩
  simp only [o_as, hj, cond_true]
  exact h
set_option maxRecDepth 20000 in
set_option maxHeartbeats 4000000 in
theorem lw_out {n kc ks k s : Nat} {ret : zR} {M' : zM} {w : Rw} {f0 f1 : Nat → Int32} (hn : n ≤ 3072) (hk : 6 * k + 6 ≤ n) (hI : cI w M') (hC : rC w M') (hB : wb2 w) (e0 : M' 0 = f0) (e1 : M' 1 = f1) (hs : s < 64) (h37 : 37 ≤ s) (es : M' 0 (nI (6 * k)).toNatClampNeg &&& 63 = nI s) (ih : ∀ x M2, lwI f0 f1 (k + 1) x M2 → z_E (zp_L_law kc ks) ret 18 [some (.ref 0), some (.ref 2), some (.ref 45), some (.int x)] [] (zLay n 15) M2) : z_run (z_from 18 (zp_L_law kc ks)) (z_E (zp_L_law kc ks) ret) ret [some (.ref 0), some (.ref 2), some (.ref 45), some (.int (nI (6 * k)))] [] (zLay n 15) M' := by
  refine z_bf (lw_go hk hn) ?_
  refine And.intro (z_inN0 (by omega) (by omega)) ?_
  refine z_swo (by show (M' 0 (nI (6 * k)).toNatClampNeg &&& 63).toInt < 0 ∨ (0 : Int) + 37 ≤ (M' 0 (nI (6 * k)).toNatClampNeg &&& 63).toInt; rw [es, nI_toInt (by omega)]; omega) ?_
  refine z_go ?_
  exact ih _ _ ⟨w, hI, hC, hB, e0, e1, nI_add (6 * k) 6⟩
set_option maxRecDepth 20000 in
set_option maxHeartbeats 4000000 in
theorem lw_loop {n kc ks : Nat} {f0 f1 : Nat → Int32} (hn : n ≤ 3072) (hD : ∀ i, i < 4 → f1 i = nI (hrs i)) (ret : zR) (hret : ∀ M, ret (some (.int 1)) (zLay n 15) M) : ∀ k x M', k ≤ n / 6 → lwI f0 f1 k x M' → z_E (zp_L_law kc ks) ret 18 [some (.ref 0), some (.ref 2), some (.ref 45), some (.int x)] [] (zLay n 15) M' := by
  refine z_l1 (P := zp_L_law kc ks) (ret := ret) (pc := 18) (L := zLay n 15) (N := n / 6) (lo := fun x => [some (.ref 0), some (.ref 2), some (.ref 45), some (.int x)]) (I := lwI f0 f1) ?_ ?_
  · rintro k x M' hk ⟨w, hI, hC, hB, e0, e1, rfl⟩ ih
    refine z_go ?_
    obtain ⟨s, hs, es⟩ := pk_andE (M' 0 (nI (6 * k)).toNatClampNeg) (m := 63) 6 (by decide)
    have hs : s < 64 := hs
    rcases (show s = 0 ∨ s = 1 ∨ s = 2 ∨ s = 3 ∨ s = 4 ∨ s = 5 ∨ s = 6 ∨ s = 7 ∨ s = 8 ∨ s = 9 ∨ s = 10 ∨ s = 11 ∨ s = 12 ∨ s = 13 ∨ s = 14 ∨ s = 15 ∨ s = 16 ∨ s = 17 ∨ s = 18 ∨ s = 19 ∨ s = 20 ∨ s = 21 ∨ s = 22 ∨ s = 23 ∨ s = 24 ∨ s = 25 ∨ s = 26 ∨ s = 27 ∨ s = 28 ∨ s = 29 ∨ s = 30 ∨ s = 31 ∨ s = 32 ∨ s = 33 ∨ s = 34 ∨ s = 35 ∨ s = 36 ∨ 37 ≤ s by omega) with e | e | e | e | e | e | e | e | e | e | e | e | e | e | e | e | e | e | e | e | e | e | e | e | e | e | e | e | e | e | e | e | e | e | e | e | e | e
    · subst e; exact lw_c_0 hn (by omega) hI hC hB e0 e1 hD es ih
    · subst e; exact lw_c_1 hn (by omega) hI hC hB e0 e1 hD es ih
    · subst e; exact lw_c_2 hn (by omega) hI hC hB e0 e1 hD es ih
    · subst e; exact lw_c_3 hn (by omega) hI hC hB e0 e1 hD es ih
    · subst e; exact lw_c_4 hn (by omega) hI hC hB e0 e1 hD es ih
    · subst e; exact lw_c_5 hn (by omega) hI hC hB e0 e1 hD es ih
    · subst e; exact lw_c_6 hn (by omega) hI hC hB e0 e1 hD es ih
    · subst e; exact lw_c_7 hn (by omega) hI hC hB e0 e1 hD es ih
    · subst e; exact lw_c_8 hn (by omega) hI hC hB e0 e1 hD es ih
    · subst e; exact lw_c_9 hn (by omega) hI hC hB e0 e1 hD es ih
    · subst e; exact lw_c_10 hn (by omega) hI hC hB e0 e1 hD es ih
    · subst e; exact lw_c_11 hn (by omega) hI hC hB e0 e1 hD es ih
    · subst e; exact lw_c_12 hn (by omega) hI hC hB e0 e1 hD es ih
    · subst e; exact lw_c_13 hn (by omega) hI hC hB e0 e1 hD es ih
    · subst e; exact lw_c_14 hn (by omega) hI hC hB e0 e1 hD es ih
    · subst e; exact lw_c_15 hn (by omega) hI hC hB e0 e1 hD es ih
    · subst e; exact lw_c_16 hn (by omega) hI hC hB e0 e1 hD es ih
    · subst e; exact lw_c_17 hn (by omega) hI hC hB e0 e1 hD es ih
    · subst e; exact lw_c_18 hn (by omega) hI hC hB e0 e1 hD es ih
    · subst e; exact lw_c_19 hn (by omega) hI hC hB e0 e1 hD es ih
    · subst e; exact lw_c_20 hn (by omega) hI hC hB e0 e1 hD es ih
    · subst e; exact lw_c_21 hn (by omega) hI hC hB e0 e1 hD es ih
    · subst e; exact lw_c_22 hn (by omega) hI hC hB e0 e1 hD es ih
    · subst e; exact lw_c_23 hn (by omega) hI hC hB e0 e1 hD es ih
    · subst e; exact lw_c_24 hn (by omega) hI hC hB e0 e1 hD es ih
    · subst e; exact lw_c_25 hn (by omega) hI hC hB e0 e1 hD es ih
    · subst e; exact lw_c_26 hn (by omega) hI hC hB e0 e1 hD es ih
    · subst e; exact lw_c_27 hn (by omega) hI hC hB e0 e1 hD es ih
    · subst e; exact lw_c_28 hn (by omega) hI hC hB e0 e1 hD es ih
    · subst e; exact lw_c_29 hn (by omega) hI hC hB e0 e1 hD es ih
    · subst e; exact lw_c_30 hn (by omega) hI hC hB e0 e1 hD es ih
    · subst e; exact lw_c_31 hn (by omega) hI hC hB e0 e1 hD es ih
    · subst e; exact lw_c_32 hn (by omega) hI hC hB e0 e1 hD es ih
    · subst e; exact lw_c_33 hn (by omega) hI hC hB e0 e1 hD es ih
    · subst e; exact lw_c_34 hn (by omega) hI hC hB e0 e1 hD es ih
    · subst e; exact lw_c_35 hn (by omega) hI hC hB e0 e1 hD es ih
    · subst e; exact lw_c_36 hn (by omega) hI hC hB e0 e1 hD es ih
    · exact lw_out hn (by omega) hI hC hB e0 e1 hs e es ih
  · rintro x M' ⟨w, hI, hC, hB, e0, e1, rfl⟩
    refine z_go ?_
    refine z_bt (lw_ex (by omega) (by omega) hn) ?_
    refine z_go ?_
    exact And.intro rfl (hret M')

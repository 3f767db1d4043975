/-! the houses' text, as numbers -/
theorem z_swi {x : Int32} {lw : Int} {ts : List Nat} {d k t : Nat} {jump : zJ} {lo : zO} {r : List Value} {L : zL} {M : zM} (hk : ts[k]? = some t) (hx : x.toInt = lw + (k : Int)) (h : jump t lo r L M) : (x.toInt < lw ∨ lw + ts.length ≤ x.toInt → jump d lo r L M) ∧ ∀ (k t : Nat), ts[k]? = some t → x.toInt = lw + k → jump t lo r L M := by
  have hlt : k < ts.length := (List.getElem?_eq_some_iff.mp hk).1
  refine ⟨fun q => ?_, fun k' t' h1 h2 => ?_⟩
  · omega
  · have e : k' = k := by omega
    subst e
    rw [hk] at h1
    cases h1
    exact h
theorem z_swo {x : Int32} {lw : Int} {ts : List Nat} {d : Nat} {jump : zJ} {lo : zO} {r : List Value} {L : zL} {M : zM} (hx : x.toInt < lw ∨ lw + ts.length ≤ x.toInt) (h : jump d lo r L M) : (x.toInt < lw ∨ lw + ts.length ≤ x.toInt → jump d lo r L M) ∧ ∀ (k t : Nat), ts[k]? = some t → x.toInt = lw + k → jump t lo r L M := by
  refine ⟨fun _ => h, fun k t h1 h2 => ?_⟩
  have hlt : k < ts.length := (List.getElem?_eq_some_iff.mp h1).1
  omega
def pWh (b : Int32) : Int32 := if b = 115 then 0 else if b = 119 then 1 else if b = 114 then 2 else -1
def pP (h : Nat) (b : Int32) : Prop := b = 46 ∨ (0 ≤ b - 97 ∧ b - 97 ≤ nI h - 1)
def pN (b : Int32) : Prop := 0 ≤ b - 97 ∧ b - 97 ≤ 6
def pW (b : Int32) : Prop := 1 ≤ b - 48 ∧ b - 48 ≤ 9
def pL (b : Int32) : Prop := ¬ pWh b = -1
theorem pWh_3 (b : Int32) : pWh b = -1 ∨ pWh b = 0 ∨ pWh b = 1 ∨ pWh b = 2 := by
  unfold pWh
  repeat' split
  all_goals simp
noncomputable section
variable (f : Nat → Int32) (n : Nat)
/-- how many of the four places that a house needs are as they must be -/
def pFail (h a : Nat) : Nat := 
  haveI := Classical.propDecidable
  if ¬ (h < 8 ∧ a < n ∧ pP h (f a)) then 0 else if ¬ (a + 1 < n ∧ pN (f (a + 1))) then 1 else if ¬ (a + 2 < n ∧ pW (f (a + 2))) then 2 else if ¬ (a + 3 < n ∧ pL (f (a + 3))) then 3 else 4
/-- how many letters the house at a has -/
def pLen (a : Nat) : Nat :=
  haveI := Classical.propDecidable
  if a + 4 < n ∧ pL (f (a + 4)) then (if a + 5 < n ∧ pL (f (a + 5)) then 3 else 2) else 1
def pGo : Nat → Nat → Nat → Int32 × Nat
  | 0, _, a => (nI a, 0)
  | g + 1, h, a => if pFail f n h a < 4 then (nI (a + pFail f n h a), 0) else if a + 3 + pLen f n a = n then (-1, h + 1) else if f (a + 3 + pLen f n a) = 59 then pGo g (h + 1) (a + 3 + pLen f n a + 1) else (nI (a + 3 + pLen f n a), 0)
def pRes : Int32 × Nat := if n = 0 then (-1, 0) else pGo f n 9 0 0
def pPos : Nat → Nat
  | 0 => 0
  | k + 1 => pPos k + 3 + pLen f n (pPos k) + 1
def pOn (k : Nat) : Int32 := if f (pPos f n k) = 46 then -1 else f (pPos f n k) - 97
def pNt (k : Nat) : Int32 := f (pPos f n k + 1) - 97
def pWd (k : Nat) : Int32 := f (pPos f n k + 2) - 48
def pLn (k : Nat) : Nat := pLen f n (pPos f n k)
def pDn (k i : Nat) : Int32 := pWh (f (pPos f n k + 3 + i))
end
theorem pLen_1 (f : Nat → Int32) (n a : Nat) : 1 ≤ pLen f n a ∧ pLen f n a ≤ 3 := by
  unfold pLen
  split
  · split <;> omega
  · omega
theorem pLen_in {f : Nat → Int32} {n a i : Nat} (h : a + 3 < n) (h3 : pL (f (a + 3))) (hi : i < pLen f n a) : a + 3 + i < n ∧ pL (f (a + 3 + i)) := by
  unfold pLen at hi
  split at hi
  · rename_i q
    split at hi
    · rename_i q2
      rcases (by omega : i = 0 ∨ i = 1 ∨ i = 2) with e | e | e <;> subst e
      · exact ⟨h, h3⟩
      · exact q
      · exact q2
    · rcases (by omega : i = 0 ∨ i = 1) with e | e <;> subst e
      · exact ⟨h, h3⟩
      · exact q
  · have e : i = 0 := by omega
    subst e
    exact ⟨h, h3⟩
theorem pFail_4 {f : Nat → Int32} {n h a : Nat} (e : ¬ pFail f n h a < 4) : (h < 8 ∧ a < n ∧ pP h (f a)) ∧ (a + 1 < n ∧ pN (f (a + 1))) ∧ (a + 2 < n ∧ pW (f (a + 2))) ∧ (a + 3 < n ∧ pL (f (a + 3))) := by
  unfold pFail at e
  split at e
  · exact absurd (by decide) e
  · rename_i q1
    split at e
    · exact absurd (by decide) e
    · rename_i q2
      split at e
      · exact absurd (by decide) e
      · rename_i q3
        split at e
        · exact absurd (by decide) e
        · rename_i q4
          exact ⟨Classical.not_not.mp q1, Classical.not_not.mp q2, Classical.not_not.mp q3, Classical.not_not.mp q4⟩
theorem pFail_is0 {f : Nat → Int32} {n h a : Nat} (q : ¬ (h < 8 ∧ a < n ∧ pP h (f a))) : pFail f n h a = 0 := by
  unfold pFail; rw [if_pos q]
theorem pFail_is1 {f : Nat → Int32} {n h a : Nat} (q1 : h < 8 ∧ a < n ∧ pP h (f a)) (q : ¬ (a + 1 < n ∧ pN (f (a + 1)))) : pFail f n h a = 1 := by
  unfold pFail; rw [if_neg (fun z => z q1), if_pos q]
theorem pFail_is2 {f : Nat → Int32} {n h a : Nat} (q1 : h < 8 ∧ a < n ∧ pP h (f a)) (q2 : a + 1 < n ∧ pN (f (a + 1))) (q : ¬ (a + 2 < n ∧ pW (f (a + 2)))) : pFail f n h a = 2 := by
  unfold pFail; rw [if_neg (fun z => z q1), if_neg (fun z => z q2), if_pos q]
theorem pFail_is3 {f : Nat → Int32} {n h a : Nat} (q1 : h < 8 ∧ a < n ∧ pP h (f a)) (q2 : a + 1 < n ∧ pN (f (a + 1))) (q3 : a + 2 < n ∧ pW (f (a + 2))) (q : ¬ (a + 3 < n ∧ pL (f (a + 3)))) : pFail f n h a = 3 := by
  unfold pFail; rw [if_neg (fun z => z q1), if_neg (fun z => z q2), if_neg (fun z => z q3), if_pos q]
theorem pFail_is4 {f : Nat → Int32} {n h a : Nat} (q1 : h < 8 ∧ a < n ∧ pP h (f a)) (q2 : a + 1 < n ∧ pN (f (a + 1))) (q3 : a + 2 < n ∧ pW (f (a + 2))) (q4 : a + 3 < n ∧ pL (f (a + 3))) : pFail f n h a = 4 := by
  unfold pFail; rw [if_neg (fun z => z q1), if_neg (fun z => z q2), if_neg (fun z => z q3), if_neg (fun z => z q4)]
theorem pLen_is {f : Nat → Int32} {n a s : Nat} (h1 : 1 ≤ s) (h3 : s ≤ 3) (hin : ∀ i, 1 ≤ i → i < s → a + 3 + i < n ∧ pL (f (a + 3 + i))) (hout : s < 3 → ¬ (a + 3 + s < n ∧ pL (f (a + 3 + s)))) : pLen f n a = s := by
  unfold pLen
  rcases (by omega : s = 1 ∨ s = 2 ∨ s = 3) with e | e | e <;> subst e
  · rw [if_neg (hout (by omega))]
  · rw [if_pos (hin 1 (by omega) (by omega)), if_neg (hout (by omega))]
  · rw [if_pos (hin 1 (by omega) (by omega)), if_pos (hin 2 (by omega) (by omega))]
theorem p59_P (h : Nat) (hh : h ≤ 8) : ¬ pP h 59 := by
  unfold pP
  rintro (q | ⟨q, -⟩)
  · exact absurd q (by decide)
  · exact absurd q (by decide)
theorem p59_N : ¬ pN 59 := by unfold pN; decide
theorem p59_W : ¬ pW 59 := by unfold pW; decide
theorem p59_L : ¬ pL 59 := by unfold pL; decide
set_option maxRecDepth 10000 in
set_option maxHeartbeats 1000000 in
theorem c2_tlok (n eb : Nat) (M : zM) (h s : Nat) (b : Int32) (hh : h < 8) (hs : s ≤ 2) (hb : pL b) : zMet zi_X2_takesLetter [.ref 8, .int (nI h), .int (nI s), .int b] (zLay n eb) M (zLay n eb) (zx (some (.int 1)) (va_up (va_up M 13 (upd (M 13) (3 * h + s) (pWh b))) 12 (upd (M 12) h (nI (s + 1))))) := by
  refine z_me (zk_X2_takesLetter _ _) rfl (Nat.le_of_ble_eq_true rfl) rfl (fun ret hret => ?_)
  have hck : (nI h).toNatClampNeg = h := z_cl (by omega)
  have hix : nI h * 3 + nI s = nI (3 * h + s) := by rw [show (3 : Int32) = nI 3 from rfl, pk_mul, nI_add, Nat.mul_comm]
  have hin : vp_in (nI h * 3 + nI s) 24 := by rw [hix]; exact z_inN0 (by omega) (by omega)
  refine z_br (fun h1n => ?_) (fun h1j => ?_)
  · refine z_go ?_
    refine z_bf (by decide) ?_
    refine z_ca (z_cv 1 (c5_within _ _ _ _ _ (Nat.le_of_ble_eq_true rfl)) (zb_1 ⟨nI_pos' (by omega), (nI_le (a := s) (b := 2) hs (by omega))⟩)) ?_
    refine z_bf (by decide) ?_
    refine z_go ?_
    refine And.intro hin ?_
    refine And.intro (z_inN0 (by omega) (by omega)) ?_
    refine And.intro rfl (z_re hret rfl ?_)
    show va_up (va_up M 13 (upd (M 13) (nI h * 3 + nI s).toNatClampNeg _)) 12 (upd (M 12) (nI h).toNatClampNeg (nI s + 1)) = _
    rw [hck, hix, z_cl (by omega), nI_1]
    simp [pWh, h1n]
  · refine z_go ?_
    refine z_br (fun h2n => ?_) (fun h2j => ?_)
    · refine z_go ?_
      refine z_bf (by decide) ?_
      refine z_ca (z_cv 1 (c5_within _ _ _ _ _ (Nat.le_of_ble_eq_true rfl)) (zb_1 ⟨nI_pos' (by omega), (nI_le (a := s) (b := 2) hs (by omega))⟩)) ?_
      refine z_bf (by decide) ?_
      refine z_go ?_
      refine And.intro hin ?_
      refine And.intro (z_inN0 (by omega) (by omega)) ?_
      refine And.intro rfl (z_re hret rfl ?_)
      show va_up (va_up M 13 (upd (M 13) (nI h * 3 + nI s).toNatClampNeg _)) 12 (upd (M 12) (nI h).toNatClampNeg (nI s + 1)) = _
      rw [hck, hix, z_cl (by omega), nI_1]
      simp [pWh, h1j, h2n]
    · refine z_go ?_
      refine z_br (fun h3n => ?_) (fun h3j => ?_)
      · refine z_go ?_
        refine z_bf (by decide) ?_
        refine z_ca (z_cv 1 (c5_within _ _ _ _ _ (Nat.le_of_ble_eq_true rfl)) (zb_1 ⟨nI_pos' (by omega), (nI_le (a := s) (b := 2) hs (by omega))⟩)) ?_
        refine z_bf (by decide) ?_
        refine z_go ?_
        refine And.intro hin ?_
        refine And.intro (z_inN0 (by omega) (by omega)) ?_
        refine And.intro rfl (z_re hret rfl ?_)
        show va_up (va_up M 13 (upd (M 13) (nI h * 3 + nI s).toNatClampNeg _)) 12 (upd (M 12) (nI h).toNatClampNeg (nI s + 1)) = _
        rw [hck, hix, z_cl (by omega), nI_1]
        simp [pWh, h1j, h2j, h3n]
      · refine z_go ?_
        refine z_bt (by decide) ?_
        refine z_go ?_
        exact absurd (show pWh b = -1 by simp [pWh, h1j, h2j, h3j]) hb
theorem zb_le2 {s : Nat} (hs : s < 2147483648) : zb (0 ≤ nI s ∧ nI s ≤ 2) = zb (s ≤ 2) := by
  have e : (0 ≤ nI s ∧ nI s ≤ 2) ↔ s ≤ 2 := ⟨fun q => (nI_leI (by omega) (by omega)).mp (show nI s ≤ nI 2 from q.2), fun q => ⟨nI_pos' (by omega), nI_le (a := s) (b := 2) q (by omega)⟩⟩
  unfold zb
  by_cases h : s ≤ 2
  · rw [if_pos (e.mpr h), if_pos h]
  · rw [if_neg (fun z => h (e.mp z)), if_neg h]
set_option maxRecDepth 10000 in
set_option maxHeartbeats 1000000 in
theorem c2_tlno (n eb : Nat) (M : zM) (h s : Nat) (b : Int32) (hs : s < 2147483648) (hb : ¬ pL b ∨ ¬ s ≤ 2) : zMet zi_X2_takesLetter [.ref 8, .int (nI h), .int (nI s), .int b] (zLay n eb) M (zLay n eb) (zx (some (.int 0)) M) := by
  refine z_me (zk_X2_takesLetter _ _) rfl (Nat.le_of_ble_eq_true rfl) rfl (fun ret hret => ?_)
  refine z_br (fun h1n => ?_) (fun h1j => ?_)
  · refine z_go ?_
    refine z_bf (by decide) ?_
    refine z_ca (z_cv (zb (s ≤ 2)) (c5_within _ _ _ _ _ (Nat.le_of_ble_eq_true rfl)) (zb_le2 hs)) ?_
    refine z_br (fun h2n => ?_) (fun h2j => ?_)
    · exact And.intro rfl (z_re hret rfl rfl)
    · exfalso
      have hw : pL b := by unfold pL pWh; simp [h1n]
      rcases hb with q | q
      · exact q hw
      · exact h2j (zb_0 q)
  · refine z_go ?_
    refine z_br (fun h3n => ?_) (fun h3j => ?_)
    · refine z_go ?_
      refine z_bf (by decide) ?_
      refine z_ca (z_cv (zb (s ≤ 2)) (c5_within _ _ _ _ _ (Nat.le_of_ble_eq_true rfl)) (zb_le2 hs)) ?_
      refine z_br (fun h4n => ?_) (fun h4j => ?_)
      · exact And.intro rfl (z_re hret rfl rfl)
      · exfalso
        have hw : pL b := by unfold pL pWh; simp [h1j, h3n]
        rcases hb with q | q
        · exact q hw
        · exact h4j (zb_0 q)
    · refine z_go ?_
      refine z_br (fun h5n => ?_) (fun h5j => ?_)
      · refine z_go ?_
        refine z_bf (by decide) ?_
        refine z_ca (z_cv (zb (s ≤ 2)) (c5_within _ _ _ _ _ (Nat.le_of_ble_eq_true rfl)) (zb_le2 hs)) ?_
        refine z_br (fun h6n => ?_) (fun h6j => ?_)
        · exact And.intro rfl (z_re hret rfl rfl)
        · exfalso
          have hw : pL b := by unfold pL pWh; simp [h1j, h3j, h5n]
          rcases hb with q | q
          · exact q hw
          · exact h6j (zb_0 q)
      · refine z_go ?_
        refine z_bt (by decide) ?_
        refine z_go ?_
        exact And.intro rfl (z_re hret rfl rfl)
noncomputable def zbc (p : Prop) : Int32 := haveI := Classical.propDecidable p; if p then 1 else 0
theorem zbc_1 {p : Prop} (h : p) : zbc p = 1 := if_pos h
theorem zbc_0 {p : Prop} (h : ¬ p) : zbc p = 0 := if_neg h
theorem zbc_z {p : Prop} [Decidable p] : zb p = zbc p := by
  by_cases h : p
  · rw [zb_1 h, zbc_1 h]
  · rw [zb_0 h, zbc_0 h]
theorem zbc_nar (p : Prop) : narrow .boolean (.int (zbc p)) = .int (zbc p) := by
  by_cases h : p
  · rw [zbc_1 h]; rfl
  · rw [zbc_0 h]; rfl
theorem zbc_eq0 {p : Prop} : zbc p = 0 ↔ ¬ p := by
  by_cases h : p
  · rw [zbc_1 h]; simp [h]
  · rw [zbc_0 h]; simp [h]
set_option maxRecDepth 10000 in
set_option maxHeartbeats 1000000 in
theorem c2_tk0 (n eb : Nat) (M : zM) (h : Nat) (b : Int32) (hh : h < 8) : zMet zi_X2_takes [.ref 8, .int (nI h), .int (nI 0), .int b] (zLay n eb) M (zLay n eb) (zx (some (.int (zbc (pP h b)))) (va_up M 9 (upd (M 9) h (if b = 46 then -1 else b - 97)))) := by
  refine z_me (zk_X2_takes _ _) rfl (Nat.le_of_ble_eq_true rfl) rfl (fun ret hret => ?_)
  have hck : (nI h).toNatClampNeg = h := z_cl (by omega)
  refine z_ca (z_cv 1 (c5_within _ _ _ _ _ (Nat.le_of_ble_eq_true rfl)) (zb_1 ⟨nI_pos' (by omega), nI_le (a := h) (b := 7) (by omega) (by omega)⟩)) ?_
  refine z_bf (by decide) ?_
  refine z_go ?_
  refine z_swi (k := 0) (t := 40) rfl (by rfl) ?_
  refine z_go ?_
  refine z_br (fun h1n => ?_) (fun h1j => ?_)
  · refine z_go ?_
    refine And.intro (z_inN0 (by omega) (by omega)) ?_
    refine z_br (fun h2j => ?_) (fun h2n => ?_)
    · refine z_go ?_
      refine z_go ?_
      exact And.intro rfl (z_re hret (z_vi (zbc_1 (Or.inl h1n)).symm) (by rw [hck]; simp [h1n]))
    · refine z_ca (c5_within _ _ _ _ _ (Nat.le_of_ble_eq_true rfl)) ?_
      refine z_br (fun h3j => ?_) (fun h3n => ?_)
      · refine z_go ?_
        exact absurd h1n h2n
      · refine z_go ?_
        exact absurd h1n h2n
  · refine z_go ?_
    refine And.intro (z_inN0 (by omega) (by omega)) ?_
    refine z_br (fun h4j => ?_) (fun h4n => ?_)
    · refine z_go ?_
      refine z_go ?_
      exact absurd h4j h1j
    · refine z_ca (c5_within _ _ _ _ _ (Nat.le_of_ble_eq_true rfl)) ?_
      refine z_br (fun h5j => ?_) (fun h5n => ?_)
      · refine z_go ?_
        exact And.intro rfl (z_re hret (z_vi (zbc_0 (fun z => z.elim h1j (fun z => (zb_eq0.mp h5j) z))).symm) (by rw [hck]; simp [h1j]))
      · refine z_go ?_
        exact And.intro rfl (z_re hret (z_vi (zbc_1 (Or.inr (Classical.not_not.mp (fun z => h5n (zb_0 z))))).symm) (by rw [hck]; simp [h1j]))
set_option maxRecDepth 10000 in
set_option maxHeartbeats 1000000 in
theorem c2_tk1 (n eb : Nat) (M : zM) (h : Nat) (b : Int32) (hh : h < 8) : zMet zi_X2_takes [.ref 8, .int (nI h), .int (nI 1), .int b] (zLay n eb) M (zLay n eb) (zx (some (.int (zbc (pN b)))) (va_up M 10 (upd (M 10) h (b - 97)))) := by
  refine z_me (zk_X2_takes _ _) rfl (Nat.le_of_ble_eq_true rfl) rfl (fun ret hret => ?_)
  have hck : (nI h).toNatClampNeg = h := z_cl (by omega)
  refine z_ca (z_cv 1 (c5_within _ _ _ _ _ (Nat.le_of_ble_eq_true rfl)) (zb_1 ⟨nI_pos' (by omega), nI_le (a := h) (b := 7) (by omega) (by omega)⟩)) ?_
  refine z_bf (by decide) ?_
  refine z_go ?_
  refine z_swi (k := 1) (t := 86) rfl (by rfl) ?_
  refine z_go ?_
  refine And.intro (z_inN0 (by omega) (by omega)) ?_
  refine z_ca (c5_within _ _ _ _ _ (Nat.le_of_ble_eq_true rfl)) ?_
  exact And.intro (zb_nar _) (z_re hret (z_vi zbc_z) (by rw [hck]))
set_option maxRecDepth 10000 in
set_option maxHeartbeats 1000000 in
theorem c2_tk2 (n eb : Nat) (M : zM) (h : Nat) (b : Int32) (hh : h < 8) : zMet zi_X2_takes [.ref 8, .int (nI h), .int (nI 2), .int b] (zLay n eb) M (zLay n eb) (zx (some (.int (zbc (pW b)))) (va_up M 11 (upd (M 11) h (b - 48)))) := by
  refine z_me (zk_X2_takes _ _) rfl (Nat.le_of_ble_eq_true rfl) rfl (fun ret hret => ?_)
  have hck : (nI h).toNatClampNeg = h := z_cl (by omega)
  refine z_ca (z_cv 1 (c5_within _ _ _ _ _ (Nat.le_of_ble_eq_true rfl)) (zb_1 ⟨nI_pos' (by omega), nI_le (a := h) (b := 7) (by omega) (by omega)⟩)) ?_
  refine z_bf (by decide) ?_
  refine z_go ?_
  refine z_swi (k := 2) (t := 107) rfl (by rfl) ?_
  refine z_go ?_
  refine And.intro (z_inN0 (by omega) (by omega)) ?_
  refine z_ca (c5_within _ _ _ _ _ (Nat.le_of_ble_eq_true rfl)) ?_
  exact And.intro (zb_nar _) (z_re hret (z_vi zbc_z) (by rw [hck]))
set_option maxRecDepth 10000 in
set_option maxHeartbeats 1000000 in
theorem c2_tk3 (n eb : Nat) (M : zM) (h s : Nat) (b : Int32) (hh : h < 8) (hs : s ≤ 2) (hb : pL b) : zMet zi_X2_takes [.ref 8, .int (nI h), .int (nI (s + 3)), .int b] (zLay n eb) M (zLay n eb) (zx (some (.int 1)) (va_up (va_up M 13 (upd (M 13) (3 * h + s) (pWh b))) 12 (upd (M 12) h (nI (s + 1))))) := by
  refine z_me (zk_X2_takes _ _) rfl (Nat.le_of_ble_eq_true rfl) rfl (fun ret hret => ?_)
  have hsub : nI (s + 3) - 3 = nI s := by rw [show (3 : Int32) = nI 3 from rfl, pk_sub (by omega), Nat.add_sub_cancel]
  have hsw : (nI (s + 3)).toInt < 0 ∨ (0 : Int) + (([40, 86, 107] : List Nat).length : Int) ≤ (nI (s + 3)).toInt := by right; rw [nI_toInt (by omega)]; simp; omega
  refine z_ca (z_cv 1 (c5_within _ _ _ _ _ (Nat.le_of_ble_eq_true rfl)) (zb_1 ⟨nI_pos' (by omega), nI_le (a := h) (b := 7) (by omega) (by omega)⟩)) ?_
  refine z_bf (by decide) ?_
  refine z_go ?_
  refine z_swo hsw ?_
  refine z_go ?_
  refine z_ca ((by show zMet zi_X2_takesLetter [.ref 8, .int (nI h), .int (nI (s + 3) - 3), .int b] _ _ _ _; rw [hsub]; exact c2_tlok n eb M h s b hh hs hb)) ?_
  exact And.intro rfl (z_re hret rfl rfl)
set_option maxRecDepth 10000 in
set_option maxHeartbeats 1000000 in
theorem c2_tk3no (n eb : Nat) (M : zM) (h s : Nat) (b : Int32) (hh : h < 8) (hs : s < 100) (hb : ¬ pL b ∨ ¬ s ≤ 2) : zMet zi_X2_takes [.ref 8, .int (nI h), .int (nI (s + 3)), .int b] (zLay n eb) M (zLay n eb) (zx (some (.int 0)) M) := by
  refine z_me (zk_X2_takes _ _) rfl (Nat.le_of_ble_eq_true rfl) rfl (fun ret hret => ?_)
  have hsub : nI (s + 3) - 3 = nI s := by rw [show (3 : Int32) = nI 3 from rfl, pk_sub (by omega), Nat.add_sub_cancel]
  have hsw : (nI (s + 3)).toInt < 0 ∨ (0 : Int) + (([40, 86, 107] : List Nat).length : Int) ≤ (nI (s + 3)).toInt := by right; rw [nI_toInt (by omega)]; simp; omega
  refine z_ca (z_cv 1 (c5_within _ _ _ _ _ (Nat.le_of_ble_eq_true rfl)) (zb_1 ⟨nI_pos' (by omega), nI_le (a := h) (b := 7) (by omega) (by omega)⟩)) ?_
  refine z_bf (by decide) ?_
  refine z_go ?_
  refine z_swo hsw ?_
  refine z_go ?_
  refine z_ca ((by show zMet zi_X2_takesLetter [.ref 8, .int (nI h), .int (nI (s + 3) - 3), .int b] _ _ _ _; rw [hsub]; exact c2_tlno n eb M h s b (by omega) hb)) ?_
  exact And.intro rfl (z_re hret rfl rfl)
set_option maxRecDepth 10000 in
set_option maxHeartbeats 1000000 in
theorem c2_tk8 (n eb : Nat) (M : zM) (h : Nat) (p b : Int32) (hh : 8 ≤ h) (hh2 : h < 100) : zMet zi_X2_takes [.ref 8, .int (nI h), .int p, .int b] (zLay n eb) M (zLay n eb) (zx (some (.int 0)) M) := by
  refine z_me (zk_X2_takes _ _) rfl (Nat.le_of_ble_eq_true rfl) rfl (fun ret hret => ?_)
  refine z_ca (z_cv 0 (c5_within _ _ _ _ _ (Nat.le_of_ble_eq_true rfl)) (zb_0 (fun q => absurd ((nI_leI (by omega) (by omega)).mp (show nI h ≤ nI 7 from q.2)) (by omega)))) ?_
  refine z_bt (by decide) ?_
  exact And.intro rfl (z_re hret rfl rfl)

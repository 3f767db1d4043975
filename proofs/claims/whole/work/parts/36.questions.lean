/-! questions to a course -/
def bcF (x : Int32) : Int32 :=
  let a := x - ((x.toUInt32 >>> (Int32.toUInt32 1 &&& Int32.toUInt32 31)).toInt32 &&& 1431655765)
  let b := (a &&& 858993459) + ((a.toUInt32 >>> (Int32.toUInt32 2 &&& Int32.toUInt32 31)).toInt32 &&& 858993459)
  let c := (b + (b.toUInt32 >>> (Int32.toUInt32 4 &&& Int32.toUInt32 31)).toInt32) &&& 252645135
  let d := c + (c.toUInt32 >>> (Int32.toUInt32 8 &&& Int32.toUInt32 31)).toInt32
  let e := d + (d.toUInt32 >>> (Int32.toUInt32 16 &&& Int32.toUInt32 31)).toInt32
  e &&& 63
theorem bcF_pop : ∀ v, v < 256 → bcF (nI v) = nI (pop8 v) := by decide +kernel

set_option maxRecDepth 10000 in
set_option maxHeartbeats 1000000 in
theorem cJ_bitCount (x : Int32) (L : zL) (M : zM) (hL : 2 ≤ L.length) : zMet zi_J6_bitCount_0f7a4 [.int x] L M L (zx (some (.int (bcF x))) M) := by
  refine z_me (zk_J6_bitCount_0f7a4 _ _) rfl hL rfl (fun ret hret => ?_)
  exact hret
theorem cnt_cong {g g' : Nat → Bool} : ∀ n, (∀ j, j < n → g j = g' j) → cnt g n = cnt g' n
  | 0, _ => rfl
  | n + 1, h => by
    unfold cnt
    rw [cnt_cong n (fun j hj => h j (by omega)), h n (by omega)]
/-- the first so many that p holds of, or all -/
def fst40 (p : Nat → Prop) [DecidablePred p] : Int32 := if fa_first (fun h => decide (p h)) 40 < 40 then nI (fa_first (fun h => decide (p h)) 40) else -1
theorem fst_hit {p : Nat → Prop} [DecidablePred p] {i n : Nat} (h0 : ∀ j, j < i → ¬ p j) (hi : i < n) (h : p i) : fa_first (fun h => decide (p h)) n = i := by
  have hle := fa_first_le (fun h => decide (p h)) n
  rcases Nat.lt_or_ge (fa_first (fun h => decide (p h)) n) i with q | q
  · have := fa_first_yes (fun h => decide (p h)) n (by omega)
    exact absurd (of_decide_eq_true this) (h0 _ q)
  · rcases Nat.lt_or_ge i (fa_first (fun h => decide (p h)) n) with q2 | q2
    · have := fa_first_no (fun h => decide (p h)) n i q2
      exact absurd h (of_decide_eq_false this)
    · omega
theorem fst_no {p : Nat → Prop} [DecidablePred p] {n : Nat} (h0 : ∀ j, j < n → ¬ p j) : fa_first (fun h => decide (p h)) n = n := by
  have hle := fa_first_le (fun h => decide (p h)) n
  rcases Nat.lt_or_ge (fa_first (fun h => decide (p h)) n) n with q | q
  · have := fa_first_yes (fun h => decide (p h)) n q
    exact absurd (of_decide_eq_true this) (h0 _ q)
  · omega
def sm (f : Nat → Nat) : Nat → Nat
  | 0 => 0
  | k + 1 => sm f k + f k
theorem sm_cong {f g : Nat → Nat} : ∀ n, (∀ j, j < n → f j = g j) → sm f n = sm g n
  | 0, _ => rfl
  | n + 1, h => by
    unfold sm
    rw [sm_cong n (fun j hj => h j (by omega)), h n (by omega)]
theorem sm_add (f g : Nat → Nat) : ∀ n, sm (fun j => f j + g j) n = sm f n + sm g n
  | 0 => rfl
  | n + 1 => by
    unfold sm
    rw [sm_add f g n]
    omega
theorem sm_zero : ∀ n, sm (fun _ => 0) n = 0
  | 0 => rfl
  | n + 1 => by
    unfold sm
    rw [sm_zero n]
theorem sm_ite (g : Nat → Bool) : ∀ n, sm (fun j => if g j then 1 else 0) n = cnt g n
  | 0 => rfl
  | n + 1 => by
    unfold sm cnt
    rw [sm_ite g n]
theorem sm_swap (g : Nat → Nat → Bool) (N : Nat) : ∀ H, sm (fun h => cnt (g h) N) H = sm (fun k => cnt (fun h => g h k) H) N
  | 0 => (sm_zero N).symm
  | H + 1 => by
    have e : (fun k => cnt (fun h => g h k) (H + 1)) = fun k => cnt (fun h => g h k) H + (if g H k then 1 else 0) := rfl
    rw [e, sm_add, sm_ite, ← sm_swap g N H]
    rfl
theorem sm_le {f : Nat → Nat} {c : Nat} : ∀ n, (∀ j, j < n → f j ≤ c) → sm f n ≤ n * c
  | 0, _ => by simp [sm]
  | n + 1, h => by
    have := sm_le n (fun j hj => h j (by omega))
    have := h n (by omega)
    unfold sm
    rw [Nat.succ_mul]
    omega
set_option maxRecDepth 10000 in
set_option maxHeartbeats 1000000 in
theorem c0_gotBy21 (n eb : Nat) (M : zM) (h k : Nat) (hh : h < 40) (hk : k < 8) : zMet zi_X0_gotBy [.ref 21, .int (nI h), .int (nI k)] (zLay n eb) M (zLay n eb) (zx (some (.int (M 26 (8 * h + k)))) M) := by
  refine z_me (zk_X0_gotBy _ _) rfl (Nat.le_of_ble_eq_true rfl) rfl (fun ret hret => ?_)
  have hat : nI h * 8 + nI k = nI (8 * h + k) := by rw [show (8 : Int32) = nI 8 from rfl, pk_mul, nI_add, Nat.mul_comm]
  refine z_ca (z_cv 1 (c5_within _ _ _ _ _ (Nat.le_of_ble_eq_true rfl)) (zb_1 ⟨nI_pos' (by omega), nI_le (a := h) (b := 39) (by omega) (by omega)⟩)) ?_
  refine z_bf (by decide) ?_
  refine z_ca (z_cv 1 (c5_within _ _ _ _ _ (Nat.le_of_ble_eq_true rfl)) (zb_1 ⟨nI_pos' (by omega), nI_le (a := k) (b := 7) (by omega) (by omega)⟩)) ?_
  refine z_bf (by decide) ?_
  refine And.intro (by show vp_in (nI h * 8 + nI k) 320; rw [hat]; exact z_inN0 (by omega) (by omega)) ?_
  refine z_go ?_
  exact z_re hret (z_vi (by show M 26 (nI h * 8 + nI k).toNatClampNeg = _; rw [hat, z_cl (by omega)])) rfl
set_option maxRecDepth 10000 in
set_option maxHeartbeats 1000000 in
theorem c0_firstShort21 (n eb : Nat) (M : zM) (who : Int32) : zMet zi_X0_firstShort [.ref 21, .int who] (zLay n eb) M (zLay n eb) (zx (some (.int (fst40 (fun h => ¬ M 25 h &&& who = 0)))) M) := by
  refine z_me (zk_X0_firstShort _ _) rfl (Nat.le_of_ble_eq_true rfl) rfl (fun ret hret => ?_)
  have loop := z_l1 (P := zp_X0_firstShort) (ret := ret) (pc := 2) (L := zLay n eb) (N := 40) (lo := fun x => [some (.ref 21), some (.int who), some (.int x)]) (I := fun h x M' => M' = M ∧ x = nI h ∧ ∀ j, j < h → ¬ ¬ M 25 j &&& who = 0) (by
    rintro h x M' hh ⟨rfl, rfl, hno⟩ ih
    have hch : (nI h).toNatClampNeg = h := z_cl (by omega)
    refine z_go ?_
    refine z_bf (nI_ge (a := h) (b := 40) hh (by omega)) ?_
    refine And.intro (z_inN0 (by omega) (by omega)) ?_
    refine z_br (fun h1j => ?_) (fun h1n => ?_)
    · refine z_go ?_
      exact ih _ _ ⟨rfl, nI_1 h, fun j hj => by
        by_cases e : j = h
        · rw [e]; have z := h1j; simp only [hch] at z; exact fun q => q z
        · exact hno j (by omega)⟩
    · exact z_re hret (z_vi (by show nI h = _; rw [fst40, fst_hit hno (by omega) (show ¬ M' 25 h &&& who = 0 by have z := h1n; simp only [hch] at z; exact z), if_pos hh])) rfl) (by
    rintro x M' ⟨rfl, rfl, hno⟩
    refine z_go ?_
    refine z_bt (nI_le (a := 40) (b := 40) (Nat.le_refl _) (by omega)) ?_
    refine z_go ?_
    exact z_re hret (by rw [fst40, fst_no hno, if_neg (Nat.lt_irrefl _)]) rfl)
  exact loop 0 _ _ (Nat.zero_le _) ⟨rfl, rfl, fun j hj => absurd hj (Nat.not_lt_zero j)⟩
set_option maxRecDepth 10000 in
set_option maxHeartbeats 1000000 in
theorem c0_shortHours21 (n eb : Nat) (M : zM) (N k : Nat) (g : Nat → Nat → Bool) (hN : N ≤ 8) (hk : k < N) (hS : ∀ h, h < 40 → M 25 h = nI (bw (g h) N)) : zMet zi_X0_shortHours [.ref 21, .int (nI k)] (zLay n eb) M (zLay n eb) (zx (some (.int (nI (cnt (fun h => g h k) 40)))) M) := by
  refine z_me (zk_X0_shortHours _ _) rfl (Nat.le_of_ble_eq_true rfl) rfl (fun ret hret => ?_)
  have loop := z_l2 (P := zp_X0_shortHours) (ret := ret) (pc := 4) (L := zLay n eb) (N := 40) (lo := fun a x => [some (.ref 21), some (.int (nI k)), some (.int a), some (.int x)]) (I := fun h a x M' => M' = M ∧ a = nI (cnt (fun h => g h k) h) ∧ x = nI h) (by
    rintro h a x M' hh ⟨rfl, rfl, rfl⟩ ih
    have hch : (nI h).toNatClampNeg = h := z_cl (by omega)
    refine z_go ?_
    refine z_bf (nI_ge (a := h) (b := 40) hh (by omega)) ?_
    refine And.intro (z_inN0 (by omega) (by omega)) ?_
    exact ih _ _ _ ⟨rfl, by show nI (cnt _ h) + ((M' 25 (nI h).toNatClampNeg >>> (nI k &&& 31)) &&& 1) = _; rw [hch, hS h hh, bw_get (g h) hN (by omega), show cnt (fun h => g h k) (h + 1) = cnt (fun h => g h k) h + (if g h k then 1 else 0) from rfl]; by_cases q : g h k = true <;> simp [q, hk, nI_1], nI_1 h⟩) (by
    rintro a x M' ⟨rfl, rfl, rfl⟩
    refine z_go ?_
    refine z_bt (nI_le (a := 40) (b := 40) (Nat.le_refl _) (by omega)) ?_
    refine z_go ?_
    exact hret)
  exact loop 0 _ _ _ (Nat.zero_le _) ⟨rfl, rfl, rfl⟩
set_option maxRecDepth 10000 in
set_option maxHeartbeats 1000000 in
theorem c0_shortsInAll21 (n eb : Nat) (M : zM) (N : Nat) (g : Nat → Nat → Bool) (hN : N ≤ 8) (hS : ∀ h, h < 40 → M 25 h = nI (bw (g h) N)) : zMet zi_X0_shortsInAll [.ref 21] (zLay n eb) M (zLay n eb) (zx (some (.int (nI (sm (fun h => cnt (g h) N) 40)))) M) := by
  refine z_me (zk_X0_shortsInAll _ _) rfl (Nat.le_of_ble_eq_true rfl) rfl (fun ret hret => ?_)
  have loop := z_l2 (P := zp_X0_shortsInAll) (ret := ret) (pc := 4) (L := zLay n eb) (N := 40) (lo := fun a x => [some (.ref 21), some (.int a), some (.int x)]) (I := fun h a x M' => M' = M ∧ a = nI (sm (fun h => cnt (g h) N) h) ∧ x = nI h) (by
    rintro h a x M' hh ⟨rfl, rfl, rfl⟩ ih
    have hch : (nI h).toNatClampNeg = h := z_cl (by omega)
    refine z_go ?_
    refine z_bf (nI_ge (a := h) (b := 40) hh (by omega)) ?_
    refine And.intro (z_inN0 (by omega) (by omega)) ?_
    refine z_ca (z_cv (nI (cnt (g h) N)) (cJ_bitCount _ _ _ (Nat.le_of_ble_eq_true rfl)) (by rw [hch, hS h hh, bcF_pop _ (bw_lt256 (g h) hN), bw_pop (g h) hN])) ?_
    exact ih _ _ _ ⟨rfl, nI_add _ _, nI_1 h⟩) (by
    rintro a x M' ⟨rfl, rfl, rfl⟩
    refine z_go ?_
    refine z_bt (nI_le (a := 40) (b := 40) (Nat.le_refl _) (by omega)) ?_
    refine z_go ?_
    exact hret)
  exact loop 0 _ _ _ (Nat.zero_le _) ⟨rfl, rfl, rfl⟩
set_option maxRecDepth 10000 in
set_option maxHeartbeats 1000000 in
theorem c0_gotBy28 (n eb : Nat) (M : zM) (h k : Nat) (hh : h < 40) (hk : k < 8) : zMet zi_X0_gotBy [.ref 28, .int (nI h), .int (nI k)] (zLay n eb) M (zLay n eb) (zx (some (.int (M 33 (8 * h + k)))) M) := by
  refine z_me (zk_X0_gotBy _ _) rfl (Nat.le_of_ble_eq_true rfl) rfl (fun ret hret => ?_)
  have hat : nI h * 8 + nI k = nI (8 * h + k) := by rw [show (8 : Int32) = nI 8 from rfl, pk_mul, nI_add, Nat.mul_comm]
  refine z_ca (z_cv 1 (c5_within _ _ _ _ _ (Nat.le_of_ble_eq_true rfl)) (zb_1 ⟨nI_pos' (by omega), nI_le (a := h) (b := 39) (by omega) (by omega)⟩)) ?_
  refine z_bf (by decide) ?_
  refine z_ca (z_cv 1 (c5_within _ _ _ _ _ (Nat.le_of_ble_eq_true rfl)) (zb_1 ⟨nI_pos' (by omega), nI_le (a := k) (b := 7) (by omega) (by omega)⟩)) ?_
  refine z_bf (by decide) ?_
  refine And.intro (by show vp_in (nI h * 8 + nI k) 320; rw [hat]; exact z_inN0 (by omega) (by omega)) ?_
  refine z_go ?_
  exact z_re hret (z_vi (by show M 33 (nI h * 8 + nI k).toNatClampNeg = _; rw [hat, z_cl (by omega)])) rfl
set_option maxRecDepth 10000 in
set_option maxHeartbeats 1000000 in
theorem c0_firstShort28 (n eb : Nat) (M : zM) (who : Int32) : zMet zi_X0_firstShort [.ref 28, .int who] (zLay n eb) M (zLay n eb) (zx (some (.int (fst40 (fun h => ¬ M 32 h &&& who = 0)))) M) := by
  refine z_me (zk_X0_firstShort _ _) rfl (Nat.le_of_ble_eq_true rfl) rfl (fun ret hret => ?_)
  have loop := z_l1 (P := zp_X0_firstShort) (ret := ret) (pc := 2) (L := zLay n eb) (N := 40) (lo := fun x => [some (.ref 28), some (.int who), some (.int x)]) (I := fun h x M' => M' = M ∧ x = nI h ∧ ∀ j, j < h → ¬ ¬ M 32 j &&& who = 0) (by
    rintro h x M' hh ⟨rfl, rfl, hno⟩ ih
    have hch : (nI h).toNatClampNeg = h := z_cl (by omega)
    refine z_go ?_
    refine z_bf (nI_ge (a := h) (b := 40) hh (by omega)) ?_
    refine And.intro (z_inN0 (by omega) (by omega)) ?_
    refine z_br (fun h1j => ?_) (fun h1n => ?_)
    · refine z_go ?_
      exact ih _ _ ⟨rfl, nI_1 h, fun j hj => by
        by_cases e : j = h
        · rw [e]; have z := h1j; simp only [hch] at z; exact fun q => q z
        · exact hno j (by omega)⟩
    · exact z_re hret (z_vi (by show nI h = _; rw [fst40, fst_hit hno (by omega) (show ¬ M' 32 h &&& who = 0 by have z := h1n; simp only [hch] at z; exact z), if_pos hh])) rfl) (by
    rintro x M' ⟨rfl, rfl, hno⟩
    refine z_go ?_
    refine z_bt (nI_le (a := 40) (b := 40) (Nat.le_refl _) (by omega)) ?_
    refine z_go ?_
    exact z_re hret (by rw [fst40, fst_no hno, if_neg (Nat.lt_irrefl _)]) rfl)
  exact loop 0 _ _ (Nat.zero_le _) ⟨rfl, rfl, fun j hj => absurd hj (Nat.not_lt_zero j)⟩
set_option maxRecDepth 10000 in
set_option maxHeartbeats 1000000 in
theorem c0_shortHours28 (n eb : Nat) (M : zM) (N k : Nat) (g : Nat → Nat → Bool) (hN : N ≤ 8) (hk : k < N) (hS : ∀ h, h < 40 → M 32 h = nI (bw (g h) N)) : zMet zi_X0_shortHours [.ref 28, .int (nI k)] (zLay n eb) M (zLay n eb) (zx (some (.int (nI (cnt (fun h => g h k) 40)))) M) := by
  refine z_me (zk_X0_shortHours _ _) rfl (Nat.le_of_ble_eq_true rfl) rfl (fun ret hret => ?_)
  have loop := z_l2 (P := zp_X0_shortHours) (ret := ret) (pc := 4) (L := zLay n eb) (N := 40) (lo := fun a x => [some (.ref 28), some (.int (nI k)), some (.int a), some (.int x)]) (I := fun h a x M' => M' = M ∧ a = nI (cnt (fun h => g h k) h) ∧ x = nI h) (by
    rintro h a x M' hh ⟨rfl, rfl, rfl⟩ ih
    have hch : (nI h).toNatClampNeg = h := z_cl (by omega)
    refine z_go ?_
    refine z_bf (nI_ge (a := h) (b := 40) hh (by omega)) ?_
    refine And.intro (z_inN0 (by omega) (by omega)) ?_
    exact ih _ _ _ ⟨rfl, by show nI (cnt _ h) + ((M' 32 (nI h).toNatClampNeg >>> (nI k &&& 31)) &&& 1) = _; rw [hch, hS h hh, bw_get (g h) hN (by omega), show cnt (fun h => g h k) (h + 1) = cnt (fun h => g h k) h + (if g h k then 1 else 0) from rfl]; by_cases q : g h k = true <;> simp [q, hk, nI_1], nI_1 h⟩) (by
    rintro a x M' ⟨rfl, rfl, rfl⟩
    refine z_go ?_
    refine z_bt (nI_le (a := 40) (b := 40) (Nat.le_refl _) (by omega)) ?_
    refine z_go ?_
    exact hret)
  exact loop 0 _ _ _ (Nat.zero_le _) ⟨rfl, rfl, rfl⟩
set_option maxRecDepth 10000 in
set_option maxHeartbeats 1000000 in
theorem c0_shortsInAll28 (n eb : Nat) (M : zM) (N : Nat) (g : Nat → Nat → Bool) (hN : N ≤ 8) (hS : ∀ h, h < 40 → M 32 h = nI (bw (g h) N)) : zMet zi_X0_shortsInAll [.ref 28] (zLay n eb) M (zLay n eb) (zx (some (.int (nI (sm (fun h => cnt (g h) N) 40)))) M) := by
  refine z_me (zk_X0_shortsInAll _ _) rfl (Nat.le_of_ble_eq_true rfl) rfl (fun ret hret => ?_)
  have loop := z_l2 (P := zp_X0_shortsInAll) (ret := ret) (pc := 4) (L := zLay n eb) (N := 40) (lo := fun a x => [some (.ref 28), some (.int a), some (.int x)]) (I := fun h a x M' => M' = M ∧ a = nI (sm (fun h => cnt (g h) N) h) ∧ x = nI h) (by
    rintro h a x M' hh ⟨rfl, rfl, rfl⟩ ih
    have hch : (nI h).toNatClampNeg = h := z_cl (by omega)
    refine z_go ?_
    refine z_bf (nI_ge (a := h) (b := 40) hh (by omega)) ?_
    refine And.intro (z_inN0 (by omega) (by omega)) ?_
    refine z_ca (z_cv (nI (cnt (g h) N)) (cJ_bitCount _ _ _ (Nat.le_of_ble_eq_true rfl)) (by rw [hch, hS h hh, bcF_pop _ (bw_lt256 (g h) hN), bw_pop (g h) hN])) ?_
    exact ih _ _ _ ⟨rfl, nI_add _ _, nI_1 h⟩) (by
    rintro a x M' ⟨rfl, rfl, rfl⟩
    refine z_go ?_
    refine z_bt (nI_le (a := 40) (b := 40) (Nat.le_refl _) (by omega)) ?_
    refine z_go ?_
    exact hret)
  exact loop 0 _ _ _ (Nat.zero_le _) ⟨rfl, rfl, rfl⟩
set_option maxRecDepth 10000 in
set_option maxHeartbeats 1000000 in
theorem c6_shortOf (n eb : Nat) (M : zM) (N k : Nat) (g : Nat → Nat → Bool) (hN : N ≤ 8) (hk : k < N) (hS : ∀ h, h < 40 → M 65 h = nI (bw (g h) N)) : zMet zi_X6_shortOf [.ref 45, .int (nI k)] (zLay n eb) M (zLay n eb) (zx (some (.int (nI (cnt (fun h => g h k) 40)))) M) := by
  refine z_me (zk_X6_shortOf _ _) rfl (Nat.le_of_ble_eq_true rfl) rfl (fun ret hret => ?_)
  have loop := z_l2 (P := zp_X6_shortOf) (ret := ret) (pc := 4) (L := zLay n eb) (N := 40) (lo := fun a x => [some (.ref 45), some (.int (nI k)), some (.int a), some (.int x)]) (I := fun h a x M' => M' = M ∧ a = nI (cnt (fun h => g h k) h) ∧ x = nI h) (by
    rintro h a x M' hh ⟨rfl, rfl, rfl⟩ ih
    have hch : (nI h).toNatClampNeg = h := z_cl (by omega)
    refine z_go ?_
    refine z_bf (nI_ge (a := h) (b := 40) hh (by omega)) ?_
    refine And.intro (z_inN0 (by omega) (by omega)) ?_
    refine z_ca (c6_isIn _ _ _ _ (Nat.le_of_ble_eq_true rfl)) ?_
    refine z_br (fun h1j => ?_) (fun h1n => ?_)
    · refine z_go ?_
      have z := (show ¬ g h k = true from fun q => (zb_eq0.mp h1j) (by rw [hch, hS h hh, bw_get (g h) hN (by omega), if_pos ⟨hk, q⟩]))
      refine ih _ _ _ ⟨rfl, ?_, nI_1 h⟩
      show nI (cnt _ h) + 0 = _
      rw [Int32.add_zero, cnt, if_neg z, Nat.add_zero]
    · refine z_go ?_
      have z : g h k = true := by
        apply Classical.not_not.mp
        intro q
        refine h1n (show zb _ = 0 from zb_0 ?_)
        rw [hch, hS h hh, bw_get (g h) hN (by omega), if_neg (fun z => q z.2)]
        decide
      refine ih _ _ _ ⟨rfl, ?_, nI_1 h⟩
      show nI (cnt _ h) + 1 = _
      rw [nI_1, cnt, if_pos z]) (by
    rintro a x M' ⟨rfl, rfl, rfl⟩
    refine z_go ?_
    refine z_bt (nI_le (a := 40) (b := 40) (Nat.le_refl _) (by omega)) ?_
    refine z_go ?_
    exact hret)
  exact loop 0 _ _ _ (Nat.zero_le _) ⟨rfl, rfl, rfl⟩
set_option maxRecDepth 10000 in
set_option maxHeartbeats 1000000 in
theorem c6_shortAll (n eb : Nat) (M : zM) (N : Nat) (g : Nat → Nat → Bool) (hN : N ≤ 8) (hn : M 45 2 = nI N) (hS : ∀ h, h < 40 → M 65 h = nI (bw (g h) N)) : zMet zi_X6_shortAll [.ref 45] (zLay n eb) M (zLay n eb) (zx (some (.int (nI (sm (fun h => cnt (g h) N) 40)))) M) := by
  refine z_me (zk_X6_shortAll _ _) rfl (Nat.le_of_ble_eq_true rfl) rfl (fun ret hret => ?_)
  have loop := z_l2 (P := zp_X6_shortAll) (ret := ret) (pc := 4) (L := zLay n eb) (N := N) (lo := fun a x => [some (.ref 45), some (.int a), some (.int x)]) (I := fun k a x M' => M' = M ∧ a = nI (sm (fun k => cnt (fun h => g h k) 40) k) ∧ x = nI k) (by
    rintro k a x M' hk ⟨rfl, rfl, rfl⟩ ih
    refine z_go ?_
    refine z_bf (by show ¬ M' 45 2 ≤ nI k; rw [hn]; exact nI_ge hk (by omega)) ?_
    refine z_ca (c6_shortOf n eb _ N k g hN hk hS) ?_
    exact ih _ _ _ ⟨rfl, nI_add _ _, nI_1 k⟩) (by
    rintro a x M' ⟨rfl, rfl, rfl⟩
    refine z_go ?_
    refine z_bt (by show M' 45 2 ≤ nI N; rw [hn]; exact nI_le (Nat.le_refl _) (by omega)) ?_
    refine z_go ?_
    exact z_re hret (by rw [sm_swap]) rfl)
  exact loop 0 _ _ _ (Nat.zero_le _) ⟨rfl, rfl, rfl⟩

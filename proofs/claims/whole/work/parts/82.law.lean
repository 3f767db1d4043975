/-! the law: what stands between its calls -/
theorem wq_of {w w' : Rw} (h : wb2 w) (a0 : w'.1 0 0 = w.1 0 0) (a1 : w'.1 0 1 = w.1 0 1) (a2 : w'.1 0 2 = w.1 0 2) (e4 : w'.1 4 = w.1 4) (e2 : w'.2 2 ≤ w.2 2) : wb2 w' := by
  obtain ⟨h0, h1, h2, h3⟩ := h
  refine ⟨by rw [a0]; exact h0, by rw [a1]; exact h1, by rw [a2]; exact h2, fun i hi => ?_⟩
  rw [e4]
  exact h3 i (by omega)
theorem wb_type {w : Rw} {x y : Int32} (h : wb2 w) : wb2 (stType w x y).2 := by
  unfold stType
  (repeat' split) <;> first | exact h | exact wq_of h rfl rfl rfl rfl (Nat.le_refl _)
theorem wb_wipe {w : Rw} {x : Int32} (h : wb2 w) : wb2 (stWipe w x).2 := by
  unfold stWipe
  (repeat' split) <;> first | exact h | exact wq_of h rfl rfl rfl rfl (Nat.le_refl _)
theorem wb_undo {w : Rw} {x : Int32} (h : wb2 w) : wb2 (stUndo w x).2 := by
  unfold stUndo
  (repeat' split) <;> first | exact h | exact wq_of h rfl rfl rfl rfl (Nat.le_refl _)
theorem rgW {x c : Int32} (N : Nat) (hc : c = nI N) (hN : N < 1000) (h : 1 ≤ x ∧ x ≤ c) : ∃ k, k ≤ N ∧ x = nI k := rg N hc hN ⟨by
  have h1 := (fa_le 1 x).mp h.1
  have z1 : (1 : Int32).toInt = 1 := by decide
  have z0 : (0 : Int32).toInt = 0 := by decide
  exact (fa_le 0 x).mpr (by omega), h.2⟩
theorem wb_set {w : Rw} {x y : Int32} (h : wb2 w) : wb2 (stSet w x y).2 := by
  have h' := h
  obtain ⟨h0, h1, h2, h3⟩ := h
  unfold stSet
  by_cases c0 : x = 0
  · rw [if_pos c0]
    by_cases d : 0 ≤ y ∧ y ≤ 60
    · rw [if_pos d]; exact ⟨rg 60 rfl (by omega) d, h1, h2, h3⟩
    · rw [if_neg d]; exact h'
  · rw [if_neg c0]
    by_cases c1 : x = 1
    · rw [if_pos c1]
      by_cases d : 1 ≤ y ∧ y ≤ 99
      · rw [if_pos d]; exact ⟨h0, rgW 99 rfl (by omega) d, h2, h3⟩
      · rw [if_neg d]; exact h'
    · rw [if_neg c1]
      by_cases c2 : x = 2
      · rw [if_pos c2]
        by_cases d : 1 ≤ y ∧ y ≤ 9
        · rw [if_pos d]; exact ⟨h0, h1, rgW 9 rfl (by omega) d, h3⟩
        · rw [if_neg d]; exact h'
      · rw [if_neg c2]; exact h'
theorem wb_leak {w : Rw} {x y z : Int32} (h : wb2 w) : wb2 (stLeak w x y z).2 := by
  have h' := h
  obtain ⟨h0, h1, h2, h3⟩ := h
  unfold stLeak
  by_cases c0 : 0 ≤ x ∧ x ≤ 39
  · rw [if_pos c0]
    by_cases c1 : 1 ≤ y ∧ y ≤ 9
    · rw [if_pos c1]
      by_cases c2 : 0 ≤ z ∧ z ≤ 39
      · rw [if_pos c2]
        by_cases c3 : w.2 2 = 6
        · rw [if_pos c3]; exact h'
        · rw [if_neg c3]
          refine ⟨h0, h1, h2, fun i hi => ?_⟩
          have hi' : i < w.2 2 + 1 := hi
          show ∃ m, m ≤ 9 ∧ upd (w.1 4) (w.2 2) y i = nI m
          by_cases e : i = w.2 2
          · rw [e, upd_eq]; exact rgW 9 rfl (by omega) c1
          · rw [upd_ne e]; exact h3 i (by omega)
      · rw [if_neg c2]; exact h'
    · rw [if_neg c1]; exact h'
  · rw [if_neg c0]; exact h'
theorem wb_pinch {w : Rw} {x y : Int32} (h : wb2 w) : wb2 (stPinch w x y).2 := by
  unfold stPinch
  (repeat' split) <;> first | exact h | exact wq_of h rfl rfl rfl rfl (Nat.le_refl _)
theorem wb_back {w : Rw} {x : Int32} (h : wb2 w) : wb2 (stBack w x).2 := by
  unfold stBack
  (repeat' split) <;> first | exact h | exact wq_of h rfl rfl rfl rfl (Nat.le_refl _) | exact wq_of h rfl rfl rfl rfl (Nat.sub_le _ _)
theorem wb_sheet {w : Rw} {x f m : Int32} (h : wb2 w) : wb2 (stSheet w x f m).2 := by
  unfold stSheet
  (repeat' split) <;> first | exact h | exact wq_of h rfl rfl rfl rfl (Nat.le_refl _)
theorem wb_lose {w : Rw} {x : Int32} (h : wb2 w) : wb2 (stLose w x).2 := by
  unfold stLose
  (repeat' split) <;> first | exact h | exact wq_of h rfl rfl rfl rfl (Nat.le_refl _)
theorem wb_put {w : Rw} {x f i v : Int32} (h : wb2 w) : wb2 (stPut w x f i v).2 := by
  unfold stPut
  (repeat' split) <;> first | exact h | exact wq_of h rfl rfl rfl rfl (Nat.le_refl _)
theorem wb_get {w : Rw} {x f i : Int32} (h : wb2 w) : wb2 (stGet w x f i).2 := by
  unfold stGet
  (repeat' split) <;> first | exact h | exact wq_of h rfl rfl rfl rfl (Nat.le_refl _)
theorem wb_copy {w : Rw} {x i y j m : Int32} (h : wb2 w) : wb2 (stCopy w x i y j m).2 := by
  unfold stCopy
  (repeat' split) <;> first | exact h | exact wq_of h rfl rfl rfl rfl (Nat.le_refl _)
theorem wb_write {w : Rw} {x y : Int32} (h : wb2 w) : wb2 (stWrite w x y).2 := by
  unfold stWrite
  (repeat' split) <;> first | exact h | exact wq_of h rfl rfl rfl rfl (Nat.le_refl _)
theorem wq_rd {w : Rw} (h : wb2 w) (s : Nat) : ∀ c, wb2 (rdW w s c)
  | 0 => h
  | c + 1 => wb_pinch (wq_rd h s c)
theorem wb_read {w : Rw} {x : Int32} (h : wb2 w) : wb2 (stRead w x).2 := by
  unfold stRead
  by_cases c0 : 0 ≤ x ∧ x ≤ 3
  · rw [if_pos c0]
    by_cases c1 : w.1 11 x.toNatClampNeg = 0
    · rw [if_pos c1]; exact wq_of h rfl rfl rfl rfl (Nat.le_refl _)
    · rw [if_neg c1]; exact wq_rd h _ _
  · rw [if_neg c0]; exact h
theorem wb_seen {w : Rw} {x y z : Int32} (h : wb2 w) : wb2 (nSeen w x y z) := by
  unfold nSeen
  (repeat' split) <;> first | exact h | exact wq_of h rfl rfl rfl rfl (Nat.le_refl _)
theorem wb_forget {w : Rw} (h : wb2 w) : wb2 (nForget w) := wq_of h rfl rfl rfl rfl (Nat.le_refl _)
/-- between the calls: class and reference hold the same -/
def lwI (f0 f1 : Nat → Int32) (k : Nat) (x : Int32) (M : zM) : Prop := ∃ w, cI w M ∧ rC w M ∧ wb2 w ∧ M 0 = f0 ∧ M 1 = f1 ∧ x = nI (6 * k)
theorem lw_ix {k j n : Nat} (h : 6 * k + j < n) (hn : n ≤ 3072) : vp_in (nI (6 * k) + nI j) n := by
  rw [nI_add]
  exact z_inN0 h (by omega)
theorem lw_go {n k : Nat} (h : 6 * k + 6 ≤ n) (hn : n ≤ 3072) : ¬ Int32.ofNat n - 6 < nI (6 * k) := by
  show ¬ nI n - nI 6 < nI (6 * k)
  rw [pk_sub (by omega)]
  exact nI_nlt (by omega) (by omega)
theorem lw_ex {n k : Nat} (h : n < 6 * k + 6) (hk : 6 * k ≤ 3072) (hn : n ≤ 3072) : Int32.ofNat n - 6 < nI (6 * k) := by
  show nI n - nI 6 < nI (6 * k)
  rw [fa_lt, pk_sub_toInt (by omega) (by omega), nI_toInt (by omega)]
  omega

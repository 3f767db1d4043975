/-! loops, picks of a branch, ends -/
theorem z_bt {P A B : Prop} (h : P) (a : A) : (P → A) ∧ (¬ P → B) := ⟨fun _ => a, fun q => absurd h q⟩
theorem z_bf {P A B : Prop} (h : ¬ P) (b : B) : (P → A) ∧ (¬ P → B) := ⟨fun q => absurd q h, fun _ => b⟩
theorem z_vi {x y : Int32} (h : x = y) : some (Value.int x) = some (Value.int y) := by rw [h]
theorem z_vl {x y : Int64} (h : x = y) : some (Value.long x) = some (Value.long y) := by rw [h]
section
variable {P : List (Bool × Nat × zOp)} {ret : zR} {pc : Nat} {L : zL} {N : Nat}
theorem z_l1 {lo : Int32 → zO} {I : Nat → Int32 → zM → Prop} (hs : ∀ i x M, i < N → I i x M → (∀ x' M', I (i + 1) x' M' → z_E P ret pc (lo x') [] L M') → z_E P ret pc (lo x) [] L M) (he : ∀ x M, I N x M → z_E P ret pc (lo x) [] L M) : ∀ i x M, i ≤ N → I i x M → z_E P ret pc (lo x) [] L M := by
  have key : ∀ d i x M, i + d = N → I i x M → z_E P ret pc (lo x) [] L M := by
    intro d
    induction d with
    | zero => intro i x M e h; have : i = N := by omega
              subst this; exact he x M h
    | succ d ih => intro i x M e h; exact hs i x M (by omega) h (fun x' M' h' => ih (i + 1) x' M' (by omega) h')
  intro i x M hi h
  exact key (N - i) i x M (by omega) h
theorem z_l2 {lo : Int32 → Int32 → zO} {I : Nat → Int32 → Int32 → zM → Prop} (hs : ∀ i x y M, i < N → I i x y M → (∀ x' y' M', I (i + 1) x' y' M' → z_E P ret pc (lo x' y') [] L M') → z_E P ret pc (lo x y) [] L M) (he : ∀ x y M, I N x y M → z_E P ret pc (lo x y) [] L M) : ∀ i x y M, i ≤ N → I i x y M → z_E P ret pc (lo x y) [] L M := by
  have key : ∀ d i x y M, i + d = N → I i x y M → z_E P ret pc (lo x y) [] L M := by
    intro d
    induction d with
    | zero => intro i x y M e h; have : i = N := by omega
              subst this; exact he x y M h
    | succ d ih => intro i x y M e h; exact hs i x y M (by omega) h (fun x' y' M' h' => ih (i + 1) x' y' M' (by omega) h')
  intro i x y M hi h
  exact key (N - i) i x y M (by omega) h
theorem z_l3 {lo : Int32 → Int32 → Int32 → zO} {I : Nat → Int32 → Int32 → Int32 → zM → Prop} (hs : ∀ i x y z M, i < N → I i x y z M → (∀ x' y' z' M', I (i + 1) x' y' z' M' → z_E P ret pc (lo x' y' z') [] L M') → z_E P ret pc (lo x y z) [] L M) (he : ∀ x y z M, I N x y z M → z_E P ret pc (lo x y z) [] L M) : ∀ i x y z M, i ≤ N → I i x y z M → z_E P ret pc (lo x y z) [] L M := by
  have key : ∀ d i x y z M, i + d = N → I i x y z M → z_E P ret pc (lo x y z) [] L M := by
    intro d
    induction d with
    | zero => intro i x y z M e h; have : i = N := by omega
              subst this; exact he x y z M h
    | succ d ih => intro i x y z M e h; exact hs i x y z M (by omega) h (fun x' y' z' M' h' => ih (i + 1) x' y' z' M' (by omega) h')
  intro i x y z M hi h
  exact key (N - i) i x y z M (by omega) h
theorem z_lg {α : Type} {lo : α → zO} {I : Nat → α → zM → Prop} (hs : ∀ i x M, i < N → I i x M → (∀ x' M', I (i + 1) x' M' → z_E P ret pc (lo x') [] L M') → z_E P ret pc (lo x) [] L M) (he : ∀ x M, I N x M → z_E P ret pc (lo x) [] L M) : ∀ i x M, i ≤ N → I i x M → z_E P ret pc (lo x) [] L M := by
  have key : ∀ d i x M, i + d = N → I i x M → z_E P ret pc (lo x) [] L M := by
    intro d
    induction d with
    | zero => intro i x M e h; have : i = N := by omega
              subst this; exact he x M h
    | succ d ih => intro i x M e h; exact hs i x M (by omega) h (fun x' M' h' => ih (i + 1) x' M' (by omega) h')
  intro i x M hi h
  exact key (N - i) i x M (by omega) h
end
-- numbers
theorem z_le {a b : Nat} (ha : a < 2147483648) (hb : b < 2147483648) : ((OfNat.ofNat a : Int32) ≤ nI b) ↔ a ≤ b := by rw [fa_lit]; exact nI_leI (by omega) (by omega)
theorem z_inN0 {i n : Nat} (h : i < n) (hn : n < 2147483648) : vp_in (nI i) n := vp_in_nI h (by omega)
theorem z_cl {i : Nat} (h : i < 2147483648) : (nI i).toNatClampNeg = i := nI_clamp (by omega)
def zb (p : Prop) [Decidable p] : Int32 := if p then 1 else 0
theorem zb_nar (p : Prop) [Decidable p] : narrow .boolean (.int (zb p)) = .int (zb p) := by
  unfold zb
  split <;> rfl
theorem zb_1 {p : Prop} [Decidable p] (h : p) : zb p = 1 := if_pos h
theorem zb_0 {p : Prop} [Decidable p] (h : ¬ p) : zb p = 0 := if_neg h
theorem zb_eq0 {p : Prop} [Decidable p] : zb p = 0 ↔ ¬ p := by
  unfold zb
  split <;> simp_all
theorem z_uu {M : zM} {p : Nat} {f g : Nat → Int32} : va_up (va_up M p f) p g = va_up M p g := bx_uu M p f g
theorem z_us {M : zM} {p : Nat} {f : Nat → Int32} : va_up M p f p = f := va_up_self M p f
theorem z_un {M : zM} {p q : Nat} {f : Nat → Int32} (h : q ≠ p) : va_up M p f q = M q := va_up_ne M f h
theorem z_uid {M : zM} {p : Nat} : va_up M p (M p) = M := by
  funext q
  by_cases h : q = p
  · rw [h, z_us]
  · rw [z_un h]

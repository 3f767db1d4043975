/-! A SHADOW MACHINE: frames over a store of cells by their places; what its runs say, the machine does (rows s_..). -/
-- layout: an array (kind, length; kinds: 0 int, 1 boolean, 2 int and only read), or an object (class, fields: none = an int of the memory, some = a reference or null)
abbrev zL : Type := List ((Nat × Nat) ⊕ (Nat × List (Option Value)))
abbrev zM : Type := Nat → Nat → Int32
abbrev zO : Type := List (Option Value)
abbrev zN : Type := zO → List Value → zL → zM → Prop
abbrev zJ : Type := Nat → zN
abbrev zR : Type := Option Value → zL → zM → Prop
abbrev zOp : Type := zN → zJ → zR → zN
def z_v (ad : Nat → Nat) (v : Value) : Value := match v with
  | .ref p => .ref (ad p)
  | w => w
def z_f (ad : Nat → Nat) (f : Nat → Int32) (fs : List (Option Value)) : List Value := fs.mapIdx (fun k o => match o with
  | none => .int (f k)
  | some v => z_v ad v)
def z_e (ad : Nat → Nat) (cA : ClassId) (f : Nat → Int32) (c : (Nat × Nat) ⊕ (Nat × List (Option Value))) : va_E := match c with
  | .inl q => .inl (cA, q.2, .inl f)
  | .inr o => .inr (o.1, z_f ad f o.2)
def z_ws (ad : Nat → Nat) (cA : Nat → ClassId) (L : zL) (M : zM) : va_W := (L.drop 2).mapIdx (fun k c => (ad (k + 2), z_e ad (cA (k + 2)) (M (k + 2)) c))
def z_sz : zL → Nat
  | [] => 0
  | .inl q :: r => q.2 + z_sz r
  | .inr o :: r => o.2.length + z_sz r
def z_ty (k : Nat) : FieldType := match k with
  | 0 => .int
  | _ => .boolean
def z_Ar (s : State) (cA : Nat → ClassId) (L : zL) : Prop := ∀ (p k n : Nat), L[p]? = some (.inl (k, n)) → 2 ≤ p → k < 2 ∧ ArrOfT s (cA p) (z_ty k) ∧ va_RA s (cA p) (z_ty k)
def z_Fz (nS : Nat) (f0 f1 : Nat → Int32) (L : zL) (M : zM) : Prop := L[0]? = some (.inl (2, nS)) ∧ L[1]? = some (.inl (2, 4)) ∧ M 0 = f0 ∧ M 1 = f1
theorem z_warm {w : Cond} (hw : z_isN w = true) {s U : State} (hW : s.WarmedH U.vm) (h : va_Nw w s) : va_Nw w U := by
  cases w <;> first | (cases hw; done) | exact va_Nw.warmF hW h | exact va_Nw.warmM hW h
theorem z_good (w : Cond) (h : w ∈ z_Ts) : goodWord w = true := (List.mem_filter.mp h).2
/-- what a state gives to every method -/
def z_En (D : va_G) (A : Nat → Prop) (a0 a1 nS : Nat) (f0 f1 : Nat → Int32) (U : State) : Prop :=
  (∀ w ∈ z_Ns, va_Nw w U) ∧ va_K D vwCl [] U ∧ va_Z "TownBagpipes" "DIGEST_HOURS" "[I" (.ref a1) A U U.heap ∧ (va_X a0 nS f0 U U.heap ∧ a0 < U.heap.size ∧ ¬ A a0) ∧ (va_X a1 4 f1 U U.heap ∧ a1 < U.heap.size ∧ ¬ A a1) ∧ ∀ q, U.heap.size ≤ q → A q
def z_Pre (D : va_G) (ad : Nat → Nat) (cA : Nat → ClassId) (nS : Nat) (f0 f1 : Nat → Int32) (sz : Nat) (L : zL) (M : zM) (U : State) : Prop :=
  U.heap.size = sz ∧ va_P D vwCl (z_ws ad cA L M) U.heap ∧ va_D (fun _ => True) (z_ws ad cA L M) ∧ z_Ar U cA L ∧ z_Fz nS f0 f1 L M ∧ z_En D (va_A (z_ws ad cA L M) sz) (ad 0) (ad 1) nS f0 f1 U
def z_Post (D : va_G) (ad : Nat → Nat) (cA : Nat → ClassId) (nS : Nat) (f0 f1 : Nat → Int32) (sz : Nat) (L : zL) (M : zM) (L' : zL) (Q : Option Value → zM → Prop) (st : State) (oc : Outcome) (t : State) : Prop :=
  ∃ (v : Option Value) (M' : zM) (ad' : Nat → Nat) (cA' : Nat → ClassId), Q v M' ∧ oc = .returned (v.map (z_v ad')) ∧ (∀ p, p < L.length ∨ L'.length ≤ p → ad' p = ad p) ∧ va_P D vwCl (z_ws ad' cA' L' M') t.heap ∧ va_D (va_A (z_ws ad cA L M) sz) (z_ws ad' cA' L' M') ∧ z_Ar t cA' L' ∧ z_Fz nS f0 f1 L' M' ∧ va_F (va_A (z_ws ad cA L M) sz) st t
/-- a method's contract: from the store (L, M) it answers some v and leaves the store (L', M'), as Q says -/
def zMet (i : zI) (as : List Value) (L : zL) (M : zM) (L' : zL) (Q : Option Value → zM → Prop) : Prop :=
  L.length ≤ L'.length ∧ z_sz L ≤ z_sz L' ∧ ∀ (l : Launch) (D : va_G) (ad : Nat → Nat) (cA : Nat → ClassId) (nS : Nat) (f0 f1 : Nat → Int32) (sz : Nat),
    Met l i.1 (Cond.code i.1 i.2.1 i.2.2.1 i.2.2.2.1 :: z_Ts) { frames := i.2.2.2.2.1, cells := L'.length - L.length, slots := z_sz L' - z_sz L, locals := i.2.2.2.2.2 }
      (va_Pc (as.map (z_v ad)) (z_Pre D ad cA nS f0 f1 sz L M)) (fun _ st oc t => z_Post D ad cA nS f0 f1 sz L M L' Q st oc t) (L'.length - L.length) (z_sz L' - z_sz L) (va_A (z_ws ad cA L M) sz)
-- the operations
def z_n1 (lo : zO) (i : Nat) : Bool := match i with
  | 0 => true
  | k + 1 => match lo[k]? with
    | some (some (.long _)) => false
    | some (some (.double _)) => false
    | _ => true
def z_cat (st : List Value) : Nat := (st.map fun v => v.category).sum
def z_rok (n : Nat) (v : Value) : Bool := match v with
  | .ref p => Nat.blt p n
  | _ => true
def z_ook (n : Nat) (o : Option Value) : Bool := match o with
  | none => true
  | some v => z_rok n v
def z_cok (n : Nat) (c : (Nat × Nat) ⊕ (Nat × List (Option Value))) : Bool := match c with
  | .inl _ => true
  | .inr o => o.2.all (z_ook n)
def z_ok (lo : zO) (st : List Value) (L : zL) : Bool := lo.all (z_ook L.length) && (st.all (z_rok L.length) && L.all (z_cok L.length))
def z_len (L : zL) (p : Nat) : Option Nat := match L[p]? with
  | some (.inl q) => bif Nat.beq q.1 0 then some q.2 else bif Nat.blt p 2 then some q.2 else none
  | _ => none
def z_lenK (k : Nat) (L : zL) (p : Nat) : Option Nat := match L[p]? with
  | some (.inl q) => bif Nat.beq q.1 k then some q.2 else none
  | _ => none
def z_obj (L : zL) (p ci : Nat) : Option (List (Option Value)) := match L[p]? with
  | some (.inr o) => bif Nat.beq o.1 ci then some o.2 else none
  | _ => none
def z_fg : List Nat → zO → zO
  | [], lo => lo
  | k :: r, lo => z_fg r (lo.set k none)
/-- a loop's head: the locals that nobody reads any more are forgotten -/
def o_mark (t : Nat) (ks : List Nat) : zOp := fun _ jump _ lo st L M => jump t (z_fg ks lo) st L M
def o_gb (t : Nat) (ks : List Nat) : zOp := fun _ jump _ lo st L M => jump t (z_fg ks lo) st L M
def o_ic (x : Int32) : zOp := fun next _ _ lo st L M => next lo (.int x :: st) L M
def o_lc (x : Int64) : zOp := fun next _ _ lo st L M => next lo (.long x :: st) L M
def o_il (i : Nat) : zOp := fun next _ _ lo st L M => match lo[i]? with
  | some (some (.int x)) => next lo (.int x :: st) L M
  | _ => False
def o_ll (i : Nat) : zOp := fun next _ _ lo st L M => match lo[i]? with
  | some (some (.long x)) => next lo (.long x :: st) L M
  | _ => False
def o_al (i : Nat) : zOp := fun next _ _ lo st L M => match lo[i]? with
  | some (some (.ref x)) => next lo (.ref x :: st) L M
  | _ => False
def o_is (i : Nat) : zOp := fun next _ _ lo st L M => match st with
  | .int x :: r => bif z_n1 lo i && Nat.blt i lo.length then next (lo.set i (some (.int x))) r L M else False
  | _ => False
def o_ls (i : Nat) : zOp := fun next _ _ lo st L M => match st with
  | .long x :: r => bif z_n1 lo i && Nat.blt (i + 1) lo.length then next ((lo.set i (some (.long x))).set (i + 1) none) r L M else False
  | _ => False
def o_as (i : Nat) : zOp := fun next _ _ lo st L M => match st with
  | .ref x :: r => bif z_n1 lo i && Nat.blt i lo.length then next (lo.set i (some (.ref x))) r L M else False
  | _ => False
def o_inc (i : Nat) (v : Int32) : zOp := fun next _ _ lo st L M => match lo[i]? with
  | some (some (.int x)) => bif z_n1 lo i && Nat.blt i lo.length then next (lo.set i (some (.int (x + v)))) st L M else False
  | _ => False
def o_ii (f : Int32 → Int32 → Int32) : zOp := fun next _ _ lo st L M => match st with
  | .int y :: .int x :: r => next lo (.int (f x y) :: r) L M
  | _ => False
def o_iz (f : Int32 → Int32 → Int32) : zOp := fun next _ _ lo st L M => match st with
  | .int y :: .int x :: r => ¬ y = 0 ∧ next lo (.int (f x y) :: r) L M
  | _ => False
def o_jj (f : Int64 → Int64 → Int64) : zOp := fun next _ _ lo st L M => match st with
  | .long y :: .long x :: r => next lo (.long (f x y) :: r) L M
  | _ => False
def o_jz (f : Int64 → Int64 → Int64) : zOp := fun next _ _ lo st L M => match st with
  | .long y :: .long x :: r => ¬ y = 0 ∧ next lo (.long (f x y) :: r) L M
  | _ => False
def o_js (f : Int64 → Int32 → Int64) : zOp := fun next _ _ lo st L M => match st with
  | .int y :: .long x :: r => next lo (.long (f x y) :: r) L M
  | _ => False
def o_i1 (f : Int32 → Int32) : zOp := fun next _ _ lo st L M => match st with
  | .int x :: r => next lo (.int (f x) :: r) L M
  | _ => False
def o_i2l : zOp := fun next _ _ lo st L M => match st with
  | .int x :: r => next lo (.long x.toInt64 :: r) L M
  | _ => False
def o_l2i : zOp := fun next _ _ lo st L M => match st with
  | .long x :: r => next lo (.int x.toInt32 :: r) L M
  | _ => False
def o_jc (f : Int64 → Int64 → Int32) : zOp := fun next _ _ lo st L M => match st with
  | .long y :: .long x :: r => next lo (.int (f x y) :: r) L M
  | _ => False
def o_dup : zOp := fun next _ _ lo st L M => match st with
  | v :: r => bif Nat.beq v.category 1 then next lo (v :: v :: r) L M else False
  | _ => False
def o_dup2 : zOp := fun next _ _ lo st L M => match st with
  | v :: w :: r => bif Nat.beq v.category 1 && Nat.beq w.category 1 then next lo (v :: w :: v :: w :: r) L M else False
  | _ => False
def o_if (P : Int32 → Prop) (t : Nat) : zOp := fun next jump _ lo st L M => match st with
  | .int x :: r => (P x → jump t lo r L M) ∧ (¬ P x → next lo r L M)
  | _ => False
def o_cmp (P : Int32 → Int32 → Prop) (t : Nat) : zOp := fun next jump _ lo st L M => match st with
  | .int y :: .int x :: r => (P x y → jump t lo r L M) ∧ (¬ P x y → next lo r L M)
  | _ => False
def o_in (P : Int32 → Prop) (t : Nat) : zOp := fun next jump _ lo st L M => match st with
  | .int x :: r => (P x → next lo r L M) ∧ (¬ P x → jump t lo r L M)
  | _ => False
def o_cn (P : Int32 → Int32 → Prop) (t : Nat) : zOp := fun next jump _ lo st L M => match st with
  | .int y :: .int x :: r => (P x y → next lo r L M) ∧ (¬ P x y → jump t lo r L M)
  | _ => False
def o_go (t : Nat) : zOp := fun _ jump _ lo st L M => jump t lo st L M
def o_sw (lw : Int) (ts : List Nat) (d : Nat) : zOp := fun _ jump _ lo st L M => match st with
  | .int x :: r => (x.toInt < lw ∨ lw + ts.length ≤ x.toInt → jump d lo r L M) ∧ ∀ (k t : Nat), ts[k]? = some t → x.toInt = lw + k → jump t lo r L M
  | _ => False
def o_gf (ci k : Nat) : zOp := fun next _ _ lo st L M => match st with
  | .ref p :: r => match z_obj L p ci with
    | some fs => match fs[k]? with
      | some none => next lo (.int (M p k) :: r) L M
      | some (some v) => next lo (v :: r) L M
      | none => False
    | none => False
  | _ => False
def o_pi (ci k : Nat) : zOp := fun next _ _ lo st L M => match st with
  | .int x :: .ref p :: r => match z_obj L p ci with
    | some fs => match fs[k]? with
      | some none => next lo r L (va_up M p (upd (M p) k x))
      | _ => False
    | none => False
  | _ => False
def o_pz (ci k : Nat) : zOp := fun next _ _ lo st L M => match st with
  | .int x :: .ref p :: r => match z_obj L p ci with
    | some fs => match fs[k]? with
      | some none => (narrow .boolean (.int x) = .int x ∧ fits .boolean (.int x) = true) ∧ next lo r L (va_up M p (upd (M p) k x))
      | _ => False
    | none => False
  | _ => False
def o_pr (ci k : Nat) : zOp := fun next _ _ lo st L M => match st with
  | .ref q :: .ref p :: r => match z_obj L p ci with
    | some fs => match fs[k]? with
      | some (some _) => bif Nat.blt p 2 then False else next lo r (L.set p (.inr (ci, fs.set k (some (.ref q))))) M
      | _ => False
    | none => False
  | _ => False
def o_gs : zOp := fun next _ _ lo st L M => next lo (.ref 1 :: st) L M
def o_ia : zOp := fun next _ _ lo st L M => match st with
  | .int i :: .ref p :: r => match z_len L p with
    | some n => vp_in i n ∧ next lo (.int (M p i.toNatClampNeg) :: r) L M
    | none => False
  | _ => False
def o_ba : zOp := fun next _ _ lo st L M => match st with
  | .int i :: .ref p :: r => match z_lenK 1 L p with
    | some n => vp_in i n ∧ next lo (.int (M p i.toNatClampNeg) :: r) L M
    | none => False
  | _ => False
def o_iw : zOp := fun next _ _ lo st L M => match st with
  | .int x :: .int i :: .ref p :: r => match z_lenK 0 L p with
    | some n => vp_in i n ∧ next lo r L (va_up M p (upd (M p) i.toNatClampNeg x))
    | none => False
  | _ => False
def o_bw : zOp := fun next _ _ lo st L M => match st with
  | .int x :: .int i :: .ref p :: r => match z_lenK 1 L p with
    | some n => vp_in i n ∧ next lo r L (va_up M p (upd (M p) i.toNatClampNeg (vp_nar .boolean x)))
    | none => False
  | _ => False
def o_len : zOp := fun next _ _ lo st L M => match st with
  | .ref p :: r => match L[p]? with
    | some (.inl q) => next lo (.int (Int32.ofNat q.2) :: r) L M
    | _ => False
  | _ => False
def o_new (kc ks ci : Nat) (fs : List (Option Value)) : zOp := fun next _ _ lo st L M =>
  bif z_ok lo st L && (Nat.ble (L.length + 1) kc && Nat.ble (z_sz L + fs.length) ks) then next lo (.ref L.length :: st) (L ++ [.inr (ci, fs)]) (va_up M L.length (fun _ => 0)) else False
def o_na (kc ks k : Nat) : zOp := fun next _ _ lo st L M => match st with
  | .int x :: r => bif z_ok lo r L && (decide (¬ x < 0) && (Nat.ble x.toNatClampNeg 10000 && (Nat.ble (L.length + 1) kc && Nat.ble (z_sz L + x.toNatClampNeg) ks))) then next lo (.ref L.length :: r) (L ++ [.inl (k, x.toNatClampNeg)]) (va_up M L.length (fun _ => 0)) else False
  | _ => False
/-- a call that makes nothing: n arguments, the receiver (if there is one) among them, of the class ci -/
def o_cv (i : zI) (n ci : Nat) : zOp := fun next _ _ lo st L M => match st.drop n with
  | .ref b :: r => match z_obj L b ci with
    | some _ => bif Nat.ble (z_cat r) 8 then ∃ Q, zMet i (.ref b :: (st.take n).reverse) L M L Q ∧ ∀ v M', Q v M' → next lo (v.toList ++ r) L M' else False
    | none => False
  | _ => False
def o_cs (i : zI) (n : Nat) : zOp := fun next _ _ lo st L M =>
  bif Nat.ble n st.length && Nat.ble (z_cat (st.drop n)) 8 then ∃ Q, zMet i (st.take n).reverse L M L Q ∧ ∀ v M', Q v M' → next lo (v.toList ++ st.drop n) L M' else False
/-- a constructor -/
def o_ci (kc ks : Nat) (i : zI) (n : Nat) : zOp := fun next _ _ lo st L M => match st.drop n with
  | .ref b :: r => bif z_ok lo r L && Nat.ble (z_cat r) 8 then ∃ L' Q, zMet i (.ref b :: (st.take n).reverse) L M L' Q ∧ (L'.length ≤ kc ∧ z_sz L' ≤ ks) ∧ ∀ v M', Q v M' → v = none ∧ next lo r L' M' else False
  | _ => False
def o_oi (lc : Nat) : zOp := fun next _ _ lo st L M => match st with
  | .ref _ :: r => bif Nat.ble (z_cat r + 12) lc then next lo r L M else False
  | _ => False
def o_mi (lc : Nat) (f : Int32 → Int32 → Int32) : zOp := fun next _ _ lo st L M => match st with
  | .int y :: .int x :: r => bif Nat.ble (z_cat r + 13) lc then next lo (.int (f x y) :: r) L M else False
  | _ => False
def o_cp (lc : Nat) : zOp := fun next _ _ lo st L M => match st with
  | .int n :: .int dp :: .ref q :: .int sp :: .ref p :: r => match z_lenK 0 L p with
    | some n0 => match z_lenK 0 L q with
      | some n1 => bif Nat.ble (z_cat r + (nativeFrameWords "java/lang/System" "arraycopy" 5 + 11)) lc then
          (¬ sp < 0 ∧ ¬ dp < 0 ∧ ¬ n < 0 ∧ sp.toNatClampNeg + n.toNatClampNeg ≤ n0 ∧ dp.toNatClampNeg + n.toNatClampNeg ≤ n1) ∧ next lo r L (va_up M q (va_cpy (M p) (M q) sp.toNatClampNeg dp.toNatClampNeg n.toNatClampNeg)) else False
      | none => False
    | none => False
  | _ => False
def o_ir : zOp := fun _ _ ret _ st L M => match st with
  | [.int x] => ret (some (.int x)) L M
  | _ => False
def o_zr : zOp := fun _ _ ret _ st L M => match st with
  | [.int x] => narrow .boolean (.int x) = .int x ∧ ret (some (.int x)) L M
  | _ => False
def o_lr : zOp := fun _ _ ret _ st L M => match st with
  | [.long x] => ret (some (.long x)) L M
  | _ => False
def o_ar : zOp := fun _ _ ret _ st L M => match st with
  | [.ref x] => ret (some (.ref x)) L M
  | _ => False
def o_vr : zOp := fun _ _ ret _ st L M => match st with
  | [] => ret none L M
  | _ => False

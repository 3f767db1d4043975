/-! bits of who is short; the hours depend on what is told alone -/
def bw (g : Nat → Bool) : Nat → Nat
  | 0 => 0
  | k + 1 => bw g k + (if g k then 2 ^ k else 0)
theorem bw_lt (g : Nat → Bool) : ∀ k, bw g k < 2 ^ k
  | 0 => Nat.one_pos
  | k + 1 => by
    have := bw_lt g k
    unfold bw
    rw [Nat.pow_succ]
    split <;> omega
theorem bw_lt256 (g : Nat → Bool) {n : Nat} (h : n ≤ 8) : bw g n < 256 := Nat.lt_of_lt_of_le (bw_lt g n) (Nat.pow_le_pow_right (by decide) h : 2 ^ n ≤ 2 ^ 8)
theorem bw_shl : ∀ k, k < 8 → (1 : Int32) <<< (nI k &&& 31) = nI (2 ^ k) := by decide
theorem bw_or {a k : Nat} (hk : k < 8) (ha : a < 2 ^ k) : nI a ||| nI (2 ^ k) = nI (a + 2 ^ k) := by
  have := fa_or_sum (a := a) (k := k) 1 ha
  rw [Nat.mul_one] at this
  rw [fa_or, Nat.or_comm, ← fa_or, this, Nat.add_comm]
theorem bw_step (g : Nat → Bool) {k : Nat} (hk : k < 8) : nI (bw g k) ||| (if g k = true then 1 <<< (nI k &&& 31) else 0) = nI (bw g (k + 1)) := by
  rw [show bw g (k + 1) = bw g k + (if g k then 2 ^ k else 0) from rfl]
  by_cases h : g k = true
  · rw [if_pos h, if_pos h, bw_shl k hk, bw_or hk (bw_lt g k)]
  · rw [if_neg h, if_neg h, Int32.or_zero, Nat.add_zero]
theorem bw_bit (g : Nat → Bool) : ∀ n k, bw g n / 2 ^ k % 2 = if k < n ∧ g k = true then 1 else 0
  | 0, k => by simp [bw]
  | n + 1, k => by
    have hlt := bw_lt g n
    unfold bw
    by_cases hk : k < n
    · have ih := bw_bit g n k
      have e : (bw g n + if g n = true then 2 ^ n else 0) / 2 ^ k % 2 = bw g n / 2 ^ k % 2 := by
        split
        · rw [show 2 ^ n = 2 ^ k * (2 * 2 ^ (n - k - 1)) by rw [← Nat.mul_assoc, ← Nat.pow_succ, ← Nat.pow_add]; congr 1; omega, Nat.add_mul_div_left _ _ (Nat.two_pow_pos k), Nat.add_mul_mod_self_left]
        · rfl
      rw [e, ih]
      have : (k < n + 1) = True := by simp; omega
      simp [hk, this]
    · by_cases hk2 : k = n
      · subst hk2
        by_cases hg : g k = true
        · rw [if_pos hg, if_pos ⟨by omega, hg⟩, Nat.add_div_right _ (Nat.two_pow_pos k), Nat.div_eq_of_lt hlt]
        · rw [if_neg hg, if_neg (fun z => hg z.2), Nat.add_zero, Nat.div_eq_of_lt hlt]
      · have hb : (bw g n + if g n = true then 2 ^ n else 0) < 2 ^ k := by
          have h1 : (bw g n + if g n = true then 2 ^ n else 0) < 2 ^ (n + 1) := bw_lt g (n + 1)
          exact Nat.lt_of_lt_of_le h1 (Nat.pow_le_pow_right (by decide) (by omega))
        rw [Nat.div_eq_of_lt hb, if_neg (by omega)]
theorem bit_dec : ∀ k, k < 8 → ∀ v, v < 256 → (nI v >>> (nI k &&& 31)) &&& 1 = nI (v / 2 ^ k % 2) := by decide +kernel
theorem bw_get (g : Nat → Bool) {n k : Nat} (hn : n ≤ 8) (hk : k < 8) : (nI (bw g n) >>> (nI k &&& 31)) &&& 1 = if k < n ∧ g k = true then 1 else 0 := by
  rw [bit_dec k hk _ (bw_lt256 g hn), bw_bit]
  split <;> rfl
def pop8 (v : Nat) : Nat := v / 2 ^ 0 % 2 + v / 2 ^ 1 % 2 + v / 2 ^ 2 % 2 + v / 2 ^ 3 % 2 + v / 2 ^ 4 % 2 + v / 2 ^ 5 % 2 + v / 2 ^ 6 % 2 + v / 2 ^ 7 % 2
/-- how many of the first n -/
def cnt (g : Nat → Bool) : Nat → Nat
  | 0 => 0
  | k + 1 => cnt g k + (if g k then 1 else 0)
theorem cnt_le (g : Nat → Bool) : ∀ n, cnt g n ≤ n
  | 0 => Nat.le_refl _
  | n + 1 => by
    have := cnt_le g n
    unfold cnt
    split <;> omega
theorem bw_pop (g : Nat → Bool) {n : Nat} (hn : n ≤ 8) : pop8 (bw g n) = cnt g n := by
  unfold pop8
  simp only [bw_bit]
  rcases (by omega : n = 0 ∨ n = 1 ∨ n = 2 ∨ n = 3 ∨ n = 4 ∨ n = 5 ∨ n = 6 ∨ n = 7 ∨ n = 8) with e | e | e | e | e | e | e | e | e <;> subst e <;> simp [cnt]
-- the hours depend only on what is told of the houses that are there
theorem mCh_cong {n : Nat} {on on' : Nat → Int32} (h : mOn n on) (e : ∀ j, j < n → on j = on' j) : ∀ (f : Nat) (p : Int32), (p < 0 ∨ ∃ i, i < n ∧ p = nI i) → n ≤ 8 → mCh on f p = mCh on' f p
  | 0, _, _, _ => rfl
  | f + 1, p, hp, hn => by
    unfold mCh
    by_cases h0 : p < 0
    · rw [if_pos h0, if_pos h0]
    · rw [if_neg h0, if_neg h0]
      rcases hp with hp | ⟨i, hi, rfl⟩
      · exact absurd hp h0
      · rw [nI_clamp (by omega), ← e i hi]
        congr 1
        refine mCh_cong h e f _ ?_ hn
        rcases h i hi with q | ⟨k, hk, q⟩
        · left; rw [q]; decide
        · right; exact ⟨k, by omega, q⟩
theorem mHs_cong {n : Nat} {on on' nt nt' nd nd' l0 l0' : Nat → Int32} {r0 : Int32} (hn : n ≤ 8) (h : mOn n on) (e1 : ∀ j, j < n → on j = on' j) (e2 : ∀ j, j < n → nt j = nt' j) (e3 : ∀ j, j < n → nd j = nd' j) (e4 : ∀ j, j < n → l0 j = l0' j) :
    ∀ k, k ≤ n → (mHs on nt nd r0 l0 k).1 = (mHs on' nt' nd' r0 l0' k).1 ∧ (∀ j, j < n → (mHs on nt nd r0 l0 k).2.1 j = (mHs on' nt' nd' r0 l0' k).2.1 j) ∧ (mHs on nt nd r0 l0 k).2.2 = (mHs on' nt' nd' r0 l0' k).2.2
  | 0, _ => ⟨rfl, e4, rfl⟩
  | k + 1, hk => by
    obtain ⟨i1, i2, i3⟩ := mHs_cong hn h e1 e2 e3 e4 k (by omega) (r0 := r0)
    have hc := mCh_cong h e1 8 (nI k) (Or.inr ⟨k, by omega, rfl⟩) hn
    have hin := mCh_in h 8 (nI k) (Or.inr ⟨k, by omega, rfl⟩) hn
    have hb : mMin (mHs on nt nd r0 l0 k).2.1 (mCh on 8 (nI k)) (if (mHs on nt nd r0 l0 k).1 < nd k then (mHs on nt nd r0 l0 k).1 else nd k) = mMin (mHs on' nt' nd' r0 l0' k).2.1 (mCh on' 8 (nI k)) (if (mHs on' nt' nd' r0 l0' k).1 < nd' k then (mHs on' nt' nd' r0 l0' k).1 else nd' k) := by
      rw [← hc, ← i1, ← e3 k (by omega)]
      exact mMin_cong i2 _ _ hin
    unfold mHs
    simp only
    rw [hb, i1, i3, e2 k (by omega), e3 k (by omega)]
    refine ⟨rfl, fun j hj => ?_, rfl⟩
    rw [← hc]
    exact mSub_cong _ _ _ _ i2 hin j hj
theorem mRest_cong {n : Nat} {on on' nt nt' : Nat → Int32} {nd nd' op op' : Nat → Nat → Int32} {lk lk' el el' : Nat → Int32} {st room lift : Int32} (hn : n ≤ 8) (h : mOn n on) (e1 : ∀ j, j < n → on j = on' j) (e2 : ∀ j, j < n → nt j = nt' j) (e3 : ∀ t, t < 40 → ∀ j, j < n → nd t j = nd' t j) (e4 : ∀ t, t < 40 → ∀ j, j < n → op t j = op' t j) (e5 : ∀ t, t < 40 → lk t = lk' t) (e6 : ∀ t, t < 40 → el t = el' t) :
    ∀ t, t ≤ 40 → mRest n on nt nd op lk el st room lift t = mRest n on' nt' nd' op' lk' el' st room lift t
  | 0, _ => rfl
  | t + 1, ht => by
    have ih := mRest_cong hn h e1 e2 e3 e4 e5 e6 t (by omega) (st := st) (room := room) (lift := lift)
    unfold mRest
    simp only
    rw [ih, e5 t (by omega), e6 t (by omega)]
    exact (mHs_cong hn h e1 e2 (e3 t (by omega)) (e4 t (by omega)) n (Nat.le_refl _)).1
theorem mHour_cong {n : Nat} {on on' nt nt' : Nat → Int32} {nd nd' op op' : Nat → Nat → Int32} {lk lk' el el' : Nat → Int32} {st room lift : Int32} (hn : n ≤ 8) (h : mOn n on) (e1 : ∀ j, j < n → on j = on' j) (e2 : ∀ j, j < n → nt j = nt' j) (e3 : ∀ t, t < 40 → ∀ j, j < n → nd t j = nd' t j) (e4 : ∀ t, t < 40 → ∀ j, j < n → op t j = op' t j) (e5 : ∀ t, t < 40 → lk t = lk' t) (e6 : ∀ t, t < 40 → el t = el' t)
    {t : Nat} (ht : t < 40) : mHour n on nt nd op lk el st room lift t = mHour n on' nt' nd' op' lk' el' st room lift t := by
  have ih := mRest_cong hn h e1 e2 e3 e4 e5 e6 t (by omega) (st := st) (room := room) (lift := lift)
  unfold mHour
  simp only
  rw [ih, e5 t ht, e6 t ht]
  obtain ⟨i1, -, i3⟩ := mHs_cong hn h e1 e2 (e3 t ht) (e4 t ht) n (Nat.le_refl _) (r0 := mFull room lift (mRest n on' nt' nd' op' lk' el' st room lift t) (el' t) - mLost (mFull room lift (mRest n on' nt' nd' op' lk' el' st room lift t) (el' t)) (lk' t))
  rw [i1, i3]
/-- who is short, as bits -/
theorem mHs_short (on nt nd : Nat → Int32) (r0 : Int32) (l0 : Nat → Int32) : ∀ k, k ≤ 8 → (mHs on nt nd r0 l0 k).2.2.2.1 = nI (bw (fun j => decide ((mHs on nt nd r0 l0 (j + 1)).2.2.2.2 j < nd j)) k)
  | 0, _ => rfl
  | k + 1, hk => by
    have ih := mHs_short on nt nd r0 l0 k (by omega)
    rw [← bw_step _ (by omega), ← ih]
    have e : (mHs on nt nd r0 l0 (k + 1)).2.2.2.2 k = mMin (mHs on nt nd r0 l0 k).2.1 (mCh on 8 (nI k)) (if (mHs on nt nd r0 l0 k).1 < nd k then (mHs on nt nd r0 l0 k).1 else nd k) := by
      show upd _ k _ k = _
      simp [upd]
    simp only [e]
    show _ ||| _ = _ ||| _
    congr 1
    by_cases q : mMin (mHs on nt nd r0 l0 k).2.1 (mCh on 8 (nI k)) (if (mHs on nt nd r0 l0 k).1 < nd k then (mHs on nt nd r0 l0 k).1 else nd k) < nd k
    · rw [if_pos q, if_pos (decide_eq_true q)]
    · rw [if_neg q, if_neg (by simp [q])]
theorem mHs_got (on nt nd : Nat → Int32) (r0 : Int32) (l0 : Nat → Int32) {j : Nat} : ∀ k, j < k → (mHs on nt nd r0 l0 k).2.2.2.2 j = (mHs on nt nd r0 l0 (j + 1)).2.2.2.2 j
  | 0, h => absurd h (Nat.not_lt_zero _)
  | k + 1, h => by
    by_cases e : j = k
    · rw [e]
    · rw [← mHs_got on nt nd r0 l0 k (by omega)]
      show upd _ k _ j = _
      simp [upd, e]
theorem bw_cong {g g' : Nat → Bool} : ∀ n, (∀ j, j < n → g j = g' j) → bw g n = bw g' n
  | 0, _ => rfl
  | n + 1, h => by
    unfold bw
    rw [bw_cong n (fun j hj => h j (by omega)), h n (by omega)]
theorem mHour_short (n : Nat) (hn : n ≤ 8) (on nt : Nat → Int32) (nd op : Nat → Nat → Int32) (lk el : Nat → Int32) (st room lift : Int32) (h : Nat) : (mHour n on nt nd op lk el st room lift h).2.2.2.1 = nI (bw (fun j => decide ((mHour n on nt nd op lk el st room lift h).2.2.2.2 j < nd h j)) n) := by
  unfold mHour
  simp only
  rw [mHs_short _ _ _ _ _ n hn]
  congr 1
  refine bw_cong n (fun j hj => ?_)
  rw [mHs_got _ _ _ _ _ n hj]

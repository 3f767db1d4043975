/-! the town as numbers: leaks, openings, chains of pipes, an hour, the hours -/
/-- what leaks in the hour h, by the first k leaks -/
def mLk (th : Nat → Bool) (fr mu pa : Nat → Int32) (h : Int32) : Nat → Int32
  | 0 => 0
  | k + 1 => mLk th fr mu pa h k + (if (¬ h < fr k ∧ (pa k ≤ fr k ∨ ¬ pa k ≤ h)) ∧ th k = true then mu k else 0)
/-- is the house j pinched in the hour h, by the first k pinches -/
def mPn (th : Nat → Bool) (ph pq : Nat → Int32) (h : Int32) (j : Nat) : Nat → Bool
  | 0 => false
  | k + 1 => mPn th ph pq h j k || (decide (ph k = h) && (th k && decide (pq k = nI j)))
/-- the pipes from p on, at most so many -/
def mCh (on : Nat → Int32) : Nat → Int32 → List Nat
  | 0, _ => []
  | f + 1, p => if p < 0 then [] else p.toNatClampNeg :: mCh on f (on p.toNatClampNeg)
def mMin (l : Nat → Int32) : List Nat → Int32 → Int32
  | [], w => w
  | j :: r, w => mMin l r (if l j < w then l j else w)
def mSub (b : Int32) : List Nat → (Nat → Int32) → (Nat → Int32)
  | [], l => l
  | j :: r, l => mSub b r (upd l j (l j - b))
/-- each of the n houses is on the bag's own pipe, or on that of an earlier one -/
def mOn (n : Nat) (on : Nat → Int32) : Prop := ∀ j, j < n → on j = -1 ∨ ∃ i, i < j ∧ on j = nI i
/-- an hour, behind the first k houses: the rest of the air, what each pipe still brings, the chord, who is short, who has how much -/
def mHs (on nt nd : Nat → Int32) (r0 : Int32) (l0 : Nat → Int32) : Nat → Int32 × (Nat → Int32) × Int32 × Int32 × (Nat → Int32)
  | 0 => (r0, l0, 0, 0, fun _ => 0)
  | k + 1 =>
    let q := mHs on nt nd r0 l0 k
    let c := mCh on 8 (nI k)
    let b := mMin q.2.1 c (if q.1 < nd k then q.1 else nd k)
    (q.1 - b, mSub b c q.2.1, q.2.2.1 ||| (if 0 < b then 1 <<< (nt k &&& 31) else 0), q.2.2.2.1 ||| (if b < nd k then 1 <<< (nI k &&& 31) else 0), upd q.2.2.2.2 k b)
/-- the air as the hour h begins, and what the hour brings -/
def mFull (room lift rest e : Int32) : Int32 := if rest + lift * e < room then rest + lift * e else room
def mLost (full lk : Int32) : Int32 := if lk < full then lk else full
def mRest (n : Nat) (on nt : Nat → Int32) (nd op : Nat → Nat → Int32) (lk el : Nat → Int32) (st room lift : Int32) : Nat → Int32
  | 0 => st
  | h + 1 =>
    let f := mFull room lift (mRest n on nt nd op lk el st room lift h) (el h)
    (mHs on nt (nd h) (f - mLost f (lk h)) (op h) n).1
def mHour (n : Nat) (on nt : Nat → Int32) (nd op : Nat → Nat → Int32) (lk el : Nat → Int32) (st room lift : Int32) (h : Nat) : Int32 × Int32 × Int32 × Int32 × (Nat → Int32) :=
  let f := mFull room lift (mRest n on nt nd op lk el st room lift h) (el h)
  let l := mLost f (lk h)
  let q := mHs on nt (nd h) (f - l) (op h) n
  (q.1, l, q.2.2.1, q.2.2.2.1, q.2.2.2.2)
theorem mCh_in {n : Nat} {on : Nat → Int32} (h : mOn n on) : ∀ (f : Nat) (p : Int32), (p < 0 ∨ ∃ i, i < n ∧ p = nI i) → n ≤ 8 → ∀ j ∈ mCh on f p, j < n
  | 0, _, _, _, j, hj => by cases hj
  | f + 1, p, hp, hn, j, hj => by
    unfold mCh at hj
    by_cases h0 : p < 0
    · rw [if_pos h0] at hj; cases hj
    · rw [if_neg h0] at hj
      rcases hp with hp | ⟨i, hi, rfl⟩
      · exact absurd hp h0
      · rw [nI_clamp (by omega)] at hj
        rcases List.mem_cons.mp hj with e | e
        · rw [e]; exact hi
        · refine mCh_in h f _ ?_ hn j e
          rcases h i hi with q | ⟨k, hk, q⟩
          · left; rw [q]; decide
          · right; exact ⟨k, by omega, q⟩
theorem mMin_cong {n : Nat} {l l' : Nat → Int32} (h : ∀ j, j < n → l j = l' j) : ∀ (c : List Nat) (w : Int32), (∀ j ∈ c, j < n) → mMin l c w = mMin l' c w
  | [], _, _ => rfl
  | j :: r, w, hc => by
    unfold mMin
    rw [h j (hc j List.mem_cons_self)]
    exact mMin_cong h r _ (fun i hi => hc i (List.mem_cons_of_mem _ hi))
theorem mSub_cong {n : Nat} (b : Int32) : ∀ (c : List Nat) (l l' : Nat → Int32), (∀ j, j < n → l j = l' j) → (∀ j ∈ c, j < n) → ∀ j, j < n → mSub b c l j = mSub b c l' j
  | [], _, _, h, _, j, hj => h j hj
  | i :: r, l, l', h, hc, j, hj => by
    unfold mSub
    refine mSub_cong b r _ _ (fun k hk => ?_) (fun k hk => hc k (List.mem_cons_of_mem _ hk)) j hj
    unfold upd
    rw [h i (hc i List.mem_cons_self), h k hk]

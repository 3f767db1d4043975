/-! THE CLAIM OUT OF ONE WALK OF THE LAW'S BODY. Your part is whole_start (and what it stands on); all else here is the same for every law, but numbers. -/
def R_law : String := "TownBagpipesLaw"
def lw_P (b : Addr) (xs : List Int32) (args : Array Value) (s : State) : Prop := args = #[.ref b] ∧ s.IntsAt b xs ∧ xs.length ≤ 3072 ∧ (Jvm.Cond.and given_1 narrow_1).before args s = true
def lw_Q (_ : Array Value) (s : State) (o : Outcome) (t : State) : Prop := o = .returned (some (.int 1)) ∧ Framed s o t [] 74 3723
def lw_Z (below : List Frame) (a : Array Value) (s : State) : State → Prop := fun t => ∃ o, t.status = .running ∧ Ended t below o ∧ lw_Q a s o t
/-- the law's own end, with 1 on the stack, nothing written that was there before, its room as the claim has it -/
theorem lw_ret {p : Program} {l : Launch} {e : Env} {s : State} {m : MethodId} {below : List Frame} {meth : Method} {c : Code} {b : Nat} (hx : p.tables.exec = Jvm.exec) (hb : c.code = code) (hr : meth.sig.returnType = ret) (hlocks : meth.locks = false) {pc : Nat} {H : Heap} {ls : Array Slot} (hdg : decode code pc = .ok (.ireturn, 1)) : W p l e room_1 s m #[Value.ref b] below meth c H [] 74 3723 (lw_Z below #[Value.ref b] s) (F0 m pc ls [.int 1]) := by
  intro T hT X
  obtain ⟨fs, hret, hrun, hended, hW, hframe⟩ := X.leave (v := some (.int 1)) (hlocks := hlocks) (fun h => by rw [hr] at h; cases h)
  have hmeth' : T.vm.method? m = some meth := X.method'
  refine ⟨T.setFrames fs, ?_, .returned (some (.int 1)), hrun, hended, rfl, ⟨_, rfl⟩, hW, hframe⟩
  jvm_step X.here [X.here.top, hx, hb, hdg, hmeth', hr, ret, narrow_b1]
  (try refine ⟨rfl, ?_⟩); (try refine ⟨rfl, ?_⟩)
  first | (intro acts; rw [hret _ acts rfl rfl rfl]) | rw [hret _ _ rfl rfl rfl]
  exact Steps.refl _
/-- what holds at the law's entry: the machine, the code, the tables' words (any of lw_tbl by 'hts w (by decide +kernel)'), the script of L ints xs at the cell b, what the Statement gives of the start (any of its parts by flat_of_before) -/
def lw_At (p : Program) (s : State) (m : MethodId) (meth : Method) (c : Code) (b L : Nat) (xs : Nat → Int32) : Prop :=
  p.tables.exec = Jvm.exec ∧ c.code = code ∧ meth.sig.returnType = ret ∧ c.maxLocals = 4 ∧ s.vm.findClass R_law = some m.cls ∧ (∀ w ∈ lw_tbl, w.before #[Value.ref b] s = true) ∧ va_X b L xs s s.heap ∧ b < s.heap.size ∧ meth.locks = false ∧ (Jvm.Cond.and given_1 narrow_1).before #[Value.ref b] s = true ∧ meth.name = "law"
theorem len_small {t : Term} {args : Array Value} {s : State} {v : Value} {a : Addr} {cell : Cell} (hl : (Term.length t).eval args s none [] s = some v) (ht : t.eval args s none [] s = some (.ref a)) (hat : s.arrayAt? a = some cell) : cell.slots.size < 2 ^ 31 := by
  simp only [Term.eval, ht, hat, Option.bind_eq_bind, Option.bind_some] at hl
  by_cases hlt : cell.slots.size < 2147483648
  · exact hlt
  · simp [hlt] at hl
theorem hours_X {args : Array Value} {s : State} (hg : (Jvm.Cond.and given_1 narrow_1).before args s = true) : ∃ a1 : Nat, (Term.static "TownBagpipes" "DIGEST_HOURS" "[I").eval args s none [] s = some (.ref a1) ∧ va_X a1 4 (fun j => nI (hrs j)) s s.heap := by
  have hs := flat_of_before _ hg
  have harr : (Cond.arrayOf (.static "TownBagpipes" "DIGEST_HOURS" "[I") .int).before args s = true := hs _ (by decide +kernel)
  have hlen : (Cond.eq (.length (.static "TownBagpipes" "DIGEST_HOURS" "[I")) (.int 4)).before args s = true := hs _ (by decide +kernel)
  have h0 : (Cond.eq (.elem (.static "TownBagpipes" "DIGEST_HOURS" "[I") (.int 0)) (.int 0)).before args s = true := hs _ (by decide +kernel)
  have h1 : (Cond.eq (.elem (.static "TownBagpipes" "DIGEST_HOURS" "[I") (.int 1)) (.int 7)).before args s = true := hs _ (by decide +kernel)
  have h2 : (Cond.eq (.elem (.static "TownBagpipes" "DIGEST_HOURS" "[I") (.int 2)) (.int 20)).before args s = true := hs _ (by decide +kernel)
  have h3 : (Cond.eq (.elem (.static "TownBagpipes" "DIGEST_HOURS" "[I") (.int 3)) (.int 39)).before args s = true := hs _ (by decide +kernel)
  have hl := va_eqt hlen
  obtain ⟨t, cell, ht, hat, hv⟩ := Term.length_spec hl
  have hsz := len_small hl ht hat
  have h4 : cell.slots.size = 4 := by
    have e : nI 4 = nI cell.slots.size := Value.int.inj hv
    exact ((nI_eq (by omega) (by omega)).mp e).symm
  obtain ⟨t', ht', cell', c1, c2, c3, c4, c5, c6, c7⟩ := va_Tof (A := fun q => s.heap.size ≤ q) (ty := .int) (N := 4) (f := fun j => .int (nI (hrs j))) (by decide) harr hl (fun j hj => by
    rcases (show j = 0 ∨ j = 1 ∨ j = 2 ∨ j = 3 by omega) with e | e | e | e <;> subst e
    · exact va_eqt h0
    · exact va_eqt h1
    · exact va_eqt h2
    · exact va_eqt h3) (fun a ha => Nat.not_le.mpr ha)
  cases ht.symm.trans ht'
  obtain ⟨d1, -⟩ := State.arrayAt?_spec hat
  cases d1.symm.trans c1
  exact ⟨t, ht, cell, c1, c2, c3, h4, fun j hj => c6 j hj⟩
set_option maxRecDepth 20000 in
set_option maxHeartbeats 2000000 in
theorem whole_start {p : Program} {e : Env} {s : State} {m : MethodId} {below : List Frame} {meth : Method} {c : Code} (l : Launch) {b L : Nat} {xs : Nat → Int32} (hL : L ≤ 3072) (C0 : lw_At p s m meth c b L xs) : W p l e room_1 s m #[Value.ref b] below meth c s.heap [] 0 0 (lw_Z below #[Value.ref b] s) (entryFrame m ([Value.ref b] : List Value).toArray 4) := by
  obtain ⟨hx, hb, hr, hml, hown, hts, hX, hbl, hlocks, hgv, hnm⟩ := C0
  have htz : ∀ w ∈ z_Ts, w.before #[Value.ref b] s = true := fun w hw => hts w (List.mem_filter.mp hw).1
  obtain ⟨a1, hst, hX1⟩ := hours_X hgv
  have ha1 : a1 < s.heap.size := by
    obtain ⟨scr, h, -⟩ := hX1
    exact (Array.getElem?_eq_some_iff.mp h).1
  obtain ⟨c0, i0, hK0⟩ := u_known (C := RX0) (T := TX0) (N := 6) (n := 6) htz zin_X0 (htz _ zl_253)
  obtain ⟨c1, i1, hK1⟩ := u_known (C := RX1) (T := TX1) (N := 3) (n := 3) htz zin_X1 (htz _ zl_282)
  obtain ⟨c2, i2, hK2⟩ := u_known (C := RX2) (T := TX2) (N := 7) (n := 7) htz zin_X2 (htz _ zl_149)
  obtain ⟨c3, i3, hK3⟩ := u_known (C := RX3) (T := TX3) (N := 4) (n := 4) htz zin_X3 (htz _ zl_114)
  obtain ⟨c4, i4, hK4⟩ := u_known (C := RX4) (T := TX4) (N := 16) (n := 16) htz zin_X4 (htz _ zl_143)
  obtain ⟨c5, i5, hK5⟩ := u_known (C := RX5) (T := TX5) (N := 16) (n := 16) htz zin_X5 (htz _ zl_106)
  obtain ⟨c6, i6, hK6⟩ := u_known (C := RX6) (T := TX6) (N := 41) (n := 41) htz zin_X6 (htz _ zl_786)
  obtain ⟨D, hKc⟩ : ∃ D : va_G, ∀ (k : Nat) (q : vw_C), vwCl[k]? = some q → u_Kn s q.1 q.2.1 q.2.2 (D.1 k) (D.2 k) := by
    refine ⟨(fun k => if k = 0 then c0 else if k = 1 then c1 else if k = 2 then c2 else if k = 3 then c3 else if k = 4 then c4 else if k = 5 then c5 else c6, fun k => if k = 0 then i0 else if k = 1 then i1 else if k = 2 then i2 else if k = 3 then i3 else if k = 4 then i4 else if k = 5 then i5 else i6), ?_⟩
    intro k q hq
    match k, hq with
    | 0, hq => cases hq; exact hK0
    | 1, hq => cases hq; exact hK1
    | 2, hq => cases hq; exact hK2
    | 3, hq => cases hq; exact hK3
    | 4, hq => cases hq; exact hK4
    | 5, hq => cases hq; exact hK5
    | 6, hq => cases hq; exact hK6
    | k + 7, hq => simp [vwCl] at hq
  have hNs : ∀ w ∈ z_Ns, va_Nw w s := fun w hw => by
    obtain ⟨g1, g2⟩ := List.mem_filter.mp hw
    have g3 := hts w g1
    cases w <;> first | (cases g2; done) | exact va_Nw.of rfl g3
  have hE : z_En D (fun q => s.heap.size ≤ q) b a1 L xs (fun j => nI (hrs j)) s := ⟨hNs, ⟨hKc, fun k q h => by simp at h⟩, va_Zref (hts (.laysStatic "TownBagpipes" "DIGEST_HOURS" "[I") (by decide +kernel)) (htz _ zl_94) hst (fun a ha => Nat.not_le.mpr ha), ⟨hX, hbl, Nat.not_le.mpr hbl⟩, ⟨hX1, ha1, Nat.not_le.mpr ha1⟩, fun q h => h⟩
  obtain ⟨ad, had⟩ : ∃ ad : Nat → Nat, ad = fun q => if q = 0 then b else a1 := ⟨_, rfl⟩
  have had0 : ad 0 = b := by rw [had]; rfl
  have had1 : ad 1 = a1 := by rw [had]; rfl
  have hC : z_Cx RL cL_law 4 "law" ret 14 554 76 (L + 3727) p room_1 s m #[Value.ref b] meth c D (fun q => s.heap.size ≤ q) ad 2 (L + 4) L xs (fun j => nI (hrs j)) :=
    ⟨hx, hb, hml, hnm, hr, hlocks, hown, rfl, rfl, rfl, by show 3723 + (L + 4) = L + 3727; omega, Nat.le_refl _, htz, by rw [had0, had1]; exact hE⟩
  have hent := z_entry ad [.ref 0] 4 (Nat.le_of_ble_eq_true rfl)
  have hmap : ([Value.ref 0] : List Value).map (z_v ad) = [Value.ref b] := by show [Value.ref (ad 0)] = _; rw [had0]
  rw [hmap] at hent
  rw [lg_entry_eq]
  have hrun := lw_run (n := L) (fun q => if q = 0 then xs else fun j => nI (hrs j)) hL (fun i _ => rfl) (fun v L' _ => v = some (.int 1) ∧ L' = zLay L 15) (fun _ => ⟨rfl, rfl⟩)
  refine z_sound (zk_L_law 76 (L + 3727)) hC (ret := fun v L' _ => v = some (.int 1) ∧ L' = zLay L 15) ?_ hrun hent.2 ad (fun _ => m.cls) s.heap [] 0 0 _ ⟨?_, ?_, va_S.rf, ?_, fun _ _ => rfl, ⟨rfl, by simp [z_sz], Nat.zero_le _, Nat.zero_le _⟩, rfl, rfl, rfl, rfl⟩ hent.1
  · rintro v L' M' ⟨rfl, rfl⟩
    intro ad1 cA1 H locs cells slots ls pc ins hW hd hri
    obtain ⟨q1, q2, q3, q4, q5, ⟨k1, k2, k3, k4⟩, q7⟩ := hW
    have ec : cells = 74 := by rw [zLay_len] at k1; omega
    have es : slots = 3723 := by rw [zLay_sz] at k2; omega
    subst ec; subst es
    rcases hri with ⟨rfl, -⟩ | ⟨-, x, h, -⟩ | ⟨-, x, ty, h, -⟩ | ⟨-, h, -⟩
    · exact va_forget (fun q hq => q3.2.2 q hq) (lw_ret hx hb hr hlocks hd)
    · cases h
    · cases h
    · cases h
  · intro k q h
    simp [z_ws] at h
  · exact ⟨fun i j p q h => by simp [z_ws] at h, fun k q h => by simp [z_ws] at h⟩
  · intro p k n h h2
    obtain ⟨q, rfl⟩ : ∃ q, p = q + 2 := ⟨p - 2, by omega⟩
    simp at h
set_option maxHeartbeats 4000000 in
theorem lw_walk (l : Launch) (b : Addr) (xs : List Int32) : MetFree l x (headSpec (Jvm.Cond.code x code maxLocals ret :: tables_1) room_1) (lw_P b xs) (fun _ _ _ _ _ => True) lw_Q := by
  refine MetFree.of_bodyS (code := code) (maxLocals := maxLocals) (ret := ret) (by decide) ?_ ?_
  · intro args s m h hn
    obtain ⟨meth, c, h1, h2, h3, h4, h5, h6, -, -⟩ := Cond.code_spec hn (atoms_spec (ws := Jvm.Cond.code x code maxLocals ret :: tables_1) h _ List.mem_cons_self)
    exact ⟨meth, c, h1, h2, h3, h4, h5, h6⟩
  · intro p e s m args below meth c s₁ B hml0 hP _
    obtain ⟨rfl, hx, hbd, hgv⟩ := hP
    obtain ⟨scr, harrAt, hlist, hof, hsmall⟩ := hx
    obtain ⟨hcb, hkn, -, -⟩ := State.arrayAt?_spec harrAt
    have hown : s.vm.findClass R_law = some m.cls := findClass_of_methodNamed B.named
    have hts0 : ∀ c ∈ (Jvm.Cond.code x code maxLocals ret :: tables_1), c.before #[Value.ref b] s = true := atoms_spec (ws := Jvm.Cond.code x code maxLocals ret :: tables_1) B.pre
    have hts : ∀ w ∈ lw_tbl, w.before #[Value.ref b] s = true := k2_hts_sels lw_privs (fun w hw => hts0 w (List.mem_cons_of_mem _ hw)) lw_privs_ok
    have hml : c.maxLocals = 4 := B.maxLocals_eq (hts0 _ List.mem_cons_self)
    have X₀ : Stand p l e room_1 s m #[Value.ref b] below meth c s₁ [] 0 0 := Stand.of_body B
    have hh0 : s₁.heap = s.heap := by rw [B.state]; rfl
    have hsz : scr.slots.size = xs.length := by rw [← Array.length_toList, hlist, List.length_map]
    have hval : ∀ j : Nat, j < xs.length → scr.slots[j]? = some (.int (xs.getD j 0)) := fun j hj => by
      rw [← Array.getElem?_toList, hlist]
      simp [hj]
    have hbl : b < s.heap.size := (Array.getElem?_eq_some_iff.mp hcb).1
    have hX : va_X b xs.length (fun j => xs.getD j 0) s s.heap := ⟨scr, hcb, hof, hkn, hsz, hval⟩
    have K : W p l e room_1 s m #[Value.ref b] below meth c s₁.heap [] 0 0 (lw_Z below #[Value.ref b] s) (entryFrame m ([Value.ref b] : List Value).toArray 4) := by
      rw [hh0]
      exact whole_start l hbd ⟨B.exec, B.bytes, B.returns, hml, hown, hts, hX, hbl, B.notSynchronized, hgv, (name_of_methodNamed B.named B.method).1⟩
    obtain ⟨t, a1, o, b1, b2, b3⟩ := K s₁ rfl X₀
    exact ⟨t, o, a1, b1, b2, b3⟩
theorem lw_pre_spec {args : Array Value} {s : State} (h : (Jvm.Cond.and given_1 narrow_1).before args s = true) (hr : rest_1_c.before args s = true) : ∃ (b : Addr) (xs : List Int32), lw_P b xs args s := by
  have hs := flat_of_before _ h
  have hq := flat_of_before _ hr
  have hc : (Cond.count 1).before args s = true := hs _ (by decide +kernel)
  have harr : (Cond.arrayOf (.arg 0) .int).before args s = true := hs _ (by decide +kernel)
  have hle : (Cond.le (.length (.arg 0)) (.int 3072)).before args s = true := hs _ (by decide +kernel)
  have hlen : (Cond.isInt (.length (.arg 0))).before args s = true := hq _ (by decide +kernel)
  have hall : (Cond.all (.arg 0) (.isInt (.elem (.arg 0) (.index 0)))).before args s = true := hq _ (by decide +kernel)
  obtain ⟨b, xs, hb, hx⟩ := State.ints_of_pre rfl harr hlen hall
  have hsm : xs.length < 2 ^ 31 := hx.choose_spec.2.2.2
  have hev : (Term.length (.arg 0)).eval args s none [] s = some (.int xs.length.toInt32) := hx.length_eval hb
  have hv := Cond.le_ints hev (show (Term.int 3072).eval args s none [] s = some (.int 3072) from rfl)
  have hd : xs.length.toInt32 ≤ 3072 := by
    simpa [Cond.before, Cond.holds, hv] using hle
  have hN : xs.length ≤ 3072 := (Int32.ofNat_le_ofNat hsm (by decide)).mp (show Int32.ofNat xs.length ≤ Int32.ofNat 3072 from hd)
  exact ⟨b, xs, Cond.one_arg hc (show args[0]? = some (.ref b) from hb), hx, hN, h⟩
theorem lw_comes (l : Launch) : Comes l x (Jvm.Cond.code x code maxLocals ret :: tables_1) room_1 (fun tb e args s => Calls_1 tb e args s ∧ rest_1 tb e args s ∧ Pre_1 tb e args s)
    (fun _ _ args s o t => lw_Q args s o t) := by
  intro p e ha hc hk s m args below hf hfit hheap happ hpre
  obtain ⟨b, xs, hP⟩ := lw_pre_spec hpre.2.2 hpre.2.1
  obtain ⟨k, o, h1, h2, h3, hQ⟩ := lw_walk l b xs p e ha hc hk s m args below hf ((Spec.applies_iff_loose hf).mp happ).1 hP trivial
  exact ⟨k, o, h1, h2, h3, hQ⟩
theorem lw_frame {s t : State} {o : Outcome} {args : Array Value} (h : Framed s o t [] 74 3723) :
    Framed s o t (fieldLocs frame_1_writes args s ++ arrayLocs frame_1_arrays args s ++ staticLocs frame_1_statics s) 74 3723 := h
theorem lw_limb (L : Cond) (hL : ∀ (args : Array Value) (s t : State), L.after args s (.returned (some (.int 1))) t = true) :
    ArmFor flags0 classFile x code maxLocals ret World_1 tables_1 room_1 Calls_1 rest_1 Pre_1
      (fun tb e a s o t => postC L tb e a s o t ∧ Framed s o t (fieldLocs frame_1_writes a s ++ arrayLocs frame_1_arrays a s ++ staticLocs frame_1_statics s) 74 3723) := by
  intro l _ _ _ p e ha hc hk s m args below hf hfit hheap happ hpre
  obtain ⟨k, o, h1, h2, h3, rfl, hF⟩ := lw_comes l p e ha hc hk s m args below hf hfit hheap happ hpre
  exact ⟨k, _, h1, h2, h3, hL args s _, lw_frame hF⟩
theorem i_vc : Claimed_1_1 ∧ Claimed_1_2 := ⟨lw_limb limb_1_1 (fun args s t => by simp [limb_1_1, Cond.after, Cond.holds, Cond.value]), lw_limb limb_1_2 (fun args s t => Cond.after_iff.mpr (by
  first | (rw [show limb_1_2 = Cond.eq .result (.int 1) from rfl, Cond.eq_ints (x := 1) (y := 1) rfl rfl]; simp; done) | (simp [limb_1_2, Cond.value, Term.eval]; done)))⟩

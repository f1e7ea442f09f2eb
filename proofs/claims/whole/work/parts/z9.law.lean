/-! THE CLAIM OUT OF ONE WALK OF THE LAW'S BODY. Your part is whole_start (and what it stands on); all else here is the same for every law, but numbers. -/
def R_law : String := "TornBagLaw"
def lw_P (b : Addr) (xs : List Int32) (args : Array Value) (s : State) : Prop := args = #[.ref b] ∧ s.IntsAt b xs ∧ xs.length ≤ 448 ∧ (Jvm.Cond.and given_1 narrow_1).before args s = true
def lw_Q (_ : Array Value) (s : State) (o : Outcome) (t : State) : Prop := o = .returned (some (.int 1)) ∧ Framed s o t [] 600000 7302250
def lw_Z (below : List Frame) (a : Array Value) (s : State) : State → Prop := fun t => ∃ o, t.status = .running ∧ Ended t below o ∧ lw_Q a s o t
/-- the law's own end, with 1 on the stack, nothing written that was there before, its room as the claim has it -/
theorem lw_ret {p : Program} {l : Launch} {e : Env} {s : State} {m : MethodId} {below : List Frame} {meth : Method} {c : Code} {b : Nat} (hx : p.tables.exec = Jvm.exec) (hb : c.code = code) (hr : meth.sig.returnType = ret) (hlocks : meth.locks = false) {pc : Nat} {H : Heap} {ls : Array Slot} (hdg : decode code pc = .ok (.ireturn, 1)) : W p l e room_1 s m #[Value.ref b] below meth c H [] 600000 7302250 (lw_Z below #[Value.ref b] s) (F0 m pc ls [.int 1]) := by
  intro T hT X
  obtain ⟨fs, hret, hrun, hended, hW, hframe⟩ := X.leave (v := some (.int 1)) (hlocks := hlocks) (fun h => by rw [hr] at h; cases h)
  have hmeth' : T.vm.method? m = some meth := X.method'
  refine ⟨T.setFrames fs, ?_, .returned (some (.int 1)), hrun, hended, rfl, ⟨_, rfl⟩, hW, hframe⟩
  jvm_step X.here [X.here.top, hx, hb, hdg, hmeth', hr, ret, narrow_b1]
  (try refine ⟨rfl, ?_⟩); (try refine ⟨rfl, ?_⟩)
  first | (intro acts; rw [hret _ acts rfl rfl rfl]) | rw [hret _ _ rfl rfl rfl]
  exact Steps.refl _
/-- what holds at the law's entry: the machine, the code, the tables' words (any of lw_tbl by 'hts w (by decide +kernel)'), the script of L ints xs at the cell b, what the Statement gives of the start (any of its parts by flat_of_before) -/
def lw_At (p : Program) (s : State) (m : MethodId) (meth : Method) (c : Code) (b L : Nat) (xs : Nat → Int32) : Prop :=
  p.tables.exec = Jvm.exec ∧ c.code = code ∧ meth.sig.returnType = ret ∧ c.maxLocals = 4 ∧ s.vm.findClass R_law = some m.cls ∧ (∀ w ∈ lw_tbl, w.before #[Value.ref b] s = true) ∧ va_X b L xs s s.heap ∧ b < s.heap.size ∧ meth.locks = false ∧ (Jvm.Cond.and given_1 narrow_1).before #[Value.ref b] s = true
def hS0 (L : Nat) (xs : Nat → Int32) : am_F := fun c k => if c = -1 then (if k = -1 then (L : Int) else if 0 ≤ k ∧ k < (L : Int) then (xs k.toNat).toInt else 0) else 0
theorem hS0_r (L : Nat) (hL : L ≤ 448) (xs : Nat → Int32) (c k : Int) : r3 (hS0 L xs c k) := by
  unfold hS0
  split
  · split
    · exact ⟨by omega, by omega⟩
    · split
      · exact r3_t _
      · exact r3_0
  · exact r3_0
theorem am_inst {ci : Nat} {C : String} {T : u_T} {N : Nat} (hc : vwCl[ci]? = some (C, T, N)) : Cond.instantiable C N ∈ am_T := by
  match ci, hc with
  | 0, hc => cases hc; exact am_wd_in (i := 238) (by decide +kernel)
  | 1, hc => cases hc; exact am_wd_in (i := 368) (by decide +kernel)
  | 2, hc => cases hc; exact am_wd_in (i := 88) (by decide +kernel)
  | 3, hc => cases hc; exact am_wd_in (i := 159) (by decide +kernel)
  | 4, hc => cases hc; exact am_wd_in (i := 327) (by decide +kernel)
  | 5, hc => cases hc; exact am_wd_in (i := 196) (by decide +kernel)
  | 6, hc => cases hc; exact am_wd_in (i := 303) (by decide +kernel)
  | 7, hc => cases hc; exact am_wd_in (i := 281) (by decide +kernel)
  | 8, hc => cases hc; exact am_wd_in (i := 140) (by decide +kernel)
  | 9, hc => cases hc; exact am_wd_in (i := 82) (by decide +kernel)
  | 10, hc => cases hc; exact am_wd_in (i := 74) (by decide +kernel)
  | 11, hc => cases hc; exact am_wd_in (i := 1013) (by decide +kernel)
  | n + 12, hc => simp [vwCl] at hc
theorem am_T_in {w : Cond} (h : w ∈ am_T) : w ∈ lw_tbl := (List.mem_filter.mp h).1
theorem am_lawrun (L : Nat) (xs : Nat → Int32) (hL : L ≤ 448) : ∃ (n : Nat) (stE : am_S), am_run n 231 (am_pr 231) (am_en 231 [aP (-1)]) [] (0, [], hS0 L xs) = some (aI 1, stE) ∧ stE.1 ≤ 600000 ∧ am_sl stE.1 ≤ 7302250 := by
  obtain ⟨n, r, st, hrun, hr, h1⟩ := law_wp (h := hS0 L xs) (fun c k hc => by unfold hS0; rw [if_neg (by omega)]) (fun k => (hS0_r L hL xs (-1) k).2) (by unfold hS0; rw [if_pos rfl, if_pos rfl]; omega) (by unfold hS0; rw [if_pos rfl, if_pos rfl]; omega)
  subst hr
  refine ⟨n, st, hrun, ?_, ?_⟩
  · rw [h1]; decide
  · rw [h1]; decide +kernel
set_option maxHeartbeats 4000000 in
set_option maxRecDepth 100000 in
theorem whole_start {p : Program} {e : Env} {s : State} {m : MethodId} {below : List Frame} {meth : Method} {c : Code} (l : Launch) {b L : Nat} {xs : Nat → Int32} (hL : L ≤ 448) (C0 : lw_At p s m meth c b L xs) : W p l e room_1 s m #[Value.ref b] below meth c s.heap [] 0 0 (lw_Z below #[Value.ref b] s) (entryFrame m ([Value.ref b] : List Value).toArray 4) := by
  obtain ⟨hx, hb, hr, hml, hown, hts, hX, hbl, hlocks, hgv⟩ := C0
  obtain ⟨fuel, stE, hrun, hcE, hsE⟩ := am_lawrun L xs hL
  have H : ∀ ci : Nat, ∃ (cC : ClassId) (iS : Nat → Nat), ∀ q : vw_C, vwCl[ci]? = some q → u_Kn s q.1 q.2.1 q.2.2 cC iS := by
    intro ci
    cases hq : vwCl[ci]? with
    | none => exact ⟨0, fun _ => 0, fun q z => by cases z⟩
    | some q =>
      obtain ⟨C, T, N⟩ := q
      obtain ⟨cC, iS, hKn⟩ := u_known (C := C) (T := T) (N := N) (n := N) hts (fun w hw => am_T_in ((am_cl hq).1 w hw)) (hts _ (am_T_in (am_inst hq)))
      exact ⟨cC, iS, fun q z => by cases z; exact hKn⟩
  obtain ⟨dC, H1⟩ := Classical.axiomOfChoice H
  obtain ⟨dI, H2⟩ := Classical.axiomOfChoice H1
  obtain ⟨cI, kI, pI, i1, i2, i3⟩ := Cond.arrayClass_spec (type := .int) (hts _ (am_T_in (am_wd_in (i := 138) (w := .arrayClass .int) (by decide +kernel))))
  obtain ⟨cL, kL, pL, l1, l2, l3⟩ := Cond.arrayClass_spec (type := .long) (hts _ (am_T_in (am_wd_in (i := 325) (w := .arrayClass .long) (by decide +kernel))))
  have hoM : (Cond.arrayOver (.object "TornBag$Moment")).before #[Value.ref b] s = true := hts _ (List.mem_of_getElem? (i := 202) (by decide +kernel))
  have hoS : (Cond.arrayOver (.object "TornBag$Sheet")).before #[Value.ref b] s = true := hts _ (List.mem_of_getElem? (i := 302) (by decide +kernel))
  obtain ⟨qM, cM, kM, m1, m2, m3, m4, m5⟩ := Cond.arrayOver_spec hoM
  obtain ⟨qS, cS, kS, s1, s2, s3, s4, s5⟩ := Cond.arrayOver_spec hoS
  let g : am_G := (s.heap.size, (dC, dI), (cI, cL, cM, cS), (b, L, xs))
  have hK : va_K g.2.1 vwCl (am_ty g) s := by
    refine ⟨fun ci q hq => H2 ci q hq, fun k q hq => ?_⟩
    match k, hq with
    | 0, hq => cases hq; exact ⟨fun n z => ⟨fun k h => (by cases h), kI, i2, pI, i3⟩, i1⟩
    | 1, hq => cases hq; exact ⟨fun n z => ⟨fun k h => (by cases h), kL, l2, pL, l3⟩, l1⟩
    | 2, hq => cases hq; exact ⟨fun n z => ⟨fun k h => (by cases h), kM, m3, qM, m4⟩, kM, qM, m3, m4, m1, m5⟩
    | 3, hq => cases hq; exact ⟨fun n z => ⟨fun k h => (by cases h), kS, s3, qS, s4⟩, kS, qS, s3, s4, s1, s5⟩
    | k + 4, hq => simp [am_ty] at hq
  have hNS : ∀ q ∈ am_NS, va_Nw (.methodLinkNest q.1 q.2.1 q.2.2.1 q.2.2.2) s := by
    intro q hq
    refine va_Nw.of rfl (hts _ ?_)
    have hall : am_NS.all (fun q => decide (Cond.methodLinkNest q.1 q.2.1 q.2.2.1 q.2.2.2 ∈ lw_tbl)) = true := by decide +kernel
    exact of_decide_eq_true (List.all_eq_true.mp hall q hq)
  have hSB : am_SB g s := ⟨hK, hNS, va_AO.of hoM, va_AO.of hoS, hX, hbl⟩
  have C : am_Cx 231 p room_1 s m #[Value.ref b] meth c g 0 stE.1 := ⟨hx, hb, hml, hown, fun w hw => hts w (am_T_in hw), fun z => absurd z (by decide), hSB, rfl, by decide, by decide, by show stE.1 - 0 ≤ 600000; omega, by show am_sl stE.1 - am_sl 0 ≤ 7302250; omega, hr, hlocks⟩
  have hCa : am_Ca g (am_en 231 [aP (-1)]) [] (0, [], hS0 L xs) := by
    refine am_en_can (S := []) ⟨fun v hv => ?_, (fun v hv => nomatch hv), fun c k => r3_6 (hS0_r L hL xs c k), fun c k _ => hS0_r L hL xs c k, fun c k h0 => ?_, fun c k _ => rfl, fun j hj => ?_, ?_⟩
    · rcases List.mem_singleton.mp hv with rfl
      exact v3_p _
    · show hS0 L xs c k = 0
      have h0 : (0 : Int) ≤ c := h0
      unfold hS0
      rw [if_neg (by omega)]
    · show hS0 L xs (-1) j = _
      have hj : j < L := hj
      unfold hS0
      rw [if_pos rfl, if_neg (by omega), if_pos ⟨by omega, by omega⟩]
      rfl
    · show hS0 L xs (-1) (-1) = (L : Int)
      unfold hS0
      rfl
  have hRk : am_Rk 231 p l e room_1 s m #[Value.ref b] below meth c (lw_Z below #[Value.ref b] s) g 0 (aI 1) stE := by
    intro i Lc S hE ls H locs hl hP hS hn
    rcases hE with ⟨x, hv, rfl, hd, -⟩ | ⟨x, hv, -⟩ | ⟨hv, -⟩
    · refine va_forget (fun q hq => hS.2.2 q hq) ?_
      refine W.widen (k := 600000) (n := 7302250) (by omega) (by omega) ?_
      exact lw_ret hx hb hr hlocks hd
    · cases hv
    · cases hv
  have hW := am_sim am_all fuel 231 p l e room_1 s m #[Value.ref b] below meth c (lw_Z below #[Value.ref b] s) g 0 (aI 1) stE C hRk 0 (am_en 231 [aP (-1)]) [] (0, [], hS0 L xs) hCa (by rw [List.drop_zero]; exact hrun)
  have hP0 : va_P g.2.1 vwCl (am_cv g (0, [], hS0 L xs)) s.heap := fun k q hq => by simp [am_cv] at hq
  rw [lg_entry_eq]
  have hE0 : am_vs g [aP (-1)] = [Value.ref b] := rfl
  have hLH : am_LH g ((lg_sl [Value.ref b] ++ List.replicate (4 - (lg_sl [Value.ref b]).length) Slot.unset).toArray) (am_mx 231) (am_en 231 [aP (-1)]) := by
    have q := am_en_LH (g := g) (m := 231) (As := [aP (-1)]) (by decide) (by decide)
    rw [hE0] at q
    exact q
  exact hW _ s.heap [] hLH hP0 va_S.rf (Nat.le_refl _)
set_option maxHeartbeats 4000000 in
theorem lw_walk (l : Launch) (b : Addr) (xs : List Int32) : MetFree l x (headSpec (Jvm.Cond.code x code maxLocals ret :: tables_1) room_1) (lw_P b xs) (fun _ _ _ _ _ => True) lw_Q := by
  refine MetFree.of_bodyS (code := code) (maxLocals := maxLocals) (ret := ret) (by decide) ?_ ?_
  · intro args s m h hn
    obtain ⟨meth, c, h1, h2, h3, h4, h5, h6, -, -⟩ := Cond.code_spec hn (atoms_spec (ws := Jvm.Cond.code x code maxLocals ret :: tables_1) h _ List.mem_cons_self)
    exact ⟨meth, c, h1, h2, h3, h4, h5, h6⟩
  · intro p e s m args below meth c s₁ B hml0 hP _
    obtain ⟨rfl, hx, hbd, hgv⟩ := hP
    obtain ⟨scr, harrAt, hlist, hof, hsmall⟩ := hx
    obtain ⟨hcb, hkn, -, -⟩ := State.arrayAt?_spec harrAt
    have hown : s.vm.findClass R_law = some m.cls := findClass_of_methodNamed B.named
    have hts0 : ∀ c ∈ (Jvm.Cond.code x code maxLocals ret :: tables_1), c.before #[Value.ref b] s = true := atoms_spec (ws := Jvm.Cond.code x code maxLocals ret :: tables_1) B.pre
    have hts : ∀ w ∈ lw_tbl, w.before #[Value.ref b] s = true := k2_hts_sels lw_privs (fun w hw => hts0 w (List.mem_cons_of_mem _ hw)) lw_privs_ok
    have hml : c.maxLocals = 4 := B.maxLocals_eq (hts0 _ List.mem_cons_self)
    have X₀ : Stand p l e room_1 s m #[Value.ref b] below meth c s₁ [] 0 0 := Stand.of_body B
    have hh0 : s₁.heap = s.heap := by rw [B.state]; rfl
    have hsz : scr.slots.size = xs.length := by rw [← Array.length_toList, hlist, List.length_map]
    have hval : ∀ j : Nat, j < xs.length → scr.slots[j]? = some (.int (xs.getD j 0)) := fun j hj => by
      rw [← Array.getElem?_toList, hlist]
      simp [hj]
    have hbl : b < s.heap.size := (Array.getElem?_eq_some_iff.mp hcb).1
    have hX : va_X b xs.length (fun j => xs.getD j 0) s s.heap := ⟨scr, hcb, hof, hkn, hsz, hval⟩
    have K : W p l e room_1 s m #[Value.ref b] below meth c s₁.heap [] 0 0 (lw_Z below #[Value.ref b] s) (entryFrame m ([Value.ref b] : List Value).toArray 4) := by
      rw [hh0]
      exact whole_start l hbd ⟨B.exec, B.bytes, B.returns, hml, hown, hts, hX, hbl, B.notSynchronized, hgv⟩
    obtain ⟨t, a1, o, b1, b2, b3⟩ := K s₁ rfl X₀
    exact ⟨t, o, a1, b1, b2, b3⟩
theorem lw_pre_spec {args : Array Value} {s : State} (h : (Jvm.Cond.and given_1 narrow_1).before args s = true) (hr : rest_1_c.before args s = true) : ∃ (b : Addr) (xs : List Int32), lw_P b xs args s := by
  have hs := flat_of_before _ h
  have hq := flat_of_before _ hr
  have hc : (Cond.count 1).before args s = true := hs _ (by decide +kernel)
  have harr : (Cond.arrayOf (.arg 0) .int).before args s = true := hs _ (by decide +kernel)
  have hle : (Cond.le (.length (.arg 0)) (.int 448)).before args s = true := hs _ (by decide +kernel)
  have hlen : (Cond.isInt (.length (.arg 0))).before args s = true := hq _ (by decide +kernel)
  have hall : (Cond.all (.arg 0) (.isInt (.elem (.arg 0) (.index 0)))).before args s = true := hq _ (by decide +kernel)
  obtain ⟨b, xs, hb, hx⟩ := State.ints_of_pre rfl harr hlen hall
  have hsm : xs.length < 2 ^ 31 := hx.choose_spec.2.2.2
  have hev : (Term.length (.arg 0)).eval args s none [] s = some (.int xs.length.toInt32) := hx.length_eval hb
  have hv := Cond.le_ints hev (show (Term.int 448).eval args s none [] s = some (.int 448) from rfl)
  have hd : xs.length.toInt32 ≤ 448 := by
    simpa [Cond.before, Cond.holds, hv] using hle
  have hN : xs.length ≤ 448 := (Int32.ofNat_le_ofNat hsm (by decide)).mp (show Int32.ofNat xs.length ≤ Int32.ofNat 448 from hd)
  exact ⟨b, xs, Cond.one_arg hc (show args[0]? = some (.ref b) from hb), hx, hN, h⟩
theorem lw_comes (l : Launch) : Comes l x (Jvm.Cond.code x code maxLocals ret :: tables_1) room_1 (fun tb e args s => Calls_1 tb e args s ∧ rest_1 tb e args s ∧ Pre_1 tb e args s)
    (fun _ _ args s o t => lw_Q args s o t) := by
  intro p e ha hc hk s m args below hf hfit hheap happ hpre
  obtain ⟨b, xs, hP⟩ := lw_pre_spec hpre.2.2 hpre.2.1
  obtain ⟨k, o, h1, h2, h3, hQ⟩ := lw_walk l b xs p e ha hc hk s m args below hf ((Spec.applies_iff_loose hf).mp happ).1 hP trivial
  exact ⟨k, o, h1, h2, h3, hQ⟩
theorem lw_frame {s t : State} {o : Outcome} {args : Array Value} (h : Framed s o t [] 600000 7302250) :
    Framed s o t (fieldLocs frame_1_writes args s ++ arrayLocs frame_1_arrays args s ++ staticLocs frame_1_statics s) 600000 7302250 := h
theorem lw_limb (L : Cond) (hL : ∀ (args : Array Value) (s t : State), L.after args s (.returned (some (.int 1))) t = true) :
    ArmFor flags0 classFile x code maxLocals ret World_1 tables_1 room_1 Calls_1 rest_1 Pre_1
      (fun tb e a s o t => postC L tb e a s o t ∧ Framed s o t (fieldLocs frame_1_writes a s ++ arrayLocs frame_1_arrays a s ++ staticLocs frame_1_statics s) 600000 7302250) := by
  intro l _ _ _ p e ha hc hk s m args below hf hfit hheap happ hpre
  obtain ⟨k, o, h1, h2, h3, rfl, hF⟩ := lw_comes l p e ha hc hk s m args below hf hfit hheap happ hpre
  exact ⟨k, _, h1, h2, h3, hL args s _, lw_frame hF⟩
theorem i_vc : Claimed_1_1 ∧ Claimed_1_2 := ⟨lw_limb limb_1_1 (fun args s t => by simp [limb_1_1, Cond.after, Cond.holds, Cond.value]), lw_limb limb_1_2 (fun args s t => Cond.after_iff.mpr (by
  first | (rw [show limb_1_2 = Cond.eq .result (.int 1) from rfl, Cond.eq_ints (x := 1) (y := 1) rfl rfl]; simp; done) | (simp [limb_1_2, Cond.value, Term.eval]; done)))⟩

theorem am_sl_s {n : Nat} {q : Nat × Nat} (h : am_LY[n]? = some q) : am_sl (n + 1) = am_sl n + q.2 := by
  have hn := (List.getElem?_eq_some_iff.mp h).1
  unfold am_sl
  rw [List.take_add_one, h]
  simp
theorem am_sl_le {a b : Nat} (h : a ≤ b) : am_sl a ≤ am_sl b := by
  induction b with
  | zero => rw [Nat.le_zero.mp h]; exact Nat.le_refl _
  | succ b ih =>
    by_cases hb : a = b + 1
    · rw [hb]; exact Nat.le_refl _
    · refine Nat.le_trans (ih (by omega)) ?_
      unfold am_sl
      rw [List.take_add_one]
      simp
theorem am_lay_at {n : Nat} {q : Nat × Nat} (h : am_LY[n]? = some q) : am_lay (n : Int) = q := by
  unfold am_lay
  rw [if_neg (by omega), Int.toNat_natCast, List.getD_eq_getElem?_getD, h]
  rfl
theorem am_W_new {p : Program} {l : Launch} {e : Env} {R : Room} {s : State} {m : MethodId} {args : Array Value} {below : List Frame} {meth : Method} {c : Code} {H : Heap} {locs : List Loc} {slots n0 q : Nat} {Q : State → Prop} {f : JFrame} {g : am_G} {st : am_S} {en : va_E} (hsz : s.heap.size = g.1 + n0) (hn : n0 ≤ st.1) (hP : va_P g.2.1 vwCl (am_cv g st ++ [(q, en)]) H) (hD : va_D (fun q => g.1 ≤ q) (am_cv g st ++ [(q, en)]))
    (k : q = g.1 + st.1 → W p l e R s m args below meth c H locs (st.1 - n0 + 1) slots Q f) : W p l e R s m args below meth c H locs (st.1 - n0 + 1) slots Q f := by
  intro T hT X
  refine k ?_ T hT X
  have h1 : T.heap.size ≤ s.heap.size + (st.1 - n0 + 1) := X.same.2.2.1
  rw [hT] at h1
  have hq : (am_cv g st ++ [(q, en)])[st.1]? = some (q, en) := by
    rw [List.getElem?_append_right (by rw [am_cv_len]; exact Nat.le_refl _), am_cv_len, Nat.sub_self]
    rfl
  have h2 := (hP st.1 _ hq).lt
  have h3 := hD.2 st.1 _ hq
  dsimp only at h2 h3
  by_cases h4 : q < g.1 + st.1
  · have h5 : q - g.1 < st.1 := by omega
    have h6 : (am_cv g st ++ [(q, en)])[q - g.1]? = some (g.1 + (q - g.1), am_ce g st (q - g.1)) := by
      rw [List.getElem?_append_left (by rw [am_cv_len]; exact h5), am_cv_at h5]
    have := hD.1 _ _ _ _ hq h6 (by dsimp only; omega)
    omega
  · omega
def c_narr (m i : Nat) (ps : List Int) : Bool := (if am_pa ps 0 = 0 then am_dc m i (.newarray .int) 2 && am_wd 138 (.arrayClass .int) else decide (am_pa ps 0 = 1) && am_dc m i (.newarray .long) 2 && am_wd 325 (.arrayClass .long))
set_option maxHeartbeats 4000000 in
theorem g_narr {mi i : Nat} {ps : List Int} (h : c_narr mi i ps = true) : am_Go mi i (s_narr ps) := by
  intro p l e R s m args below meth c Q g n0 cE C L S st r hc hf
  obtain ⟨hx, hb, hml, hown, hts, hini, hSB, hsz, hfr, hlc, hce, hsl, -⟩ := C
  unfold s_narr at hf
  split at hf
  · next k S' =>
    have rk : r3 k := (Ca_hd hc).1 rfl
    split at hf
    · next hk =>
      obtain ⟨hly, hk0⟩ := hk
      unfold am_nx at hf
      cases hf
      refine Sp0 (fun hcE K ls H locs hl hP hS hn => ?_)
      dsimp only at hcE
      have hsS := am_sl_s hly
      have hm1 := am_sl_le hcE
      have hm2 := am_sl_le hn
      dsimp only at hsS
      have hkn : k.toNat < 2147483648 := by have := rk.2; omega
      unfold c_narr at h
      split at h
      · next h0 =>
        rw [h0] at hly
        simp only [Bool.and_eq_true, am_dc_iff] at h
        obtain ⟨hd, hw⟩ := h
        rw [am_vI]
        have hzero : ∀ j : Int, st.2.2 (st.1 : Int) j = 0 := fun j => hc.2.2.2.2.1 _ j (Int.le_refl _)
        by_cases hbig : k.toNat * 4 ≤ 536870912
        · refine va_newa (A := fun q => g.1 ≤ q) (ty := .int) (a0 := (k.toNat, .inl (fun _ => 0))) hx hb (hts _ (am_wd_in hw)) rfl hSB.1 hP am_cv_D hS (fun q hq => by rw [hsz] at hq; exact Nat.le_trans (Nat.le_add_right _ _) hq) (fun cA => rfl) (by have := am_l3 rk r3_0; show ¬ (Int32.ofInt k < 0); rw [show (0 : Int32) = Int32.ofInt 0 from rfl, this]; omega) (am_clamp rk) hbig (by omega) (by omega) hd.1 (fun q cA H1 hK1 hP1 hD1 hS1 => ?_)
          refine am_W_new hsz hn hP1 hD1 (fun hq => ?_)
          have hcA : cA = g.2.2.1.1 := by
            have a1 := (hK1.2 4 (cA, .int) rfl).2
            have a2 := (hSB.1.2 0 (g.2.2.1.1, .int) rfl).2
            exact Option.some.inj (a1.symm.trans a2)
          have hce : am_ce g (st.1 + 1, st.2.1, st.2.2) st.1 = .inl (cA, k.toNat, .inl (fun _ => 0)) := by
            have e0 := am_ce_20 (g := g) (st := (st.1 + 1, st.2.1, st.2.2)) (c := (st.1 : Int)) (by omega) (by rw [am_lay_at hly]; rfl)
            rw [Int.toNat_natCast, am_lay_at hly, ← hcA] at e0
            rw [e0]
            dsimp only
            congr 4
            funext j
            rw [hzero]
            rfl
          rw [hq, ← hce] at hP1
          rw [show am_cv g st = am_cv g (st.1, st.2.1, st.2.2) from rfl, ← am_cv_push] at hP1
          have K := K ls H1 locs hl hP1 hS1 (by dsimp only; omega)
          rw [hd.2] at K
          dsimp only at K
          rw [show st.1 + 1 - n0 = st.1 - n0 + 1 by omega, show am_sl (st.1 + 1) - am_sl n0 = am_sl st.1 - am_sl n0 + k.toNat by omega, am_vP0 _ _ (by omega), Int.toNat_natCast, ← hq] at K
          exact K
        · exfalso
          exact hbig (by
            have hmem : (20 + (0 : Int).toNat, k.toNat) ∈ am_LY := List.mem_of_getElem? hly
            have hall : ∀ q ∈ am_LY, q.2 * 8 ≤ 536870912 := by decide +kernel
            have := hall _ hmem
            dsimp only at this
            omega)
      · next h0 =>
        simp only [Bool.and_eq_true, am_dc_iff, decide_eq_true_eq] at h
        obtain ⟨⟨h1, hd⟩, hw⟩ := h
        rw [h1] at hly
        rw [am_vI]
        have hzero : ∀ j : Int, st.2.2 (st.1 : Int) j = 0 := fun j => hc.2.2.2.2.1 _ j (Int.le_refl _)
        by_cases hbig : k.toNat * 8 ≤ 536870912
        · refine va_newa (A := fun q => g.1 ≤ q) (ty := .long) (a0 := (k.toNat, .inr (.inl (fun _ => 0)))) hx hb (hts _ (am_wd_in hw)) rfl hSB.1 hP am_cv_D hS (fun q hq => by rw [hsz] at hq; exact Nat.le_trans (Nat.le_add_right _ _) hq) (fun cA => rfl) (by have := am_l3 rk r3_0; show ¬ (Int32.ofInt k < 0); rw [show (0 : Int32) = Int32.ofInt 0 from rfl, this]; omega) (am_clamp rk) hbig (by omega) (by omega) hd.1 (fun q cA H1 hK1 hP1 hD1 hS1 => ?_)
          refine am_W_new hsz hn hP1 hD1 (fun hq => ?_)
          have hcA : cA = g.2.2.1.2.1 := by
            have a1 := (hK1.2 4 (cA, .long) rfl).2
            have a2 := (hSB.1.2 1 (g.2.2.1.2.1, .long) rfl).2
            exact Option.some.inj (a1.symm.trans a2)
          have hce : am_ce g (st.1 + 1, st.2.1, st.2.2) st.1 = .inl (cA, k.toNat, .inr (.inl (fun _ => 0))) := by
            have e0 := am_ce_21 (g := g) (st := (st.1 + 1, st.2.1, st.2.2)) (c := (st.1 : Int)) (by omega) (by rw [am_lay_at hly]; rfl)
            rw [Int.toNat_natCast, am_lay_at hly, ← hcA] at e0
            rw [e0]
            dsimp only
            congr 5
            funext j
            rw [hzero]
            rfl
          rw [hq, ← hce] at hP1
          rw [show am_cv g st = am_cv g (st.1, st.2.1, st.2.2) from rfl, ← am_cv_push] at hP1
          have K := K ls H1 locs hl hP1 hS1 (by dsimp only; omega)
          rw [hd.2] at K
          dsimp only at K
          rw [show st.1 + 1 - n0 = st.1 - n0 + 1 by omega, show am_sl (st.1 + 1) - am_sl n0 = am_sl st.1 - am_sl n0 + k.toNat by omega, am_vP0 _ _ (by omega), Int.toNat_natCast, ← hq] at K
          exact K
        · exfalso
          exact hbig (by
            have hmem : (20 + (1 : Int).toNat, k.toNat) ∈ am_LY := List.mem_of_getElem? hly
            have hall : ∀ q ∈ am_LY, q.2 * 8 ≤ 536870912 := by decide +kernel
            have := hall _ hmem
            dsimp only at this
            omega)
    · cases hf
  · cases hf
def c_anew (m i : Nat) (ps : List Int) : Bool := am_dc m i (.anewarray (am_pa ps 1).toNat) 3 && (if am_pa ps 0 = 0 then am_wd (am_pa ps 2).toNat (.classLink (am_yn m).cls (am_pa ps 1).toNat "TornBag$Moment") else decide (am_pa ps 0 = 1) && am_wd (am_pa ps 2).toNat (.classLink (am_yn m).cls (am_pa ps 1).toNat "TornBag$Sheet"))
set_option maxHeartbeats 4000000 in
theorem g_anew {mi i : Nat} {ps : List Int} (h : c_anew mi i ps = true) : am_Go mi i (s_anew ps) := by
  intro p l e R s m args below meth c Q g n0 cE C L S st r hc hf
  obtain ⟨hx, hb, hml, hown, hts, hini, hSB, hsz, hfr, hlc, hce, hsl, -⟩ := C
  simp only [c_anew, Bool.and_eq_true, am_dc_iff] at h
  obtain ⟨hd, hw⟩ := h
  unfold s_anew at hf
  split at hf
  · next k S' =>
    have rk : r3 k := (Ca_hd hc).1 rfl
    split at hf
    · next hk =>
      obtain ⟨hly, hk0⟩ := hk
      unfold am_nx at hf
      cases hf
      refine Sp0 (fun hcE K ls H locs hl hP hS hn => ?_)
      dsimp only at hcE
      have hsS := am_sl_s hly
      have hm1 := am_sl_le hcE
      have hm2 := am_sl_le hn
      dsimp only at hsS
      have hall : ∀ q ∈ am_LY, q.2 * 8 ≤ 536870912 := by decide +kernel
      have hbig := hall _ (List.mem_of_getElem? hly)
      dsimp only at hbig
      have hnull : ∀ j : Int, am_gr st.2.1 (st.1 : Int) j = -1 := fun j => hc.2.2.2.2.2.1 _ j (Int.le_refl _)
      have hneg : ¬ (Int32.ofInt k < 0) := by
        have := am_l3 rk r3_0
        rw [show (0 : Int32) = Int32.ofInt 0 from rfl, this]
        omega
      rw [am_vI]
      split at hw
      · next h0 =>
        rw [h0] at hly
        refine va_newq (A := fun q => g.1 ≤ q) hx hb hown (hts _ (am_wd_in hw)) hSB.2.2.1 hSB.1 hP am_cv_D hS (fun q hq => by rw [hsz] at hq; exact Nat.le_trans (Nat.le_add_right _ _) hq) hneg (am_clamp rk) (by omega) (by omega) (by omega) hd.1 (fun q cA H1 hK1 hP1 hD1 hS1 => ?_)
        refine am_W_new hsz hn hP1 hD1 (fun hq => ?_)
        have hcA : cA = g.2.2.1.2.2.1 := by
          obtain ⟨kA, comp, a1, a2, a3, a4⟩ := (hK1.2 4 (cA, .object "TornBag$Moment") rfl).2
          obtain ⟨kB, comp2, b1, b2, b3, b4⟩ := (hSB.1.2 2 (g.2.2.1.2.2.1, .object "TornBag$Moment") rfl).2
          exact Option.some.inj (a4.symm.trans b4)
        have hce : am_ce g (st.1 + 1, st.2.1, st.2.2) st.1 = .inl (cA, k.toNat, .inr (.inr (.inr (.inr (fun _ => none))))) := by
          have e0 := am_ce_22 (g := g) (st := (st.1 + 1, st.2.1, st.2.2)) (c := (st.1 : Int)) (by omega) (by rw [am_lay_at hly]; rfl)
          rw [Int.toNat_natCast, am_lay_at hly, ← hcA] at e0
          rw [e0]
          dsimp only
          congr 8
          funext j
          rw [hnull]
          rfl
        rw [hq, ← hce] at hP1
        rw [show am_cv g st = am_cv g (st.1, st.2.1, st.2.2) from rfl, ← am_cv_push] at hP1
        have K := K ls H1 locs hl hP1 hS1 (by dsimp only; omega)
        rw [hd.2] at K
        dsimp only at K
        rw [show st.1 + 1 - n0 = st.1 - n0 + 1 by omega, show am_sl (st.1 + 1) - am_sl n0 = am_sl st.1 - am_sl n0 + k.toNat by omega, am_vP0 _ _ (by omega), Int.toNat_natCast, ← hq] at K
        exact K
      · next h0 =>
        simp only [Bool.and_eq_true, decide_eq_true_eq] at hw
        obtain ⟨h1, hw⟩ := hw
        rw [h1] at hly
        refine va_newq (A := fun q => g.1 ≤ q) hx hb hown (hts _ (am_wd_in hw)) hSB.2.2.2.1 hSB.1 hP am_cv_D hS (fun q hq => by rw [hsz] at hq; exact Nat.le_trans (Nat.le_add_right _ _) hq) hneg (am_clamp rk) (by omega) (by omega) (by omega) hd.1 (fun q cA H1 hK1 hP1 hD1 hS1 => ?_)
        refine am_W_new hsz hn hP1 hD1 (fun hq => ?_)
        have hcA : cA = g.2.2.1.2.2.2 := by
          obtain ⟨kA, comp, a1, a2, a3, a4⟩ := (hK1.2 4 (cA, .object "TornBag$Sheet") rfl).2
          obtain ⟨kB, comp2, b1, b2, b3, b4⟩ := (hSB.1.2 3 (g.2.2.1.2.2.2, .object "TornBag$Sheet") rfl).2
          exact Option.some.inj (a4.symm.trans b4)
        have hce : am_ce g (st.1 + 1, st.2.1, st.2.2) st.1 = .inl (cA, k.toNat, .inr (.inr (.inr (.inr (fun _ => none))))) := by
          have e0 := am_ce_23 (g := g) (st := (st.1 + 1, st.2.1, st.2.2)) (c := (st.1 : Int)) (by omega) (by rw [am_lay_at hly]; rfl)
          rw [Int.toNat_natCast, am_lay_at hly, ← hcA] at e0
          rw [e0]
          dsimp only
          congr 8
          funext j
          rw [hnull]
          rfl
        rw [hq, ← hce] at hP1
        rw [show am_cv g st = am_cv g (st.1, st.2.1, st.2.2) from rfl, ← am_cv_push] at hP1
        have K := K ls H1 locs hl hP1 hS1 (by dsimp only; omega)
        rw [hd.2] at K
        dsimp only at K
        rw [show st.1 + 1 - n0 = st.1 - n0 + 1 by omega, show am_sl (st.1 + 1) - am_sl n0 = am_sl st.1 - am_sl n0 + k.toNat by omega, am_vP0 _ _ (by omega), Int.toNat_natCast, ← hq] at K
        exact K
    · cases hf
  · cases hf
theorem am_df : ∀ ci : Nat, ci < 12 → ∀ j : Nat, j < (am_FT.getD ci []).length → (am_ft ci j = 2 → defaultValue (am_tyT ci j) = .null) ∧ (am_ft ci j ≠ 2 → defaultValue (am_tyT ci j) = .int 0) := by decide +kernel
theorem am_fn : ∀ ci : Nat, ci < 12 → (vwCl[ci]?).map (fun r => r.2.2) = some (am_FT.getD ci []).length := by decide +kernel
def c_new (m i : Nat) (ps : List Int) : Bool := am_dc m i (.new (am_pa ps 1).toNat) 3 && decide ((am_pa ps 0).toNat < 12) && (match vwCl[(am_pa ps 0).toNat]? with
  | some q => am_wd (am_pa ps 2).toNat (.classLink (am_yn m).cls (am_pa ps 1).toNat q.1) && am_wd (am_KI.getD (am_pa ps 0).toNat 0) (.instantiable q.1 q.2.2) && am_wd (am_KN.getD (am_pa ps 0).toNat 0) (.initialized q.1)
  | none => false)
set_option maxHeartbeats 4000000 in
theorem g_new {mi i : Nat} {ps : List Int} (h : c_new mi i ps = true) : am_Go mi i (s_new ps) := by
  intro p l e R s m args below meth c Q g n0 cE C L S st r hc hf
  obtain ⟨hx, hb, hml, hown, hts, hini, hSB, hsz, hfr, hlc, hce, hsl, -⟩ := C
  simp only [c_new, Bool.and_eq_true, am_dc_iff, decide_eq_true_eq] at h
  obtain ⟨⟨hd, hci⟩, hw⟩ := h
  split at hw
  · next q hcl =>
    obtain ⟨Cn, T, N⟩ := q
    simp only [Bool.and_eq_true] at hw
    obtain ⟨⟨hw1, hw2⟩, hw3⟩ := hw
    unfold s_new at hf
    split at hf
    · next hk =>
      cases hly : am_LY[st.1]? with
      | none => rw [hly] at hk; cases hk
      | some q =>
        rw [hly] at hk
        have hk := Option.some.inj hk
        unfold am_nx at hf
        cases hf
        refine Sp0 (fun hcE K ls H locs hl hP hS hn => ?_)
        dsimp only at hcE
        have hlat := am_lay_at hly
        have hqs : q.2 = N := by
          have := am_lay_sz (c := (st.1 : Int)) (by rw [hlat]; exact hk) hci hcl
          rwa [hlat] at this
        have hsS := am_sl_s hly
        have hm1 := am_sl_le hcE
        have hm2 := am_sl_le hn
        have hzero : ∀ j : Int, st.2.2 (st.1 : Int) j = 0 := fun j => hc.2.2.2.2.1 _ j (Int.le_refl _)
        have hnull : ∀ j : Int, am_gr st.2.1 (st.1 : Int) j = -1 := fun j => hc.2.2.2.2.2.1 _ j (Int.le_refl _)
        have hNN : N = (am_FT.getD (am_pa ps 0).toNat []).length := by
          have := am_fn _ hci
          rw [hcl] at this
          exact Option.some.inj this
        refine va_new (A := fun q => g.1 ≤ q) (fs := (List.range N).map (fun k => am_fv g (am_pa ps 0).toNat k (st.2.2 (st.1 : Int) k) (am_gr st.2.1 (st.1 : Int) k))) hx hb hts (am_cl hcl).1 (am_tyT (am_pa ps 0).toNat) (am_cl hcl).2.1 hown (hts _ (am_wd_in hw1)) (hts _ (am_wd_in hw2)) (hts _ (am_wd_in hw3)) hSB.1 hP am_cv_D hS (fun q hq => by rw [hsz] at hq; exact Nat.le_trans (Nat.le_add_right _ _) hq) hcl (fun j hj => ?_) (by omega) (by omega) hd.1 (fun q' H1 hP1 hD1 hS1 => ?_)
        · have := am_df _ hci j (by rw [← hNN]; exact hj)
          rw [vp_V, List.getD_eq_getElem?_getD, am_fs_at hj, am_fv, hzero, hnull]
          dsimp only [Option.getD]
          by_cases h2 : am_ft (am_pa ps 0).toNat j = 2
          · rw [if_pos h2, this.1 h2]; rfl
          · rw [if_neg h2, this.2 h2]; rfl
        · refine am_W_new hsz hn hP1 hD1 (fun hq => ?_)
          have hce : am_ce g (st.1 + 1, st.2.1, st.2.2) st.1 = .inr ((am_pa ps 0).toNat, (List.range N).map (fun k => am_fv g (am_pa ps 0).toNat k (st.2.2 (st.1 : Int) k) (am_gr st.2.1 (st.1 : Int) k))) := by
            have e0 := am_ce_o (g := g) (st := (st.1 + 1, st.2.1, st.2.2)) (c := (st.1 : Int)) (by omega) (by rw [hlat]; exact hk) hci
            rw [Int.toNat_natCast, hlat, hqs] at e0
            exact e0
          rw [hq, ← hce] at hP1
          rw [show am_cv g st = am_cv g (st.1, st.2.1, st.2.2) from rfl, ← am_cv_push] at hP1
          have K := K ls H1 locs hl hP1 hS1 (by dsimp only; omega)
          rw [hd.2] at K
          dsimp only at K
          rw [show st.1 + 1 - n0 = st.1 - n0 + 1 by omega, show am_sl (st.1 + 1) - am_sl n0 = am_sl st.1 - am_sl n0 + N by omega, am_vP0 _ _ (by omega), Int.toNat_natCast, ← hq] at K
          exact K
    · cases hf
  · cases hw

theorem am_nz {v : Int} (h : v = 0 ∨ v = 1) : narrow .boolean (.int (Int32.ofInt v)) = .int (Int32.ofInt v) ∧ fits .boolean (.int (Int32.ofInt v)) = true := by
  rcases h with rfl | rfl <;> decide
def c_pZ (m i : Nat) (ps : List Int) : Bool := am_dc m i (.putfield (am_pa ps 2).toNat) 3 && c_fld m ps && decide (am_ft (am_pa ps 0).toNat (am_pa ps 1).toNat ≠ 2) && c_put m ps (fun t => decide (t = .boolean)) false
set_option maxHeartbeats 4000000 in
theorem g_pZ {mi i : Nat} {ps : List Int} (h : c_pZ mi i ps = true) : am_Go mi i (s_pZ ps) := by
  intro p l e R s m args below meth c Q g n0 cE C L S st r hc hf
  obtain ⟨hx, hb, hml, hown, hts, hini, hSB, hsz, -⟩ := C
  simp only [c_pZ, Bool.and_eq_true, am_dc_iff, decide_eq_true_eq] at h
  obtain ⟨⟨⟨hd, hfl⟩, hft⟩, hpu⟩ := h
  obtain ⟨Cn, T, N, hci, hk0, hcl, hk, hlk⟩ := c_fld_of hfl
  simp only [c_put, hcl, Bool.and_eq_true, decide_eq_true_eq] at hpu
  obtain ⟨⟨hty, hfin⟩, -⟩ := hpu
  unfold s_pZ at hf
  split at hf
  · next v cc S' =>
    split at hf
    · next his =>
      obtain ⟨i1, i2, i3⟩ := am_is_iff.mp his.1
      have hz := am_nz his.2
      unfold am_nx at hf
      cases hf
      refine Sp0 (fun _ K ls H locs hl hP hS hn => ?_)
      rw [am_vI, am_vP0 _ _ i3]
      have he := am_cv_at (g := g) i1
      have hq := (am_cl hcl).2.1 _ hk
      rw [hty] at hq
      rw [am_ce_o i3 i2 hci, am_lay_sz i2 hci hcl] at he
      refine va_put (A := fun q => g.1 ≤ q) hx hb hts (am_cl hcl).1 (am_tyT (am_pa ps 0).toNat) (am_cl hcl).2.1 (am_cl hcl).2.2 hown hSB.1 hP am_cv_D hS cc.toNat he hcl (am_pa ps 1).toNat hk (hts _ hlk) (fun _ h9 => h9) hfin hq hz.1 hz.2 (by simpa using hk) hd.1 (fun H1 locs1 hP1 hD1 hS1 => ?_)
      rw [am_set_o i2 i3 hci hcl hk0 hft] at hP1
      have K := K ls H1 locs1 hl hP1 hS1 hn
      rw [hd.2] at K
      exact K
    · cases hf
  · cases hf
def am_rk : FieldType → Bool
  | .object _ => true
  | .array _ => true
  | _ => false
theorem am_rk_ok {ty : FieldType} (h : am_rk ty = true) (a : Nat) : narrow ty (.ref a) = .ref a ∧ fits ty (.ref a) = true := by
  cases ty <;> first | exact ⟨rfl, rfl⟩ | cases h
def c_pF (m i : Nat) (ps : List Int) : Bool := am_dc m i (.putfield (am_pa ps 2).toNat) 3 && c_fld m ps && decide (am_ft (am_pa ps 0).toNat (am_pa ps 1).toNat = 2) && c_put m ps am_rk true
set_option maxHeartbeats 4000000 in
theorem g_pF {mi i : Nat} {ps : List Int} (h : c_pF mi i ps = true) : am_Go mi i (s_pF ps) := by
  intro p l e R s m args below meth c Q g n0 cE C L S st r hc hf
  obtain ⟨hx, hb, hml, hown, hts, hini, hSB, hsz, -⟩ := C
  simp only [c_pF, Bool.and_eq_true, am_dc_iff, decide_eq_true_eq] at h
  obtain ⟨⟨⟨hd, hfl⟩, hft⟩, hpu⟩ := h
  obtain ⟨Cn, T, N, hci, hk0, hcl, hk, hlk⟩ := c_fld_of hfl
  simp only [c_put, hcl, Bool.and_eq_true, decide_eq_true_eq, Bool.not_true, Bool.false_or] at hpu
  obtain ⟨⟨hty, hfin⟩, hnm, hdl⟩ := hpu
  unfold s_pF at hf
  split at hf
  · next v cc S' =>
    split at hf
    · next his =>
      obtain ⟨i1, i2, i3⟩ := am_is_iff.mp his.1
      have hv := his.2
      unfold am_nx at hf
      cases hf
      refine Sp0 (fun _ K ls H locs hl hP hS hn => ?_)
      rw [am_vP0 _ _ hv, am_vP0 _ _ i3]
      have he := am_cv_at (g := g) i1
      have hq := (am_cl hcl).2.1 _ hk
      have hr := am_rk_ok hty (g.1 + v.toNat)
      rw [am_ce_o i3 i2 hci, am_lay_sz i2 hci hcl] at he
      refine va_putF (A := fun q => g.1 ≤ q) hx hb hts (am_cl hcl).1 (am_tyT (am_pa ps 0).toNat) (am_cl hcl).2.1 (am_cl hcl).2.2 hown hSB.1 hP am_cv_D hS cc.toNat he hcl (am_pa ps 1).toNat hk (hts _ hlk) (fun _ h9 => h9) hfin (hini hnm) hdl hq hr.1 hr.2 (by simpa using hk) hd.1 (fun H1 locs1 hP1 hD1 hS1 => ?_)
      rw [am_set_r i2 i3 hci hcl hk0 hft hv] at hP1
      have K := K ls H1 locs1 hl hP1 hS1 hn
      rw [hd.2] at K
      exact K
    · cases hf
  · cases hf
theorem g_iald {mi i : Nat} (h : am_dc mi i .iaload 1 = true) : am_Go mi i s_iald := by
  intro p l e R s m args below meth c Q g n0 cE C L S st r hc hf
  obtain ⟨hx, hb, hml, hown, hts, hini, hSB, hsz, -⟩ := C
  rw [am_dc_iff] at h
  unfold s_iald at hf
  split at hf
  · next ix cc S' =>
    have rv : r3 ix := (Ca_hd hc).1 rfl
    split at hf
    · next hcc =>
      split at hf
      · next hi =>
        subst hcc
        unfold am_nx at hf
        cases hf
        refine Sp0 (fun _ K ls H locs hl hP hS hn => ?_)
        have K := K ls H locs hl hP hS hn
        have hlen := hc.2.2.2.2.2.2.2
        have hsc := hc.2.2.2.2.2.2.1
        have hix : ix.toNat < g.2.2.2.2.1 := by omega
        have hv := hsc _ hix
        rw [Int.toNat_of_nonneg hi.1] at hv
        rw [h.2, am_vI, hv, am_i3] at K
        rw [am_vI, am_vP, if_pos (by decide)]
        refine va_sld (A := fun q => g.1 ≤ q) hx hb hSB.2.2.2.2.1 (by rw [hsz]; have := hSB.2.2.2.2.2; omega) (Nat.not_le.mpr hSB.2.2.2.2.2) hS (am_in rv hi.1 (by omega)) h.1 ?_
        rw [am_clamp rv]
        exact K
      · cases hf
    · split at hf
      · next his =>
        obtain ⟨i1, i2, i3⟩ := am_is_iff.mp his.1
        obtain ⟨j1, j2⟩ := am_ix_iff.mp his.2
        unfold am_nx at hf
        cases hf
        refine Sp0 (fun _ K ls H locs hl hP hS hn => ?_)
        have K := K ls H locs hl hP hS hn
        rw [h.2, am_vI] at K
        rw [am_vI, am_vP0 _ _ i3]
        have he := am_cv_at (g := g) i1
        rw [am_ce_20 i3 i2] at he
        refine va_iald hx hb hSB.1 hP cc.toNat 0 he rfl (am_in rv j1 j2) h.1 ?_
        try dsimp only
        rw [am_clamp rv, Int.toNat_of_nonneg j1]
        exact K
      · cases hf
  · cases hf
theorem g_lald {mi i : Nat} (h : am_dc mi i .laload 1 = true) : am_Go mi i s_lald := by
  intro p l e R s m args below meth c Q g n0 cE C L S st r hc hf
  obtain ⟨hx, hb, hml, hown, hts, hini, hSB, hsz, -⟩ := C
  rw [am_dc_iff] at h
  unfold s_lald at hf
  split at hf
  · next ix cc S' =>
    have rv : r3 ix := (Ca_hd hc).1 rfl
    split at hf
    · next his =>
      obtain ⟨i1, i2, i3⟩ := am_is_iff.mp his.1
      obtain ⟨j1, j2⟩ := am_ix_iff.mp his.2
      unfold am_nx at hf
      cases hf
      refine Sp0 (fun _ K ls H locs hl hP hS hn => ?_)
      have K := K ls H locs hl hP hS hn
      rw [h.2, am_vJ] at K
      rw [am_vI, am_vP0 _ _ i3]
      have he := am_cv_at (g := g) i1
      rw [am_ce_21 i3 i2] at he
      refine va_lald hx hb hSB.1 hP cc.toNat 1 he rfl (am_in rv j1 j2) h.1 ?_
      try dsimp only
      rw [am_clamp rv, Int.toNat_of_nonneg j1]
      exact K
    · cases hf
  · cases hf
theorem g_iast {mi i : Nat} (h : am_dc mi i .iastore 1 = true) : am_Go mi i s_iast := by
  intro p l e R s m args below meth c Q g n0 cE C L S st r hc hf
  obtain ⟨hx, hb, hml, hown, hts, hini, hSB, hsz, -⟩ := C
  rw [am_dc_iff] at h
  unfold s_iast at hf
  split at hf
  · next v ix cc S' =>
    have rv : r3 ix := (Ca_hd (Ca_tl hc)).1 rfl
    split at hf
    · next his =>
      obtain ⟨i1, i2, i3⟩ := am_is_iff.mp his.1
      obtain ⟨j1, j2⟩ := am_ix_iff.mp his.2
      unfold am_nx at hf
      cases hf
      refine Sp0 (fun _ K ls H locs hl hP hS hn => ?_)
      rw [am_vI, am_vI, am_vP0 _ _ i3]
      have he := am_cv_at (g := g) i1
      rw [am_ce_20 i3 i2] at he
      refine va_iast (A := fun q => g.1 ≤ q) hx hb hSB.1 hP am_cv_D hS cc.toNat 0 he rfl (am_in rv j1 j2) h.1 (fun H1 locs1 hP1 hD1 hS1 => ?_)
      rw [am_clamp rv, am_set_20 i2 i3 j1] at hP1
      have K := K ls H1 locs1 hl hP1 hS1 hn
      rw [h.2] at K
      exact K
    · cases hf
  · cases hf
theorem g_last {mi i : Nat} (h : am_dc mi i .lastore 1 = true) : am_Go mi i s_last := by
  intro p l e R s m args below meth c Q g n0 cE C L S st r hc hf
  obtain ⟨hx, hb, hml, hown, hts, hini, hSB, hsz, -⟩ := C
  rw [am_dc_iff] at h
  unfold s_last at hf
  split at hf
  · next v ix cc S' =>
    have rv : r3 ix := (Ca_hd (Ca_tl hc)).1 rfl
    split at hf
    · next his =>
      obtain ⟨i1, i2, i3⟩ := am_is_iff.mp his.1
      obtain ⟨j1, j2⟩ := am_ix_iff.mp his.2
      unfold am_nx at hf
      cases hf
      refine Sp0 (fun _ K ls H locs hl hP hS hn => ?_)
      rw [am_vJ, am_vI, am_vP0 _ _ i3]
      have he := am_cv_at (g := g) i1
      rw [am_ce_21 i3 i2] at he
      refine va_last (A := fun q => g.1 ≤ q) hx hb hSB.1 hP am_cv_D hS cc.toNat 1 he rfl (am_in rv j1 j2) h.1 (fun H1 locs1 hP1 hD1 hS1 => ?_)
      rw [am_clamp rv, am_set_21 i2 i3 j1] at hP1
      have K := K ls H1 locs1 hl hP1 hS1 hn
      rw [h.2] at K
      exact K
    · cases hf
  · cases hf
theorem g_aald {mi i : Nat} (h : am_dc mi i .aaload 1 = true) : am_Go mi i s_aald := by
  intro p l e R s m args below meth c Q g n0 cE C L S st r hc hf
  obtain ⟨hx, hb, hml, hown, hts, hini, hSB, hsz, -⟩ := C
  rw [am_dc_iff] at h
  unfold s_aald at hf
  split at hf
  · next ix cc S' =>
    have rv : r3 ix := (Ca_hd hc).1 rfl
    split at hf
    · next his =>
      obtain ⟨hk, hi, h0⟩ := his
      obtain ⟨j1, j2⟩ := am_ix_iff.mp hi
      unfold am_nx at hf
      cases hf
      refine Sp0 (fun _ K ls H locs hl hP hS hn => ?_)
      have K := K ls H locs hl hP hS hn
      rw [h.2, am_vP0 _ _ h0] at K
      have e0 : va_rf (am_oR g (am_gr st.2.1 cc ix)) = .ref (g.1 + (am_gr st.2.1 cc ix).toNat) := by
        rw [am_oR, if_neg (by omega)]; rfl
      rcases hk with hk | hk
      · obtain ⟨i1, i2, i3⟩ := am_is_iff.mp hk
        rw [am_vI, am_vP0 _ _ i3]
        have he := am_cv_at (g := g) i1
        rw [am_ce_22 i3 i2] at he
        refine va_aldq hx hb hSB.1 hP cc.toNat 2 he rfl (am_in rv j1 j2) h.1 ?_
        try dsimp only
        rw [am_clamp rv, Int.toNat_of_nonneg j1, e0]
        exact K
      · obtain ⟨i1, i2, i3⟩ := am_is_iff.mp hk
        rw [am_vI, am_vP0 _ _ i3]
        have he := am_cv_at (g := g) i1
        rw [am_ce_23 i3 i2] at he
        refine va_aldq hx hb hSB.1 hP cc.toNat 3 he rfl (am_in rv j1 j2) h.1 ?_
        try dsimp only
        rw [am_clamp rv, Int.toNat_of_nonneg j1, e0]
        exact K
    · cases hf
  · cases hf
set_option maxHeartbeats 4000000 in
theorem g_aast {mi i : Nat} (h : am_dc mi i .aastore 1 = true) : am_Go mi i s_aast := by
  intro p l e R s m args below meth c Q g n0 cE C L S st r hc hf
  obtain ⟨hx, hb, hml, hown, hts, hini, hSB, hsz, -⟩ := C
  rw [am_dc_iff] at h
  unfold s_aast at hf
  split at hf
  · next v ix cc S' =>
    have rv : r3 ix := (Ca_hd (Ca_tl hc)).1 rfl
    split at hf
    · next his =>
      obtain ⟨hk, hi⟩ := his
      obtain ⟨j1, j2⟩ := am_ix_iff.mp hi
      unfold am_nx at hf
      cases hf
      refine Sp0 (fun _ K ls H locs hl hP hS hn => ?_)
      rcases hk with ⟨hk, hv⟩ | ⟨hk, hv⟩
      · obtain ⟨i1, i2, i3⟩ := am_is_iff.mp hk
        obtain ⟨v1, v2, v3⟩ := am_is_iff.mp hv
        rw [am_vP0 _ _ v3, am_vI, am_vP0 _ _ i3]
        have he := am_cv_at (g := g) i1
        rw [am_ce_22 i3 i2] at he
        have hw := am_cv_at (g := g) v1
        rw [am_ce_o v3 v2 (by decide)] at hw
        refine va_astq (A := fun q => g.1 ≤ q) (r := (RX3, TX3, 6)) hx hb hSB.1 hP am_cv_D hS cc.toNat 2 v.toNat 3 he rfl hw rfl (am_in rv j1 j2) h.1 (fun H1 locs1 hP1 hD1 hS1 => ?_)
        rw [am_clamp rv, am_oR_up j1 v3] at hP1
        have hq := am_cv_set (g := g) (st := st) (st' := (st.1, (cc, ix, v) :: st.2.1, st.2.2)) (c := cc.toNat) rfl (am_ce_rf i3)
        rw [am_ce_22 i3 i2] at hq
        dsimp only at hq
        rw [hq] at hP1
        have K := K ls H1 locs1 hl hP1 hS1 hn
        rw [h.2] at K
        exact K
      · obtain ⟨i1, i2, i3⟩ := am_is_iff.mp hk
        obtain ⟨v1, v2, v3⟩ := am_is_iff.mp hv
        rw [am_vP0 _ _ v3, am_vI, am_vP0 _ _ i3]
        have he := am_cv_at (g := g) i1
        rw [am_ce_23 i3 i2] at he
        have hw := am_cv_at (g := g) v1
        rw [am_ce_o v3 v2 (by decide)] at hw
        refine va_astq (A := fun q => g.1 ≤ q) (r := (RX6, TX6, 4)) hx hb hSB.1 hP am_cv_D hS cc.toNat 3 v.toNat 6 he rfl hw rfl (am_in rv j1 j2) h.1 (fun H1 locs1 hP1 hD1 hS1 => ?_)
        rw [am_clamp rv, am_oR_up j1 v3] at hP1
        have hq := am_cv_set (g := g) (st := st) (st' := (st.1, (cc, ix, v) :: st.2.1, st.2.2)) (c := cc.toNat) rfl (am_ce_rf i3)
        rw [am_ce_23 i3 i2] at hq
        dsimp only at hq
        rw [hq] at hP1
        have K := K ls H1 locs1 hl hP1 hS1 hn
        rw [h.2] at K
        exact K
    · cases hf
  · cases hf
theorem g_alen {mi i : Nat} (h : am_dc mi i .arraylength 1 = true) : am_Go mi i s_alen := by
  intro p l e R s m args below meth c Q g n0 cE C L S st r hc hf
  obtain ⟨hx, hb, hml, hown, hts, hini, hSB, hsz, -⟩ := C
  rw [am_dc_iff] at h
  unfold s_alen at hf
  split at hf
  · next cc S' =>
    split at hf
    · next hcc =>
      subst hcc
      unfold am_nx at hf
      cases hf
      refine Sp0 (fun _ K ls H locs hl hP hS hn => ?_)
      have K := K ls H locs hl hP hS hn
      have hlen := hc.2.2.2.2.2.2.2
      rw [h.2, am_vI, hlen, Int32.ofInt_eq_ofNat] at K
      rw [am_vP, if_pos (by decide)]
      exact va_slen (A := fun q => g.1 ≤ q) hx hb hSB.2.2.2.2.1 (by rw [hsz]; have := hSB.2.2.2.2.2; omega) (Nat.not_le.mpr hSB.2.2.2.2.2) hS h.1 K
    · split at hf
      · next his =>
        unfold am_nx at hf
        cases hf
        refine Sp0 (fun _ K ls H locs hl hP hS hn => ?_)
        have K := K ls H locs hl hP hS hn
        rw [h.2, am_vI, Int32.ofInt_eq_ofNat] at K
        rcases his with hk | hk
        · obtain ⟨i1, i2, i3⟩ := am_is_iff.mp hk
          rw [am_vP0 _ _ i3]
          have he := am_cv_at (g := g) i1
          rw [am_ce_20 i3 i2] at he
          exact va_alen hx hb hSB.1 hP cc.toNat 0 he rfl rfl h.1 K
        · obtain ⟨i1, i2, i3⟩ := am_is_iff.mp hk
          rw [am_vP0 _ _ i3]
          have he := am_cv_at (g := g) i1
          rw [am_ce_21 i3 i2] at he
          exact va_alen hx hb hSB.1 hP cc.toNat 1 he rfl rfl h.1 K
      · cases hf
  · cases hf

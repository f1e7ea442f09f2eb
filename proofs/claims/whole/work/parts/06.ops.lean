theorem LH_ll {g : am_G} {ls : Array Slot} {nL : Nat} {L : List am_V} (h : am_LH g ls nL L) : lv_has ls nL ((List.range L.length).filterMap (fun j => match L[j]? with | some v => if v.1 < 3 then some (j, am_vv g v) else none | none => none)) := by
  refine ⟨h.1, h.2.1, fun q hq => ?_⟩
  obtain ⟨j, -, hj⟩ := List.mem_filterMap.mp hq
  cases hv : L[j]? with
  | none => rw [hv] at hj; cases hj
  | some v =>
    rw [hv] at hj
    dsimp only at hj
    split at hj
    · next h3 =>
      cases hj
      exact h.2.2.2 j v hv h3
    · cases hj
theorem LH_in {g : am_G} {L : List am_V} {j : Nat} {v : am_V} (hv : L[j]? = some v) (h3 : v.1 < 3) : (j, am_vv g v) ∈ (List.range L.length).filterMap (fun j => match L[j]? with | some v => if v.1 < 3 then some (j, am_vv g v) else none | none => none) := by
  refine List.mem_filterMap.mpr ⟨j, List.mem_range.mpr (List.getElem?_eq_some_iff.mp hv).1, ?_⟩
  rw [hv]
  dsimp only
  rw [if_pos h3]
theorem LH_set {g : am_G} {ls ls' : Array Slot} {nL k : Nat} {L : List am_V} {v : am_V} {lv : List (Nat × Value)} (h : am_LH g ls nL L) (hlv : ∀ (j : Nat) (u : am_V), L[j]? = some u → u.1 < 3 → (j, am_vv g u) ∈ lv)
    (h' : lv_has ls' nL ((k, am_vv g v) :: lv.filter (fun q => !(q.1 == k) && !(q.1 + 1 == k && q.2.category == 2)))) (hso : am_so L k = true) : am_LH g ls' nL (L.set k v) := by
  refine ⟨h'.1, h'.2.1, by rw [List.length_set]; exact h.2.2.1, fun j u hu h3 => ?_⟩
  by_cases hjk : j = k
  · subst hjk
    have hl : j < L.length := by
      have := (List.getElem?_eq_some_iff.mp hu).1
      rwa [List.length_set] at this
    rw [List.getElem?_set_self hl] at hu
    cases hu
    exact h'.2.2 _ List.mem_cons_self
  · rw [List.getElem?_set_ne (Ne.symm hjk)] at hu
    refine h'.2.2 (j, am_vv g u) (List.mem_cons_of_mem _ (List.mem_filter.mpr ⟨hlv j u hu h3, ?_⟩))
    have h1 : (j == k) = false := by simp [hjk]
    simp only [h1, Bool.not_false, Bool.true_and, Bool.not_eq_true', Bool.and_eq_false_iff]
    by_cases hk : j + 1 = k
    · right
      subst hk
      simp only [am_so, Bool.or_eq_true] at hso
      rcases hso with hso | hso
      · simp at hso
      · have : L.getD (j + 1 - 1) aX = u := by
          rw [Nat.add_sub_cancel, List.getD_eq_getElem?_getD, hu]
          rfl
        rw [this] at hso
        rw [am_cat_vv g u hso]
        rfl
    · left
      simp [hk]
def c_iconst (m i : Nat) (ps : List Int) : Bool := am_dc m i (.iconst (am_pa ps 0)) 1
def c_bpush (m i : Nat) (ps : List Int) : Bool := am_dc m i (.bipush (am_pa ps 0)) 2 && decide ((Int8.ofInt (am_pa ps 0)).toInt32 = Int32.ofInt (am_pa ps 0))
def c_spush (m i : Nat) (ps : List Int) : Bool := am_dc m i (.sipush (am_pa ps 0)) 3 && decide ((Int16.ofInt (am_pa ps 0)).toInt32 = Int32.ofInt (am_pa ps 0))
def c_ldc (m i : Nat) (ps : List Int) : Bool := am_dc m i (.ldc (am_pa ps 1).toNat) 2 && am_wd (am_pa ps 2).toNat (.constant (am_yn m).cls (am_pa ps 1).toNat (Int32.ofInt (am_pa ps 0)))
def c_ldcw (m i : Nat) (ps : List Int) : Bool := am_dc m i (.ldc_w (am_pa ps 1).toNat) 3 && am_wd (am_pa ps 2).toNat (.constant (am_yn m).cls (am_pa ps 1).toNat (Int32.ofInt (am_pa ps 0)))
def c_lconst (m i : Nat) (ps : List Int) : Bool := am_dc m i (.lconst (Fin.ofNat 2 (am_pa ps 0).toNat)) 1 && decide (Int64.ofNat ((Fin.ofNat 2 (am_pa ps 0).toNat : Fin 2) : Nat) = Int64.ofInt (am_pa ps 0))
def c_ldc2 (m i : Nat) (ps : List Int) : Bool := am_dc m i (.ldc2_w (am_pa ps 1).toNat) 3 && am_wd (am_pa ps 2).toNat (.constantLong (am_yn m).cls (am_pa ps 1).toNat (Int64.ofInt (am_pa ps 0)))
theorem g_iconst {mi i : Nat} {ps : List Int} (h : c_iconst mi i ps = true) : am_Go mi i (s_cst ps) := by
  intro p l e R s m args below meth c Q g n0 cE C L S st r hc hf
  obtain ⟨hx, hb, -⟩ := C
  simp only [c_iconst, am_dc_iff] at h
  unfold s_cst am_nx at hf
  cases hf
  refine Sp0 (fun _ K ls H locs hl hP hS hn => ?_)
  have K := K ls H locs hl hP hS hn
  rw [h.2] at K
  exact lv_iconst hx hb h.1 rfl K
theorem g_bpush {mi i : Nat} {ps : List Int} (h : c_bpush mi i ps = true) : am_Go mi i (s_cst ps) := by
  intro p l e R s m args below meth c Q g n0 cE C L S st r hc hf
  obtain ⟨hx, hb, -⟩ := C
  simp only [c_bpush, Bool.and_eq_true, am_dc_iff, decide_eq_true_eq] at h
  unfold s_cst am_nx at hf
  cases hf
  refine Sp0 (fun _ K ls H locs hl hP hS hn => ?_)
  have K := K ls H locs hl hP hS hn
  rw [h.1.2] at K
  exact lv_bipush hx hb h.1.1 h.2 K
theorem g_spush {mi i : Nat} {ps : List Int} (h : c_spush mi i ps = true) : am_Go mi i (s_cst ps) := by
  intro p l e R s m args below meth c Q g n0 cE C L S st r hc hf
  obtain ⟨hx, hb, -⟩ := C
  simp only [c_spush, Bool.and_eq_true, am_dc_iff, decide_eq_true_eq] at h
  unfold s_cst am_nx at hf
  cases hf
  refine Sp0 (fun _ K ls H locs hl hP hS hn => ?_)
  have K := K ls H locs hl hP hS hn
  rw [h.1.2] at K
  exact lv_sipush hx hb h.1.1 h.2 K
theorem g_ldc {mi i : Nat} {ps : List Int} (h : c_ldc mi i ps = true) : am_Go mi i (s_cst ps) := by
  intro p l e R s m args below meth c Q g n0 cE C L S st r hc hf
  obtain ⟨hx, hb, hml, hown, hts, -⟩ := C
  simp only [c_ldc, Bool.and_eq_true, am_dc_iff] at h
  unfold s_cst am_nx at hf
  cases hf
  refine Sp0 (fun _ K ls H locs hl hP hS hn => ?_)
  have K := K ls H locs hl hP hS hn
  rw [h.1.2] at K
  exact lv_ldc hx hb hown (hts _ (am_wd_in h.2)) h.1.1 K
theorem g_ldcw {mi i : Nat} {ps : List Int} (h : c_ldcw mi i ps = true) : am_Go mi i (s_cst ps) := by
  intro p l e R s m args below meth c Q g n0 cE C L S st r hc hf
  obtain ⟨hx, hb, hml, hown, hts, -⟩ := C
  simp only [c_ldcw, Bool.and_eq_true, am_dc_iff] at h
  unfold s_cst am_nx at hf
  cases hf
  refine Sp0 (fun _ K ls H locs hl hP hS hn => ?_)
  have K := K ls H locs hl hP hS hn
  rw [h.1.2] at K
  exact lv_ldcw hx hb hown (hts _ (am_wd_in h.2)) h.1.1 K
theorem g_lconst {mi i : Nat} {ps : List Int} (h : c_lconst mi i ps = true) : am_Go mi i (s_lcst ps) := by
  intro p l e R s m args below meth c Q g n0 cE C L S st r hc hf
  obtain ⟨hx, hb, -⟩ := C
  simp only [c_lconst, Bool.and_eq_true, am_dc_iff, decide_eq_true_eq] at h
  unfold s_lcst am_nx at hf
  cases hf
  refine Sp0 (fun _ K ls H locs hl hP hS hn => ?_)
  have K := K ls H locs hl hP hS hn
  rw [h.1.2] at K
  exact lv_lconst hx hb h.1.1 h.2 K
theorem g_ldc2 {mi i : Nat} {ps : List Int} (h : c_ldc2 mi i ps = true) : am_Go mi i (s_lcst ps) := by
  intro p l e R s m args below meth c Q g n0 cE C L S st r hc hf
  obtain ⟨hx, hb, hml, hown, hts, -⟩ := C
  simp only [c_ldc2, Bool.and_eq_true, am_dc_iff] at h
  unfold s_lcst am_nx at hf
  cases hf
  refine Sp0 (fun _ K ls H locs hl hP hS hn => ?_)
  have K := K ls H locs hl hP hS hn
  rw [h.1.2] at K
  exact lv_ldc2 hx hb hown (hts _ (am_wd_in h.2)) h.1.1 K
def c_loc (mkn : Fin 4 → Instr) (mk : Nat → Instr) (m i : Nat) (ps : List Int) : Bool := if am_pa ps 1 = 1 then decide ((am_pa ps 0).toNat < 4) && am_dc m i (mkn (Fin.ofNat 4 (am_pa ps 0).toNat)) 1 else am_dc m i (mk (am_pa ps 0).toNat) 2
theorem c_loc_or {mkn : Fin 4 → Instr} {mk : Nat → Instr} {m i : Nat} {ps : List Int} (h : c_loc mkn mk m i ps = true) : (((Fin.ofNat 4 (am_pa ps 0).toNat : Fin 4) : Nat) = (am_pa ps 0).toNat ∧ decode (am_by m) (am_pc m i) = .ok (mkn (Fin.ofNat 4 (am_pa ps 0).toNat), 1) ∧ am_pc m (i + 1) = am_pc m i + 1) ∨ (decode (am_by m) (am_pc m i) = .ok (mk (am_pa ps 0).toNat, 2) ∧ am_pc m (i + 1) = am_pc m i + 2) := by
  unfold c_loc at h
  split at h
  · simp only [Bool.and_eq_true, decide_eq_true_eq, am_dc_iff] at h
    exact Or.inl ⟨Nat.mod_eq_of_lt h.1, h.2⟩
  · rw [am_dc_iff] at h
    exact Or.inr h
theorem g_ild {mi i : Nat} {ps : List Int} (h : c_loc .iload_n .iload mi i ps = true) : am_Go mi i (s_ld 0 ps) := by
  intro p l e R s m args below meth c Q g n0 cE C L S st r hc hf
  obtain ⟨hx, hb, -⟩ := C
  unfold s_ld at hf
  split at hf
  · next v hv =>
    split at hf
    · next ht =>
      obtain ⟨t, x⟩ := v
      dsimp only at ht
      subst ht
      unfold am_nx at hf
      cases hf
      refine Sp0 (fun _ K ls H locs hl hP hS hn => ?_)
      have K := K ls H locs hl hP hS hn
      have hs := hl.2.2.2 _ _ hv (by simp)
      rcases c_loc_or h with ⟨h1, h2, h3⟩ | ⟨h2, h3⟩
      · rw [h3] at K
        exact lv_iload_n hx hb h2 h1 hs K
      · rw [h3] at K
        exact lv_iload hx hb h2 hs K
    · cases hf
  · cases hf
theorem g_ald {mi i : Nat} {ps : List Int} (h : c_loc .aload_n .aload mi i ps = true) : am_Go mi i (s_ld 2 ps) := by
  intro p l e R s m args below meth c Q g n0 cE C L S st r hc hf
  obtain ⟨hx, hb, -⟩ := C
  unfold s_ld at hf
  split at hf
  · next v hv =>
    split at hf
    · next ht =>
      obtain ⟨t, x⟩ := v
      dsimp only at ht
      subst ht
      unfold am_nx at hf
      cases hf
      refine Sp0 (fun _ K ls H locs hl hP hS hn => ?_)
      have K := K ls H locs hl hP hS hn
      have hs := hl.2.2.2 _ _ hv (by simp)
      rcases c_loc_or h with ⟨h1, h2, h3⟩ | ⟨h2, h3⟩
      · rw [h3] at K
        exact lv_aload_n hx hb h2 h1 hs K
      · rw [h3] at K
        exact lv_aload hx hb h2 hs K
    · cases hf
  · cases hf
theorem g_lld {mi i : Nat} {ps : List Int} (h : c_loc .lload_n .lload mi i ps = true) : am_Go mi i (s_ld 1 ps) := by
  intro p l e R s m args below meth c Q g n0 cE C L S st r hc hf
  obtain ⟨hx, hb, -⟩ := C
  unfold s_ld at hf
  split at hf
  · next v hv =>
    split at hf
    · next ht =>
      obtain ⟨t, x⟩ := v
      dsimp only at ht
      subst ht
      unfold am_nx at hf
      cases hf
      refine Sp0 (fun _ K ls H locs hl hP hS hn => ?_)
      have K := K ls H locs hl hP hS hn
      have hs := hl.2.2.2 _ _ hv (by simp)
      rcases c_loc_or h with ⟨h1, h2, h3⟩ | ⟨h2, h3⟩
      · rw [h3] at K
        exact lv_lload_n hx hb h2 h1 hs K
      · rw [h3] at K
        exact lv_lload hx hb h2 hs K
    · cases hf
  · cases hf
theorem g_ist {mi i : Nat} {ps : List Int} (h : c_loc .istore_n .istore mi i ps = true) : am_Go mi i (s_st 0 ps) := by
  intro p l e R s m args below meth c Q g n0 cE C L S st r hc hf
  obtain ⟨hx, hb, -⟩ := C
  unfold s_st at hf
  split at hf
  · next v S' =>
    split at hf
    · next ht =>
      obtain ⟨t, x⟩ := v
      dsimp only at ht
      obtain ⟨rfl, hlt, hso⟩ := ht
      unfold am_nx at hf
      cases hf
      refine Sp0 (fun _ K ls H locs hl hP hS hn => ?_)
      have hk : (am_pa ps 0).toNat < am_mx mi := by rw [← hl.2.2.1]; exact hlt
      have go : ∀ ls', lv_has ls' (am_mx mi) (((am_pa ps 0).toNat, Value.int (Int32.ofInt x)) :: ((List.range L.length).filterMap (fun j => match L[j]? with | some v => if v.1 < 3 then some (j, am_vv g v) else none | none => none)).filter (fun q => !(q.1 == (am_pa ps 0).toNat) && !(q.1 + 1 == (am_pa ps 0).toNat && q.2.category == 2))) → am_LH g ls' (am_mx mi) (L.set (am_pa ps 0).toNat (0, x)) := fun ls' hl' => LH_set (v := (0, x)) hl (fun j u hu h3 => LH_in hu h3) hl' hso
      rcases c_loc_or h with ⟨h1, h2, h3⟩ | ⟨h2, h3⟩
      · rw [show am_vs g ((0, x) :: S') = .int (Int32.ofInt x) :: am_vs g S' from rfl]
        refine lv_istore_n hx hb h2 h1 (LH_ll hl) hk rfl (fun ls' hl' => ?_)
        have K := K ls' H locs (go ls' hl') hP hS hn
        rw [h3] at K
        exact K
      · rw [show am_vs g ((0, x) :: S') = .int (Int32.ofInt x) :: am_vs g S' from rfl]
        refine lv_istore hx hb h2 (LH_ll hl) hk rfl (fun ls' hl' => ?_)
        have K := K ls' H locs (go ls' hl') hP hS hn
        rw [h3] at K
        exact K
    · cases hf
  · cases hf
theorem g_ast {mi i : Nat} {ps : List Int} (h : c_loc .astore_n .astore mi i ps = true) : am_Go mi i (s_st 2 ps) := by
  intro p l e R s m args below meth c Q g n0 cE C L S st r hc hf
  obtain ⟨hx, hb, -⟩ := C
  unfold s_st at hf
  split at hf
  · next v S' =>
    split at hf
    · next ht =>
      obtain ⟨t, x⟩ := v
      dsimp only at ht
      obtain ⟨rfl, hlt, hso⟩ := ht
      unfold am_nx at hf
      cases hf
      refine Sp0 (fun _ K ls H locs hl hP hS hn => ?_)
      have hk : (am_pa ps 0).toNat < am_mx mi := by rw [← hl.2.2.1]; exact hlt
      have go : ∀ ls', lv_has ls' (am_mx mi) (((am_pa ps 0).toNat, am_vv g (2, x)) :: ((List.range L.length).filterMap (fun j => match L[j]? with | some v => if v.1 < 3 then some (j, am_vv g v) else none | none => none)).filter (fun q => !(q.1 == (am_pa ps 0).toNat) && !(q.1 + 1 == (am_pa ps 0).toNat && q.2.category == 2))) → am_LH g ls' (am_mx mi) (L.set (am_pa ps 0).toNat (2, x)) := fun ls' hl' => LH_set (v := (2, x)) hl (fun j u hu h3 => LH_in hu h3) hl' hso
      rcases c_loc_or h with ⟨h1, h2, h3⟩ | ⟨h2, h3⟩
      · rw [am_vP]
        refine lv_astore_n hx hb h2 h1 (LH_ll hl) hk rfl (fun ls' hl' => ?_)
        have K := K ls' H locs (go ls' hl') hP hS hn
        rw [h3] at K
        exact K
      · rw [am_vP]
        refine lv_astore hx hb h2 (LH_ll hl) hk rfl (fun ls' hl' => ?_)
        have K := K ls' H locs (go ls' hl') hP hS hn
        rw [h3] at K
        exact K
    · cases hf
  · cases hf
def c_inc (m i : Nat) (ps : List Int) : Bool := am_dc m i (.iinc (am_pa ps 0).toNat (am_pa ps 1)) 3
theorem g_inc {mi i : Nat} {ps : List Int} (h : c_inc mi i ps = true) : am_Go mi i (s_inc ps) := by
  intro p l e R s m args below meth c Q g n0 cE C L S st r hc hf
  obtain ⟨hx, hb, -⟩ := C
  simp only [c_inc, am_dc_iff] at h
  unfold s_inc at hf
  split at hf
  · next v hv =>
    split at hf
    · next ht =>
      obtain ⟨t, x⟩ := v
      dsimp only at ht
      obtain ⟨rfl, hso⟩ := ht
      unfold am_nx at hf
      cases hf
      refine Sp0 (fun _ K ls H locs hl hP hS hn => ?_)
      have hk : (am_pa ps 0).toNat < am_mx mi := by rw [← hl.2.2.1]; exact (List.getElem?_eq_some_iff.mp hv).1
      have hl2 : lv_has ls (am_mx mi) (((am_pa ps 0).toNat, Value.int (Int32.ofInt x)) :: (List.range L.length).filterMap (fun j => match L[j]? with | some v => if v.1 < 3 then some (j, am_vv g v) else none | none => none)) := by
        have q := LH_ll hl
        refine ⟨q.1, q.2.1, fun z hz => ?_⟩
        rcases List.mem_cons.mp hz with e | e
        · rw [e]; exact hl.2.2.2 _ _ hv (by simp)
        · exact q.2.2 z e
      refine lv_iinc (k := 0) (v := Int32.ofInt (w3 (x + am_pa ps 1))) hx hb h.1 hl2 rfl ?_ hk rfl (fun ls' hl' => ?_)
      · unfold w3
        rw [am_i3, Int32.ofInt_add]
      · have K := K ls' H locs (LH_set (v := (0, w3 (x + am_pa ps 1))) hl (fun j u hu h3 => List.mem_cons_of_mem _ (LH_in hu h3)) hl' hso) hP hS hn
        rw [h.2] at K
        exact K
    · cases hf
  · cases hf

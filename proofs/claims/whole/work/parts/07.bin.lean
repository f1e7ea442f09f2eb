section AMB
variable {mi i : Nat}
theorem g_bin {f : Int32 → Int32 → Int32} {ins : Instr} (hd : am_dc mi i ins 1 = true)
    (row : ∀ {p : Program} {l : Launch} {e : Env} {R : Room} {s : State} {m : MethodId} {args : Array Value} {below : List Frame} {meth : Method} {c : Code} {H : Heap} {locs : List Loc} {cells slots : Nat} {Q : State → Prop} {ls : Array Slot} {rest : List Value} {x y : Int32}, p.tables.exec = Jvm.exec → c.code = am_by mi → decode (am_by mi) (am_pc mi i) = .ok (ins, 1) → W p l e R s m args below meth c H locs cells slots Q (F0 m (am_pc mi i + 1) ls (.int (f x y) :: rest)) → W p l e R s m args below meth c H locs cells slots Q (F0 m (am_pc mi i) ls (.int y :: .int x :: rest))) : am_Go mi i (s_bin f) := by
  intro p l e R s m args below meth c Q g n0 cE C L S st r hc hf
  obtain ⟨hx, hb, -⟩ := C
  rw [am_dc_iff] at hd
  unfold s_bin at hf
  split at hf
  · unfold am_nx at hf
    cases hf
    refine Sp0 (fun _ K ls H locs hl hP hS hn => ?_)
    have K := K ls H locs hl hP hS hn
    rw [hd.2, am_vI, am_i3] at K
    exact row hx hb hd.1 K
  · cases hf
theorem g_bin0 {f : Int32 → Int32 → Int32} {ins : Instr} (hd : am_dc mi i ins 1 = true)
    (row : ∀ {p : Program} {l : Launch} {e : Env} {R : Room} {s : State} {m : MethodId} {args : Array Value} {below : List Frame} {meth : Method} {c : Code} {H : Heap} {locs : List Loc} {cells slots : Nat} {Q : State → Prop} {ls : Array Slot} {rest : List Value} {x y : Int32}, p.tables.exec = Jvm.exec → c.code = am_by mi → decode (am_by mi) (am_pc mi i) = .ok (ins, 1) → ¬ y = 0 → W p l e R s m args below meth c H locs cells slots Q (F0 m (am_pc mi i + 1) ls (.int (f x y) :: rest)) → W p l e R s m args below meth c H locs cells slots Q (F0 m (am_pc mi i) ls (.int y :: .int x :: rest))) : am_Go mi i (s_bin0 f) := by
  intro p l e R s m args below meth c Q g n0 cE C L S st r hc hf
  obtain ⟨hx, hb, -⟩ := C
  rw [am_dc_iff] at hd
  unfold s_bin0 at hf
  split at hf
  · next b a S' =>
    split at hf
    · cases hf
    · next hb0 =>
      unfold am_nx at hf
      cases hf
      refine Sp0 (fun _ K ls H locs hl hP hS hn => ?_)
      have K := K ls H locs hl hP hS hn
      rw [hd.2, am_vI, am_i3] at K
      refine row hx hb hd.1 (fun z => hb0 ?_) K
      have := congrArg Int32.toInt z
      rw [o3 ((Ca_hd hc).1 rfl)] at this
      exact this
  · cases hf
theorem g_un {f : Int32 → Int32} {ins : Instr} (hd : am_dc mi i ins 1 = true)
    (row : ∀ {p : Program} {l : Launch} {e : Env} {R : Room} {s : State} {m : MethodId} {args : Array Value} {below : List Frame} {meth : Method} {c : Code} {H : Heap} {locs : List Loc} {cells slots : Nat} {Q : State → Prop} {ls : Array Slot} {rest : List Value} {x : Int32}, p.tables.exec = Jvm.exec → c.code = am_by mi → decode (am_by mi) (am_pc mi i) = .ok (ins, 1) → W p l e R s m args below meth c H locs cells slots Q (F0 m (am_pc mi i + 1) ls (.int (f x) :: rest)) → W p l e R s m args below meth c H locs cells slots Q (F0 m (am_pc mi i) ls (.int x :: rest))) : am_Go mi i (s_un f) := by
  intro p l e R s m args below meth c Q g n0 cE C L S st r hc hf
  obtain ⟨hx, hb, -⟩ := C
  rw [am_dc_iff] at hd
  unfold s_un at hf
  split at hf
  · unfold am_nx at hf
    cases hf
    refine Sp0 (fun _ K ls H locs hl hP hS hn => ?_)
    have K := K ls H locs hl hP hS hn
    rw [hd.2, am_vI, am_i3] at K
    exact row hx hb hd.1 K
  · cases hf
theorem g_lbin {f : Int64 → Int64 → Int64} {ins : Instr} (hd : am_dc mi i ins 1 = true)
    (row : ∀ {p : Program} {l : Launch} {e : Env} {R : Room} {s : State} {m : MethodId} {args : Array Value} {below : List Frame} {meth : Method} {c : Code} {H : Heap} {locs : List Loc} {cells slots : Nat} {Q : State → Prop} {ls : Array Slot} {rest : List Value} {x y : Int64}, p.tables.exec = Jvm.exec → c.code = am_by mi → decode (am_by mi) (am_pc mi i) = .ok (ins, 1) → W p l e R s m args below meth c H locs cells slots Q (F0 m (am_pc mi i + 1) ls (.long (f x y) :: rest)) → W p l e R s m args below meth c H locs cells slots Q (F0 m (am_pc mi i) ls (.long y :: .long x :: rest))) : am_Go mi i (s_lbin f) := by
  intro p l e R s m args below meth c Q g n0 cE C L S st r hc hf
  obtain ⟨hx, hb, -⟩ := C
  rw [am_dc_iff] at hd
  unfold s_lbin at hf
  split at hf
  · unfold am_nx at hf
    cases hf
    refine Sp0 (fun _ K ls H locs hl hP hS hn => ?_)
    have K := K ls H locs hl hP hS hn
    rw [hd.2, am_vJ, am_i6] at K
    exact row hx hb hd.1 K
  · cases hf
theorem g_lsh {f : Int64 → Int32 → Int64} {ins : Instr} (hd : am_dc mi i ins 1 = true)
    (row : ∀ {p : Program} {l : Launch} {e : Env} {R : Room} {s : State} {m : MethodId} {args : Array Value} {below : List Frame} {meth : Method} {c : Code} {H : Heap} {locs : List Loc} {cells slots : Nat} {Q : State → Prop} {ls : Array Slot} {rest : List Value} {x : Int64} {y : Int32}, p.tables.exec = Jvm.exec → c.code = am_by mi → decode (am_by mi) (am_pc mi i) = .ok (ins, 1) → W p l e R s m args below meth c H locs cells slots Q (F0 m (am_pc mi i + 1) ls (.long (f x y) :: rest)) → W p l e R s m args below meth c H locs cells slots Q (F0 m (am_pc mi i) ls (.int y :: .long x :: rest))) : am_Go mi i (s_lsh f) := by
  intro p l e R s m args below meth c Q g n0 cE C L S st r hc hf
  obtain ⟨hx, hb, -⟩ := C
  rw [am_dc_iff] at hd
  unfold s_lsh at hf
  split at hf
  · unfold am_nx at hf
    cases hf
    refine Sp0 (fun _ K ls H locs hl hP hS hn => ?_)
    have K := K ls H locs hl hP hS hn
    rw [hd.2, am_vJ, am_i6] at K
    exact row hx hb hd.1 K
  · cases hf
theorem g_lcmp (hd : am_dc mi i .lcmp 1 = true) : am_Go mi i s_lcmp := by
  intro p l e R s m args below meth c Q g n0 cE C L S st r hc hf
  obtain ⟨hx, hb, -⟩ := C
  rw [am_dc_iff] at hd
  unfold s_lcmp at hf
  split at hf
  · unfold am_nx at hf
    cases hf
    refine Sp0 (fun _ K ls H locs hl hP hS hn => ?_)
    have K := K ls H locs hl hP hS hn
    rw [hd.2, am_vI, am_i3] at K
    exact W.lcmp hx hb hd.1 K
  · cases hf
theorem g_i2l (hd : am_dc mi i .i2l 1 = true) : am_Go mi i s_i2l := by
  intro p l e R s m args below meth c Q g n0 cE C L S st r hc hf
  obtain ⟨hx, hb, -⟩ := C
  rw [am_dc_iff] at hd
  unfold s_i2l at hf
  split at hf
  · unfold am_nx at hf
    cases hf
    refine Sp0 (fun _ K ls H locs hl hP hS hn => ?_)
    have K := K ls H locs hl hP hS hn
    rw [hd.2, am_vJ, am_i6] at K
    exact lv_i2l hx hb hd.1 rfl K
  · cases hf
theorem g_l2i (hd : am_dc mi i .l2i 1 = true) : am_Go mi i s_l2i := by
  intro p l e R s m args below meth c Q g n0 cE C L S st r hc hf
  obtain ⟨hx, hb, -⟩ := C
  rw [am_dc_iff] at hd
  unfold s_l2i at hf
  split at hf
  · unfold am_nx at hf
    cases hf
    refine Sp0 (fun _ K ls H locs hl hP hS hn => ?_)
    have K := K ls H locs hl hP hS hn
    rw [hd.2, am_vI, am_i3] at K
    exact lv_l2i hx hb hd.1 rfl K
  · cases hf
theorem g_pop (hd : am_dc mi i .pop 1 = true) : am_Go mi i s_pop := by
  intro p l e R s m args below meth c Q g n0 cE C L S st r hc hf
  obtain ⟨hx, hb, -⟩ := C
  rw [am_dc_iff] at hd
  unfold s_pop at hf
  split at hf
  · split at hf
    · next hv =>
      unfold am_nx at hf
      cases hf
      refine Sp0 (fun _ K ls H locs hl hP hS hn => ?_)
      have K := K ls H locs hl hP hS hn
      rw [hd.2] at K
      exact lv_pop hx hb hd.1 (am_cat_vv g _ hv) K
    · cases hf
  · cases hf
theorem g_dup (hd : am_dc mi i .dup 1 = true) : am_Go mi i s_dup := by
  intro p l e R s m args below meth c Q g n0 cE C L S st r hc hf
  obtain ⟨hx, hb, -⟩ := C
  rw [am_dc_iff] at hd
  unfold s_dup at hf
  split at hf
  · split at hf
    · next hv =>
      unfold am_nx at hf
      cases hf
      refine Sp0 (fun _ K ls H locs hl hP hS hn => ?_)
      have K := K ls H locs hl hP hS hn
      rw [hd.2] at K
      exact lv_dup hx hb hd.1 (am_cat_vv g _ hv) K
    · cases hf
  · cases hf
theorem g_dup2 (hd : am_dc mi i .dup2 1 = true) : am_Go mi i s_dup2 := by
  intro p l e R s m args below meth c Q g n0 cE C L S st r hc hf
  obtain ⟨hx, hb, -⟩ := C
  rw [am_dc_iff] at hd
  unfold s_dup2 at hf
  split at hf
  · split at hf
    · next hv =>
      unfold am_nx at hf
      cases hf
      refine Sp0 (fun _ K ls H locs hl hP hS hn => ?_)
      have K := K ls H locs hl hP hS hn
      rw [hd.2] at K
      exact lv_dup2_11 hx hb hd.1 (am_cat_vv g _ hv.1) (am_cat_vv g _ hv.2) K
    · cases hf
  · cases hf
def am_of (m i : Nat) (t : Int) : Int := (am_pc m t.toNat : Int) - (am_pc m i : Int)
theorem am_of_eq (m i : Nat) (t : Int) : (am_pc m i : Int) + am_of m i t = (am_pc m t.toNat : Int) := by unfold am_of; omega
def am_cm (c : Int) : Jvm.ClassFile.Cond := if c = 0 then .eq else if c = 1 then .ne else if c = 2 then .lt else if c = 3 then .ge else if c = 4 then .gt else .le

def c_ifc (m i : Nat) (ps : List Int) : Bool := am_dc m i (.ifCond (am_cm (am_pa ps 0)) (am_of m i (am_pa ps 1))) 3
def c_icmp (m i : Nat) (ps : List Int) : Bool := am_dc m i (.if_icmp (am_cm (am_pa ps 0)) (am_of m i (am_pa ps 1))) 3
theorem am_e3 {a b : Int} (ha : r3 a) (hb : r3 b) : Int32.ofInt a = Int32.ofInt b ↔ a = b := ⟨fun h => by have := congrArg Int32.toInt h; rwa [o3 ha, o3 hb] at this, fun h => by rw [h]⟩
theorem am_l3 {a b : Int} (ha : r3 a) (hb : r3 b) : Int32.ofInt a < Int32.ofInt b ↔ a < b := by rw [Int32.lt_iff_toInt_lt, o3 ha, o3 hb]
theorem am_le3 {a b : Int} (ha : r3 a) (hb : r3 b) : Int32.ofInt a ≤ Int32.ofInt b ↔ a ≤ b := by rw [Int32.le_iff_toInt_le, o3 ha, o3 hb]
theorem r3_0 : r3 0 := ⟨by decide, by decide⟩
set_option maxHeartbeats 4000000 in
theorem g_icmp {ps : List Int} (h : c_icmp mi i ps = true) : am_Go mi i (s_icmp ps) := by
  intro p l e R s m args below meth c Q g n0 cE C L S st r hc hf
  obtain ⟨hx, hb, -⟩ := C
  simp only [c_icmp, am_dc_iff] at h
  unfold s_icmp at hf
  split at hf
  · next b a S' =>
    have ra : r3 a := (Ca_hd (Ca_tl hc)).1 rfl
    have rb : r3 b := (Ca_hd hc).1 rfl
    generalize am_pa ps 0 = cc at h hf
    unfold am_cm at h
    unfold am_cn at hf
    have fin : ∀ (P : Prop) [Decidable P], (if decide P = true then am_jp (am_pa ps 1) L S' st else am_nx L S' st) = some r → (∀ (ls : Array Slot) (H : Heap) (locs : List Loc), (P → W p l e R s m args below meth c H locs (st.1 - n0) (am_sl st.1 - am_sl n0) Q (F0 m (am_pc mi (am_pa ps 1).toNat) ls (am_vs g S'))) → (¬ P → W p l e R s m args below meth c H locs (st.1 - n0) (am_sl st.1 - am_sl n0) Q (F0 m (am_pc mi i + 3) ls (am_vs g S'))) → W p l e R s m args below meth c H locs (st.1 - n0) (am_sl st.1 - am_sl n0) Q (F0 m (am_pc mi i) ls (am_vs g ((0, b) :: (0, a) :: S')))) → am_Sp mi p l e R s m args below meth c Q g n0 cE i L ((0, b) :: (0, a) :: S') st r := by
      intro P _ hf row
      by_cases hp : P
      · rw [if_pos (decide_eq_true hp)] at hf
        unfold am_jp at hf
        cases hf
        exact Sp1 (fun K ls H locs hl hP hS hn => row ls H locs (fun _ => K ls H locs hl hP hS hn) (fun q => absurd hp q))
      · rw [if_neg (by simpa using hp)] at hf
        unfold am_nx at hf
        cases hf
        refine Sp0 (fun _ K ls H locs hl hP hS hn => row ls H locs (fun q => absurd q hp) (fun _ => ?_))
        have K := K ls H locs hl hP hS hn
        rw [h.2] at K
        exact K
    by_cases h0 : cc = 0
    · simp only [h0, if_true] at h hf
      refine fin _ hf (fun ls H locs k1 k2 => lv_icmp_eq hx hb h.1 (am_of_eq _ _ _) (fun q => k1 ((am_e3 ra rb).mp q)) (fun q => k2 (fun z => q ((am_e3 ra rb).mpr z))))
    by_cases h1 : cc = 1
    · simp only [h1, if_true, if_neg (show ¬ (1 : Int) = 0 by decide)] at h hf
      refine fin _ hf (fun ls H locs k1 k2 => lv_icmp_ne hx hb h.1 (am_of_eq _ _ _) (fun q => k1 (fun z => q ((am_e3 ra rb).mpr z))) (fun q => k2 (fun z => z ((am_e3 ra rb).mp q))))
    by_cases h2 : cc = 2
    · simp only [h2, if_true, if_neg (show ¬ (2 : Int) = 0 by decide), if_neg (show ¬ (2 : Int) = 1 by decide)] at h hf
      refine fin _ hf (fun ls H locs k1 k2 => lv_icmp_lt hx hb h.1 (am_of_eq _ _ _) (fun q => k1 ((am_l3 ra rb).mp q)) (fun q => k2 (fun z => q ((am_l3 ra rb).mpr z))))
    by_cases h3 : cc = 3
    · simp only [h3, if_true, if_neg (show ¬ (3 : Int) = 0 by decide), if_neg (show ¬ (3 : Int) = 1 by decide), if_neg (show ¬ (3 : Int) = 2 by decide)] at h hf
      refine fin _ hf (fun ls H locs k1 k2 => lv_icmp_ge hx hb h.1 (am_of_eq _ _ _) (fun q => k1 ((am_le3 rb ra).mp q)) (fun q => k2 (fun z => q ((am_le3 rb ra).mpr z))))
    by_cases h4 : cc = 4
    · simp only [h4, if_true, if_neg (show ¬ (4 : Int) = 0 by decide), if_neg (show ¬ (4 : Int) = 1 by decide), if_neg (show ¬ (4 : Int) = 2 by decide), if_neg (show ¬ (4 : Int) = 3 by decide)] at h hf
      refine fin _ hf (fun ls H locs k1 k2 => lv_icmp_gt hx hb h.1 (am_of_eq _ _ _) (fun q => k1 ((am_l3 rb ra).mp q)) (fun q => k2 (fun z => q ((am_l3 rb ra).mpr z))))
    · simp only [h0, h1, h2, h3, h4, if_false] at h hf
      refine fin _ hf (fun ls H locs k1 k2 => lv_icmp_le hx hb h.1 (am_of_eq _ _ _) (fun q => k1 ((am_le3 ra rb).mp q)) (fun q => k2 (fun z => q ((am_le3 ra rb).mpr z))))
  · cases hf

set_option maxHeartbeats 4000000 in
theorem g_ifc {ps : List Int} (h : c_ifc mi i ps = true) : am_Go mi i (s_ifc ps) := by
  intro p l e R s m args below meth c Q g n0 cE C L S st r hc hf
  obtain ⟨hx, hb, -⟩ := C
  simp only [c_ifc, am_dc_iff] at h
  unfold s_ifc at hf
  split at hf
  · next a S' =>
    have ra : r3 a := (Ca_hd hc).1 rfl
    have rb : r3 0 := r3_0
    generalize am_pa ps 0 = cc at h hf
    unfold am_cm at h
    unfold am_cn at hf
    have fin : ∀ (P : Prop) [Decidable P], (if decide P = true then am_jp (am_pa ps 1) L S' st else am_nx L S' st) = some r → (∀ (ls : Array Slot) (H : Heap) (locs : List Loc), (P → W p l e R s m args below meth c H locs (st.1 - n0) (am_sl st.1 - am_sl n0) Q (F0 m (am_pc mi (am_pa ps 1).toNat) ls (am_vs g S'))) → (¬ P → W p l e R s m args below meth c H locs (st.1 - n0) (am_sl st.1 - am_sl n0) Q (F0 m (am_pc mi i + 3) ls (am_vs g S'))) → W p l e R s m args below meth c H locs (st.1 - n0) (am_sl st.1 - am_sl n0) Q (F0 m (am_pc mi i) ls (am_vs g ((0, a) :: S')))) → am_Sp mi p l e R s m args below meth c Q g n0 cE i L ((0, a) :: S') st r := by
      intro P _ hf row
      by_cases hp : P
      · rw [if_pos (decide_eq_true hp)] at hf
        unfold am_jp at hf
        cases hf
        exact Sp1 (fun K ls H locs hl hP hS hn => row ls H locs (fun _ => K ls H locs hl hP hS hn) (fun q => absurd hp q))
      · rw [if_neg (by simpa using hp)] at hf
        unfold am_nx at hf
        cases hf
        refine Sp0 (fun _ K ls H locs hl hP hS hn => row ls H locs (fun q => absurd q hp) (fun _ => ?_))
        have K := K ls H locs hl hP hS hn
        rw [h.2] at K
        exact K
    by_cases h0 : cc = 0
    · simp only [h0, if_true] at h hf
      refine fin _ hf (fun ls H locs k1 k2 => lv_if_eq hx hb h.1 (am_of_eq _ _ _) (fun q => k1 ((am_e3 ra rb).mp q)) (fun q => k2 (fun z => q ((am_e3 ra rb).mpr z))))
    by_cases h1 : cc = 1
    · simp only [h1, if_true, if_neg (show ¬ (1 : Int) = 0 by decide)] at h hf
      refine fin _ hf (fun ls H locs k1 k2 => lv_if_ne hx hb h.1 (am_of_eq _ _ _) (fun q => k1 (fun z => q ((am_e3 ra rb).mpr z))) (fun q => k2 (fun z => z ((am_e3 ra rb).mp q))))
    by_cases h2 : cc = 2
    · simp only [h2, if_true, if_neg (show ¬ (2 : Int) = 0 by decide), if_neg (show ¬ (2 : Int) = 1 by decide)] at h hf
      refine fin _ hf (fun ls H locs k1 k2 => lv_if_lt hx hb h.1 (am_of_eq _ _ _) (fun q => k1 ((am_l3 ra rb).mp q)) (fun q => k2 (fun z => q ((am_l3 ra rb).mpr z))))
    by_cases h3 : cc = 3
    · simp only [h3, if_true, if_neg (show ¬ (3 : Int) = 0 by decide), if_neg (show ¬ (3 : Int) = 1 by decide), if_neg (show ¬ (3 : Int) = 2 by decide)] at h hf
      refine fin _ hf (fun ls H locs k1 k2 => lv_if_ge hx hb h.1 (am_of_eq _ _ _) (fun q => k1 ((am_le3 rb ra).mp q)) (fun q => k2 (fun z => q ((am_le3 rb ra).mpr z))))
    by_cases h4 : cc = 4
    · simp only [h4, if_true, if_neg (show ¬ (4 : Int) = 0 by decide), if_neg (show ¬ (4 : Int) = 1 by decide), if_neg (show ¬ (4 : Int) = 2 by decide), if_neg (show ¬ (4 : Int) = 3 by decide)] at h hf
      refine fin _ hf (fun ls H locs k1 k2 => lv_if_gt hx hb h.1 (am_of_eq _ _ _) (fun q => k1 ((am_l3 rb ra).mp q)) (fun q => k2 (fun z => q ((am_l3 rb ra).mpr z))))
    · simp only [h0, h1, h2, h3, h4, if_false] at h hf
      refine fin _ hf (fun ls H locs k1 k2 => lv_if_le hx hb h.1 (am_of_eq _ _ _) (fun q => k1 ((am_le3 ra rb).mp q)) (fun q => k2 (fun z => q ((am_le3 ra rb).mpr z))))
  · cases hf

def c_goto (m i : Nat) (ps : List Int) : Bool := decide (decode (am_by m) (am_pc m i) = .ok (.goto (am_of m i (am_pa ps 0)), 3))
theorem g_goto {ps : List Int} (h : c_goto mi i ps = true) : am_Go mi i (s_goto ps) := by
  intro p l e R s m args below meth c Q g n0 cE C L S st r hc hf
  obtain ⟨hx, hb, -⟩ := C
  simp only [c_goto, decide_eq_true_eq] at h
  unfold s_goto am_jp at hf
  cases hf
  exact Sp1 (fun K ls H locs hl hP hS hn => lv_goto hx hb h (am_of_eq _ _ _) (K ls H locs hl hP hS hn))
end AMB

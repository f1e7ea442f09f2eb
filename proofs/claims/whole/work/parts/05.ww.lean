def am_LH (g : am_G) (ls : Array Slot) (nL : Nat) (L : List am_V) : Prop := ls.size = nL ∧ lv_wf ls ∧ L.length = nL ∧ ∀ (i : Nat) (v : am_V), L[i]? = some v → v.1 < 3 → ls[i]? = some (.val (am_vv g v))
def am_ty (g : am_G) : List (ClassId × FieldType) := [(g.2.2.1.1, .int), (g.2.2.1.2.1, .long), (g.2.2.1.2.2.1, .object "TornBag$Moment"), (g.2.2.1.2.2.2, .object "TornBag$Sheet")]
def am_SB (g : am_G) (U : State) : Prop := va_K g.2.1 vwCl (am_ty g) U ∧ (∀ q ∈ am_NS, va_Nw (.methodLinkNest q.1 q.2.1 q.2.2.1 q.2.2.2) U) ∧ va_AO "TornBag$Moment" U ∧ va_AO "TornBag$Sheet" U ∧ va_X g.2.2.2.1 g.2.2.2.2.1 g.2.2.2.2.2 U U.heap ∧ g.2.2.2.1 < g.1
def am_Cx (mi : Nat) (p : Program) (R : Room) (s : State) (m : MethodId) (args : Array Value) (meth : Method) (c : Code) (g : am_G) (n0 cE : Nat) : Prop :=
  p.tables.exec = Jvm.exec ∧ c.code = am_by mi ∧ c.maxLocals = am_mx mi ∧ s.vm.findClass (am_yn mi).cls = some m.cls ∧ (∀ w ∈ am_T, w.before args s = true) ∧ ((am_yn mi).name = "<init>" → meth.name = "<init>") ∧ am_SB g s ∧ s.heap.size = g.1 + n0 ∧ am_fr mi ≤ R.frames ∧ am_lc mi ≤ R.locals ∧ cE - n0 ≤ R.cells ∧ am_sl cE - am_sl n0 ≤ R.slots ∧ meth.sig.returnType = am_rt mi ∧ meth.locks = false
def am_WW (mi : Nat) (p : Program) (l : Launch) (e : Env) (R : Room) (s : State) (m : MethodId) (args : Array Value) (below : List Frame) (meth : Method) (c : Code) (Q : State → Prop) (g : am_G) (n0 i : Nat) (L S : List am_V) (st : am_S) : Prop :=
  ∀ (ls : Array Slot) (H : Heap) (locs : List Loc), am_LH g ls (am_mx mi) L → va_P g.2.1 vwCl (am_cv g st) H → va_S (fun q => g.1 ≤ q) s.heap H locs → n0 ≤ st.1 → W p l e R s m args below meth c H locs (st.1 - n0) (am_sl st.1 - am_sl n0) Q (F0 m (am_pc mi i) ls (am_vs g S))
def am_wr (m : Nat) : List Cond := .code (am_yn m) (am_by m) (am_mx m) (am_rt m) :: am_T
def am_rm (m : Nat) (st st2 : am_S) : Room := { frames := am_fr m, cells := st2.1 - st.1, slots := am_sl st2.1 - am_sl st.1, locals := am_lc m }
def am_Pc (g : am_G) (As : List am_V) (st : am_S) : Array Value → State → Prop := fun a U => a = (am_vs g As).toArray ∧ U.heap.size = g.1 + st.1 ∧ va_P g.2.1 vwCl (am_cv g st) U.heap ∧ am_SB g U
def am_ov (g : am_G) (r : am_V) : Option Value := if r.1 = 3 then none else some (am_vv g r)
def am_Qc (g : am_G) (r : am_V) (st2 : am_S) : Array Value → State → Outcome → State → Prop := fun _ s0 o t => o = .returned (am_ov g r) ∧ va_P g.2.1 vwCl (am_cv g st2) t.heap ∧ va_F (fun q => g.1 ≤ q) s0 t
def am_MO (l : Launch) (g : am_G) (m : Nat) (As : List am_V) (st : am_S) (r : am_V) (st2 : am_S) : Prop :=
  Met l (am_yn m) (am_wr m) (am_rm m st st2) (am_Pc g As st) (am_Qc g r st2) (st2.1 - st.1) (am_sl st2.1 - am_sl st.1) (fun q => g.1 ≤ q)
def am_Sp (mi : Nat) (p : Program) (l : Launch) (e : Env) (R : Room) (s : State) (m : MethodId) (args : Array Value) (below : List Frame) (meth : Method) (c : Code) (Q : State → Prop) (g : am_G) (n0 cE i : Nat) (L S : List am_V) (st : am_S) (r : am_R) : Prop :=
  (r.1 = 0 → r.2.2.2.2.1 ≤ cE → am_WW mi p l e R s m args below meth c Q g n0 (i + 1) r.2.2.1 r.2.2.2.1 r.2.2.2.2 → am_WW mi p l e R s m args below meth c Q g n0 i L S st) ∧
  (r.1 = 1 → am_WW mi p l e R s m args below meth c Q g n0 r.2.1 r.2.2.1 r.2.2.2.1 r.2.2.2.2 → am_WW mi p l e R s m args below meth c Q g n0 i L S st) ∧
  (r.1 = 2 → ∀ (rv : am_V) (st2 : am_S), am_MO l g r.2.1 r.2.2.1 st rv st2 → st2.1 ≤ cE → st.1 ≤ st2.1 → am_WW mi p l e R s m args below meth c Q g n0 (i + 1) L (am_pu rv r.2.2.2.1) st2 → am_WW mi p l e R s m args below meth c Q g n0 i L S st)
/-- what an instruction owes -/
def am_Go (mi i : Nat) (f : List am_V → List am_V → am_S → Option am_R) : Prop := ∀ (p : Program) (l : Launch) (e : Env) (R : Room) (s : State) (m : MethodId) (args : Array Value) (below : List Frame) (meth : Method) (c : Code) (Q : State → Prop) (g : am_G) (n0 cE : Nat), am_Cx mi p R s m args meth c g n0 cE → ∀ (L S : List am_V) (st : am_S) (r : am_R), am_Ca g L S st → f L S st = some r → am_Sp mi p l e R s m args below meth c Q g n0 cE i L S st r
section AMS
variable {mi n0 cE i : Nat} {p : Program} {l : Launch} {e : Env} {R : Room} {s : State} {m : MethodId} {args : Array Value} {below : List Frame} {meth : Method} {c : Code} {Q : State → Prop} {g : am_G} {L S L' S' : List am_V} {st st' : am_S} {a : Nat}
theorem Sp0 (h : st'.1 ≤ cE → am_WW mi p l e R s m args below meth c Q g n0 (i + 1) L' S' st' → am_WW mi p l e R s m args below meth c Q g n0 i L S st) : am_Sp mi p l e R s m args below meth c Q g n0 cE i L S st (0, a, L', S', st') :=
  ⟨fun _ => h, fun q => absurd q (by show ¬ (0 : Nat) = 1; decide), fun q => absurd q (by show ¬ (0 : Nat) = 2; decide)⟩
theorem Sp1 (h : am_WW mi p l e R s m args below meth c Q g n0 a L' S' st' → am_WW mi p l e R s m args below meth c Q g n0 i L S st) : am_Sp mi p l e R s m args below meth c Q g n0 cE i L S st (1, a, L', S', st') :=
  ⟨fun q => absurd q (by show ¬ (1 : Nat) = 0; decide), fun _ => h, fun q => absurd q (by show ¬ (1 : Nat) = 2; decide)⟩
theorem Sp3 : am_Sp mi p l e R s m args below meth c Q g n0 cE i L S st (3, a, L', S', st') :=
  ⟨fun q => absurd q (by show ¬ (3 : Nat) = 0; decide), fun q => absurd q (by show ¬ (3 : Nat) = 1; decide), fun q => absurd q (by show ¬ (3 : Nat) = 2; decide)⟩
end AMS
theorem am_cat_vv (g : am_G) (v : am_V) (h : am_nl v = true) : (am_vv g v).category = 1 := by
  obtain ⟨t, x⟩ := v
  simp only [am_nl, bne_iff_ne] at h
  match t, h with
  | 0, _ => rfl
  | 1, h => exact absurd rfl h
  | t + 2, _ => rfl
theorem am_cat_v (g : am_G) (v : am_V) : (am_vv g v).category = am_cat v := by
  obtain ⟨t, x⟩ := v
  match t with
  | 0 => rfl
  | 1 => rfl
  | t + 2 => rfl
theorem am_cat_s (g : am_G) (S : List am_V) : ((am_vs g S).map fun v => v.category).sum = (S.map am_cat).sum := by
  congr 1
  simp only [am_vs, List.map_map]
  apply List.map_congr_left
  intro v _
  exact am_cat_v g v
/-- bin, one instruction: rows of the kit at any place -/
def am_dc (m i : Nat) (ins : Instr) (len : Nat) : Bool := decide (decode (am_by m) (am_pc m i) = .ok (ins, len)) && decide (am_pc m (i + 1) = am_pc m i + len)
theorem am_dc_iff {m i : Nat} {ins : Instr} {len : Nat} : am_dc m i ins len = true ↔ decode (am_by m) (am_pc m i) = .ok (ins, len) ∧ am_pc m (i + 1) = am_pc m i + len := by simp [am_dc]
def am_wd (i : Nat) (w : Cond) : Bool := decide (lw_tbl[i]? = some w) && goodWord w
theorem am_wd_in {i : Nat} {w : Cond} (h : am_wd i w = true) : w ∈ am_T := by
  simp only [am_wd, Bool.and_eq_true, decide_eq_true_eq] at h
  exact List.mem_filter.mpr ⟨List.mem_of_getElem? h.1, h.2⟩
theorem am_i3 (x : Int32) : Int32.ofInt x.toInt = x := Int32.ofInt_toInt x
theorem am_i6 (x : Int64) : Int64.ofInt x.toInt = x := Int64.ofInt_toInt x
theorem am_vI (g : am_G) (x : Int) (S : List am_V) : am_vs g ((0, x) :: S) = .int (Int32.ofInt x) :: am_vs g S := rfl
theorem am_vJ (g : am_G) (x : Int) (S : List am_V) : am_vs g ((1, x) :: S) = .long (Int64.ofInt x) :: am_vs g S := rfl
theorem am_vP (g : am_G) (x : Int) (S : List am_V) : am_vs g ((2, x) :: S) = .ref (if x < 0 then g.2.2.2.1 else g.1 + x.toNat) :: am_vs g S := rfl
theorem am_vP0 (g : am_G) {x : Int} (S : List am_V) (h : 0 ≤ x) : am_vs g ((2, x) :: S) = .ref (g.1 + x.toNat) :: am_vs g S := by
  rw [am_vP, if_neg (by omega)]
theorem am_W_size {p : Program} {l : Launch} {e : Env} {R : Room} {s : State} {m : MethodId} {args : Array Value} {below : List Frame} {meth : Method} {c : Code} {H : Heap} {locs : List Loc} {slots n0 : Nat} {Q : State → Prop} {f : JFrame} {g : am_G} {st : am_S} (hsz : s.heap.size = g.1 + n0) (hn : n0 ≤ st.1) (hP : va_P g.2.1 vwCl (am_cv g st) H) (hS : va_S (fun q => g.1 ≤ q) s.heap H locs)
    (k : H.size = g.1 + st.1 → W p l e R s m args below meth c H locs (st.1 - n0) slots Q f) : W p l e R s m args below meth c H locs (st.1 - n0) slots Q f := by
  intro T hT X
  refine k ?_ T hT X
  have h1 : T.heap.size ≤ s.heap.size + (st.1 - n0) := X.same.2.2.1
  rw [hT] at h1
  have h2 : g.1 + st.1 ≤ H.size := by
    by_cases h : st.1 = n0
    · have := hS.1
      omega
    · have := (hP (st.1 - 1) _ (am_cv_at (by omega))).lt
      dsimp only at this
      omega
  omega

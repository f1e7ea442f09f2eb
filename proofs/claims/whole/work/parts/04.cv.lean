abbrev am_G : Type := Nat × va_G × (ClassId × ClassId × ClassId × ClassId) × (Nat × Nat × (Nat → Int32))
def am_vv (g : am_G) (v : am_V) : Value := match v.1 with
  | 0 => .int (Int32.ofInt v.2)
  | 1 => .long (Int64.ofInt v.2)
  | _ => .ref (if v.2 < 0 then g.2.2.2.1 else g.1 + v.2.toNat)
def am_vs (g : am_G) (S : List am_V) : List Value := S.map (am_vv g)
def am_oR (g : am_G) (v : Int) : Option Nat := if v < 0 then none else some (g.1 + v.toNat)
def am_fv (g : am_G) (kd k : Nat) (hv rv : Int) : Value := if am_ft kd k = 2 then va_rf (am_oR g rv) else .int (Int32.ofInt hv)
def am_ce (g : am_G) (st : am_S) (c : Nat) : va_E :=
  if (am_lay c).1 = 20 then .inl (g.2.2.1.1, (am_lay c).2, .inl (fun j => Int32.ofInt (st.2.2 c j)))
  else if (am_lay c).1 = 21 then .inl (g.2.2.1.2.1, (am_lay c).2, .inr (.inl (fun j => Int64.ofInt (st.2.2 c j))))
  else if (am_lay c).1 = 22 then .inl (g.2.2.1.2.2.1, (am_lay c).2, .inr (.inr (.inr (.inr (fun j => am_oR g (am_gr st.2.1 c j))))))
  else if (am_lay c).1 = 23 then .inl (g.2.2.1.2.2.2, (am_lay c).2, .inr (.inr (.inr (.inr (fun j => am_oR g (am_gr st.2.1 c j))))))
  else .inr ((am_lay c).1, (List.range (am_lay c).2).map (fun k => am_fv g (am_lay c).1 k (st.2.2 c k) (am_gr st.2.1 c k)))
def am_cv (g : am_G) (st : am_S) : va_W := (List.range st.1).map (fun c => (g.1 + c, am_ce g st c))
theorem am_cv_at {g : am_G} {st : am_S} {c : Nat} (h : c < st.1) : (am_cv g st)[c]? = some (g.1 + c, am_ce g st c) := by
  simp [am_cv, h]
theorem am_cv_len {g : am_G} {st : am_S} : (am_cv g st).length = st.1 := by simp [am_cv]
theorem am_cv_inv {g : am_G} {st : am_S} {k : Nat} {q : Nat × va_E} (h : (am_cv g st)[k]? = some q) : k < st.1 ∧ q = (g.1 + k, am_ce g st k) := by
  have hl : k < (am_cv g st).length := (List.getElem?_eq_some_iff.mp h).1
  rw [am_cv_len] at hl
  rw [am_cv_at hl] at h
  exact ⟨hl, (Option.some.inj h).symm⟩
theorem am_cv_D {g : am_G} {st : am_S} : va_D (fun q => g.1 ≤ q) (am_cv g st) := by
  refine ⟨fun i j x y hi hj hxy => ?_, fun k q hk => ?_⟩
  · obtain ⟨-, rfl⟩ := am_cv_inv hi
    obtain ⟨-, rfl⟩ := am_cv_inv hj
    dsimp only at hxy
    omega
  · obtain ⟨-, rfl⟩ := am_cv_inv hk
    exact Nat.le_add_right _ _
theorem am_cv_set {g : am_G} {st st' : am_S} {c : Nat} (hn : st'.1 = st.1) (ho : ∀ c' : Nat, c' ≠ c → am_ce g st' c' = am_ce g st c') : (am_cv g st).set c (g.1 + c, am_ce g st' c) = am_cv g st' := by
  apply List.ext_getElem?
  intro k
  by_cases hk : k < st.1
  · rw [am_cv_at (st := st') (by omega)]
    by_cases hkc : k = c
    · subst hkc
      rw [List.getElem?_set_self (by rw [am_cv_len]; exact hk)]
    · rw [List.getElem?_set_ne (Ne.symm hkc), am_cv_at hk, ho k hkc]
  · rw [List.getElem?_eq_none (by simp [am_cv_len]; omega), List.getElem?_eq_none (by simp [am_cv_len]; omega)]
theorem am_cv_push {g : am_G} {n : Nat} {rl : am_L} {h : am_F} : am_cv g (n + 1, rl, h) = am_cv g (n, rl, h) ++ [(g.1 + n, am_ce g (n + 1, rl, h) n)] := by
  simp only [am_cv, List.range_succ, List.map_append, List.map_cons, List.map_nil]
  rfl
theorem up_ne {h : am_F} {c c' : Int} (hc : c' ≠ c) (k v : Int) : up h c k v c' = h c' := by
  funext k'
  simp [up, hc]
theorem up_s {h : am_F} {c k v : Int} : up h c k v c k = v := by simp [up]
theorem up_k {h : am_F} {c k k' v : Int} (hk : k' ≠ k) : up h c k v c k' = h c k' := by simp [up, hk]
theorem gr_ne {l : am_L} {c c' k v : Int} (hc : c' ≠ c) (k' : Int) : am_gr ((c, k, v) :: l) c' k' = am_gr l c' k' := by
  have : (c == c') = false := by simp [Ne.symm hc]
  simp [am_gr, List.find?, this]
theorem gr_s {l : am_L} {c k v : Int} : am_gr ((c, k, v) :: l) c k = v := by simp [am_gr, List.find?]
theorem gr_k {l : am_L} {c k k' v : Int} (hk : k' ≠ k) : am_gr ((c, k, v) :: l) c k' = am_gr l c k' := by
  have : (k == k') = false := by simp [Ne.symm hk]
  simp [am_gr, List.find?, this]
theorem am_ce_n {g : am_G} {n n' : Nat} {rl : am_L} {h : am_F} {c : Nat} : am_ce g (n, rl, h) c = am_ce g (n', rl, h) c := rfl
theorem am_ce_h {g : am_G} {n n' : Nat} {rl rl' : am_L} {h h' : am_F} {c : Nat} (hh : h' c = h c) (hr : am_gr rl' c = am_gr rl c) : am_ce g (n, rl', h') c = am_ce g (n', rl, h) c := by
  simp only [am_ce, hh, hr]
theorem am_int_ne {a b : Nat} (h : a ≠ b) : (a : Int) ≠ (b : Int) := fun e => h (Int.ofNat.inj e)
/-- ranges -/
def r3 (x : Int) : Prop := -2147483648 ≤ x ∧ x < 2147483648
def r6 (x : Int) : Prop := -9223372036854775808 ≤ x ∧ x < 9223372036854775808
theorem r3_6 {x : Int} (h : r3 x) : r6 x := by unfold r3 r6 at *; omega
theorem r3_t (x : Int32) : r3 x.toInt := ⟨x.le_toInt, x.toInt_lt⟩
theorem r6_t (x : Int64) : r6 x.toInt := ⟨x.le_toInt, x.toInt_lt⟩
theorem o3 {x : Int} (h : r3 x) : (Int32.ofInt x).toInt = x := Int32.toInt_ofInt_of_le h.1 h.2
theorem o6 {x : Int} (h : r6 x) : (Int64.ofInt x).toInt = x := Int64.toInt_ofInt_of_le h.1 h.2
theorem w3_id {x : Int} (h1 : -2147483648 ≤ x) (h2 : x < 2147483648) : w3 x = x := o3 ⟨h1, h2⟩
theorem w6_id {x : Int} (h1 : -9223372036854775808 ≤ x) (h2 : x < 9223372036854775808) : w6 x = x := o6 ⟨h1, h2⟩
def am_v3 (v : am_V) : Prop := (v.1 = 0 → r3 v.2) ∧ (v.1 = 1 → r6 v.2)
def am_Cs (g : am_G) (st : am_S) : Prop := (∀ c k, r6 (st.2.2 c k)) ∧ (∀ c k, (am_lay c).1 ≠ 21 → r3 (st.2.2 c k)) ∧ (∀ c k, (st.1 : Int) ≤ c → st.2.2 c k = 0) ∧ (∀ c k, (st.1 : Int) ≤ c → am_gr st.2.1 c k = -1) ∧ (∀ j : Nat, j < g.2.2.2.2.1 → st.2.2 (-1) j = (g.2.2.2.2.2 j).toInt) ∧ st.2.2 (-1) (-1) = (g.2.2.2.2.1 : Int)
def am_Ca (g : am_G) (L S : List am_V) (st : am_S) : Prop := (∀ v ∈ L, am_v3 v) ∧ (∀ v ∈ S, am_v3 v) ∧ am_Cs g st
theorem v3_i (x : Int32) : am_v3 (0, x.toInt) := ⟨fun _ => r3_t x, fun h => nomatch h⟩
theorem v3_l (x : Int64) : am_v3 (1, x.toInt) := ⟨(fun h => nomatch h), fun _ => r6_t x⟩
theorem v3_p (x : Int) : am_v3 (2, x) := ⟨(fun h => nomatch h), (fun h => nomatch h)⟩
theorem Ca_tl {g : am_G} {L S : List am_V} {v : am_V} {st : am_S} (h : am_Ca g L (v :: S) st) : am_Ca g L S st := ⟨h.1, fun x hx => h.2.1 x (List.mem_cons_of_mem _ hx), h.2.2⟩
theorem Ca_hd {g : am_G} {L S : List am_V} {v : am_V} {st : am_S} (h : am_Ca g L (v :: S) st) : am_v3 v := h.2.1 v List.mem_cons_self
theorem Ca_cons {g : am_G} {L S : List am_V} {v : am_V} {st : am_S} (h : am_Ca g L S st) (hv : am_v3 v) : am_Ca g L (v :: S) st := ⟨h.1, fun x hx => by
  rcases List.mem_cons.mp hx with e | e
  · rw [e]; exact hv
  · exact h.2.1 x e, h.2.2⟩
theorem Ca_st {g : am_G} {L S : List am_V} {st st' : am_S} (h : am_Ca g L S st) (hs : am_Cs g st') : am_Ca g L S st' := ⟨h.1, h.2.1, hs⟩
theorem am_is_iff {st : am_S} {c : Int} {kd : Nat} : am_is st c kd = true ↔ c.toNat < st.1 ∧ (am_lay c).1 = kd ∧ 0 ≤ c := by
  simp [am_is, and_assoc]
theorem am_ix_iff {c i : Int} : am_ix c i = true ↔ 0 ≤ i ∧ i < ((am_lay c).2 : Int) := by simp [am_ix]
theorem Cs_up {g : am_G} {st : am_S} (h : am_Cs g st) {c k v : Int} (h0 : 0 ≤ c) (hc : c.toNat < st.1) (hv : r6 v) (hv3 : (am_lay c).1 ≠ 21 → r3 v) : am_Cs g (st.1, st.2.1, up st.2.2 c k v) := by
  obtain ⟨h1, h2, h3, h4, h5, h6⟩ := h
  refine ⟨fun c' k' => ?_, fun c' k' hl => ?_, fun c' k' hn => ?_, h4, fun j hj => ?_, ?_⟩
  · simp only [up]; split
    · exact hv
    · exact h1 c' k'
  · simp only [up]; split
    · next e => rw [e.1] at hl; exact hv3 hl
    · exact h2 c' k' hl
  · dsimp only at hn ⊢
    rw [up_ne (by omega)]
    exact h3 c' k' hn
  · dsimp only
    rw [up_ne (by omega)]
    exact h5 j hj
  · dsimp only
    rw [up_ne (by omega)]
    exact h6
theorem Cs_cpy {g : am_G} {st : am_S} (h : am_Cs g st) {s sp d dp n : Int} (h0 : 0 ≤ d) (hc : d.toNat < st.1) (hk : (am_lay s).1 = (am_lay d).1) : am_Cs g (st.1, st.2.1, cpy st.2.2 s sp d dp n) := by
  obtain ⟨h1, h2, h3, h4, h5, h6⟩ := h
  refine ⟨fun c' k' => ?_, fun c' k' hl => ?_, fun c' k' hn => ?_, h4, fun j hj => ?_, ?_⟩
  · simp only [cpy]; split
    · exact h1 _ _
    · exact h1 c' k'
  · simp only [cpy]; split
    · next e => exact h2 _ _ (by rw [hk, ← e.1]; exact hl)
    · exact h2 c' k' hl
  · dsimp only at hn ⊢
    simp only [cpy]
    rw [if_neg (by omega)]
    exact h3 c' k' hn
  · dsimp only
    simp only [cpy]
    rw [if_neg (by omega)]
    exact h5 j hj
  · dsimp only
    simp only [cpy]
    rw [if_neg (by omega)]
    exact h6
theorem Cs_ref {g : am_G} {st : am_S} (h : am_Cs g st) {c k v : Int} (h0 : 0 ≤ c) (hc : c.toNat < st.1) : am_Cs g (st.1, (c, k, v) :: st.2.1, st.2.2) := by
  obtain ⟨h1, h2, h3, h4, h5, h6⟩ := h
  refine ⟨h1, h2, h3, fun c' k' hn => ?_, h5, h6⟩
  dsimp only at hn ⊢
  rw [gr_ne (by omega)]
  exact h4 c' k' hn
theorem Cs_new {g : am_G} {st : am_S} (h : am_Cs g st) : am_Cs g (st.1 + 1, st.2.1, st.2.2) := by
  obtain ⟨h1, h2, h3, h4, h5, h6⟩ := h
  exact ⟨h1, h2, fun c' k' hn => h3 c' k' (by dsimp only at hn; omega), fun c' k' hn => h4 c' k' (by dsimp only at hn; omega), h5, h6⟩

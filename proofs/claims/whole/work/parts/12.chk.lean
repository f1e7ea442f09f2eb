def am_P (g : am_G) (st : am_S) (r : am_R) : Prop := am_Ca g r.2.2.1 r.2.2.2.1 r.2.2.2.2 ∧ st.1 ≤ r.2.2.2.2.1
def am_rb (v : Int) : Bool := decide (-2147483648 ≤ v) && decide (v < 2147483648)
def am_rl (v : Int) : Bool := decide (-9223372036854775808 ≤ v) && decide (v < 9223372036854775808)
theorem am_rb_iff {v : Int} : am_rb v = true ↔ r3 v := by simp [am_rb, r3]
theorem am_rl_iff {v : Int} : am_rl v = true ↔ r6 v := by simp [am_rl, r6]
section CN
variable {g : am_G} {L S : List am_V} {st : am_S} {r : am_R} {ps : List Int}
theorem Pn {L' S' : List am_V} {st' : am_S} {k t : Nat} (h : am_Ca g L' S' st') (hn : st.1 ≤ st'.1) : am_P g st (k, t, L', S', st') := ⟨h, hn⟩
theorem cn_cst (hv : am_rb (am_pa ps 0) = true) (hf : s_cst ps L S st = some r) (hc : am_Ca g L S st) : am_P g st r := by
  unfold s_cst am_nx at hf
  cases hf
  exact Pn (Ca_cons hc ⟨fun _ => am_rb_iff.mp hv, (fun h => nomatch h)⟩) (Nat.le_refl _)
theorem cn_lcst (hv : am_rl (am_pa ps 0) = true) (hf : s_lcst ps L S st = some r) (hc : am_Ca g L S st) : am_P g st r := by
  unfold s_lcst am_nx at hf
  cases hf
  exact Pn (Ca_cons hc ⟨(fun h => nomatch h), fun _ => am_rl_iff.mp hv⟩) (Nat.le_refl _)
theorem cn_ld {t : Nat} (hf : s_ld t ps L S st = some r) (hc : am_Ca g L S st) : am_P g st r := by
  unfold s_ld at hf
  split at hf
  · next v hv =>
    split at hf
    · unfold am_nx at hf
      cases hf
      exact Pn (Ca_cons hc (hc.1 v (List.mem_of_getElem? hv))) (Nat.le_refl _)
    · cases hf
  · cases hf
theorem Ca_set {k : Nat} {v : am_V} (hc : am_Ca g L S st) (hv : am_v3 v) : am_Ca g (L.set k v) S st := ⟨fun x hx => by
  rcases List.mem_or_eq_of_mem_set hx with h | h
  · exact hc.1 x h
  · rw [h]; exact hv, hc.2⟩
theorem cn_st {t : Nat} (hf : s_st t ps L S st = some r) (hc : am_Ca g L S st) : am_P g st r := by
  unfold s_st at hf
  split at hf
  · split at hf
    · unfold am_nx at hf
      cases hf
      exact Pn (Ca_set (Ca_tl hc) (Ca_hd hc)) (Nat.le_refl _)
    · cases hf
  · cases hf
theorem cn_inc (hf : s_inc ps L S st = some r) (hc : am_Ca g L S st) : am_P g st r := by
  unfold s_inc at hf
  split at hf
  · split at hf
    · unfold am_nx at hf
      cases hf
      exact Pn (Ca_set hc (v3_i _)) (Nat.le_refl _)
    · cases hf
  · cases hf
theorem cn_bin {f : Int32 → Int32 → Int32} (hf : s_bin f L S st = some r) (hc : am_Ca g L S st) : am_P g st r := by
  unfold s_bin at hf
  split at hf
  · unfold am_nx at hf
    cases hf
    exact Pn (Ca_cons (Ca_tl (Ca_tl hc)) (v3_i _)) (Nat.le_refl _)
  · cases hf
theorem cn_bin0 {f : Int32 → Int32 → Int32} (hf : s_bin0 f L S st = some r) (hc : am_Ca g L S st) : am_P g st r := by
  unfold s_bin0 at hf
  split at hf
  · split at hf
    · cases hf
    · unfold am_nx at hf
      cases hf
      exact Pn (Ca_cons (Ca_tl (Ca_tl hc)) (v3_i _)) (Nat.le_refl _)
  · cases hf
theorem cn_un {f : Int32 → Int32} (hf : s_un f L S st = some r) (hc : am_Ca g L S st) : am_P g st r := by
  unfold s_un at hf
  split at hf
  · unfold am_nx at hf
    cases hf
    exact Pn (Ca_cons (Ca_tl hc) (v3_i _)) (Nat.le_refl _)
  · cases hf
theorem cn_lbin {f : Int64 → Int64 → Int64} (hf : s_lbin f L S st = some r) (hc : am_Ca g L S st) : am_P g st r := by
  unfold s_lbin at hf
  split at hf
  · unfold am_nx at hf
    cases hf
    exact Pn (Ca_cons (Ca_tl (Ca_tl hc)) (v3_l _)) (Nat.le_refl _)
  · cases hf
theorem cn_lsh {f : Int64 → Int32 → Int64} (hf : s_lsh f L S st = some r) (hc : am_Ca g L S st) : am_P g st r := by
  unfold s_lsh at hf
  split at hf
  · unfold am_nx at hf
    cases hf
    exact Pn (Ca_cons (Ca_tl (Ca_tl hc)) (v3_l _)) (Nat.le_refl _)
  · cases hf
theorem cn_lcmp (hf : s_lcmp L S st = some r) (hc : am_Ca g L S st) : am_P g st r := by
  unfold s_lcmp at hf
  split at hf
  · unfold am_nx at hf
    cases hf
    exact Pn (Ca_cons (Ca_tl (Ca_tl hc)) (v3_i _)) (Nat.le_refl _)
  · cases hf
theorem cn_i2l (hf : s_i2l L S st = some r) (hc : am_Ca g L S st) : am_P g st r := by
  unfold s_i2l at hf
  split at hf
  · unfold am_nx at hf
    cases hf
    exact Pn (Ca_cons (Ca_tl hc) (v3_l _)) (Nat.le_refl _)
  · cases hf
theorem cn_l2i (hf : s_l2i L S st = some r) (hc : am_Ca g L S st) : am_P g st r := by
  unfold s_l2i at hf
  split at hf
  · unfold am_nx at hf
    cases hf
    exact Pn (Ca_cons (Ca_tl hc) (v3_i _)) (Nat.le_refl _)
  · cases hf
theorem cn_pop (hf : s_pop L S st = some r) (hc : am_Ca g L S st) : am_P g st r := by
  unfold s_pop at hf
  split at hf
  · split at hf
    · unfold am_nx at hf
      cases hf
      exact Pn (Ca_tl hc) (Nat.le_refl _)
    · cases hf
  · cases hf
theorem cn_dup (hf : s_dup L S st = some r) (hc : am_Ca g L S st) : am_P g st r := by
  unfold s_dup at hf
  split at hf
  · split at hf
    · unfold am_nx at hf
      cases hf
      exact Pn (Ca_cons hc (Ca_hd hc)) (Nat.le_refl _)
    · cases hf
  · cases hf
theorem cn_dup2 (hf : s_dup2 L S st = some r) (hc : am_Ca g L S st) : am_P g st r := by
  unfold s_dup2 at hf
  split at hf
  · split at hf
    · unfold am_nx at hf
      cases hf
      exact Pn (Ca_cons (Ca_cons hc (Ca_hd (Ca_tl hc))) (Ca_hd hc)) (Nat.le_refl _)
    · cases hf
  · cases hf
theorem cn_ifc (hf : s_ifc ps L S st = some r) (hc : am_Ca g L S st) : am_P g st r := by
  unfold s_ifc am_jp am_nx at hf
  split at hf
  · split at hf <;> cases hf <;> exact Pn (Ca_tl hc) (Nat.le_refl _)
  · cases hf
theorem cn_icmp (hf : s_icmp ps L S st = some r) (hc : am_Ca g L S st) : am_P g st r := by
  unfold s_icmp am_jp am_nx at hf
  split at hf
  · split at hf <;> cases hf <;> exact Pn (Ca_tl (Ca_tl hc)) (Nat.le_refl _)
  · cases hf
theorem cn_goto (hf : s_goto ps L S st = some r) (hc : am_Ca g L S st) : am_P g st r := by
  unfold s_goto am_jp at hf
  cases hf
  exact Pn hc (Nat.le_refl _)
theorem cn_tsw (hf : s_tsw ps L S st = some r) (hc : am_Ca g L S st) : am_P g st r := by
  unfold s_tsw am_jp at hf
  split at hf
  · split at hf <;> cases hf <;> exact Pn (Ca_tl hc) (Nat.le_refl _)
  · cases hf
theorem cn_lsw (hf : s_lsw ps L S st = some r) (hc : am_Ca g L S st) : am_P g st r := by
  unfold s_lsw am_jp at hf
  split at hf
  · cases hf
    exact Pn (Ca_tl hc) (Nat.le_refl _)
  · cases hf
theorem cn_gI (h12 : (am_pa ps 0).toNat < 12) (hf : s_gI ps L S st = some r) (hc : am_Ca g L S st) : am_P g st r := by
  unfold s_gI at hf
  split at hf
  · split at hf
    · next his =>
      obtain ⟨i1, i2, i3⟩ := am_is_iff.mp his
      unfold am_nx at hf
      cases hf
      exact Pn (Ca_cons (Ca_tl hc) ⟨fun _ => hc.2.2.2.1 _ _ (by omega), (fun h => nomatch h)⟩) (Nat.le_refl _)
    · cases hf
  · cases hf
theorem cn_gR (hf : s_gR ps L S st = some r) (hc : am_Ca g L S st) : am_P g st r := by
  unfold s_gR at hf
  split at hf
  · split at hf
    · unfold am_nx at hf
      cases hf
      exact Pn (Ca_cons (Ca_tl hc) (v3_p _)) (Nat.le_refl _)
    · cases hf
  · cases hf
theorem cn_pI (hf : s_pI ps L S st = some r) (hc : am_Ca g L S st) : am_P g st r := by
  unfold s_pI at hf
  split at hf
  · split at hf
    · next his =>
      obtain ⟨i1, i2, i3⟩ := am_is_iff.mp his
      unfold am_nx at hf
      cases hf
      have rv := (Ca_hd hc).1 rfl
      exact Pn (Ca_st (Ca_tl (Ca_tl hc)) (Cs_up hc.2.2 i3 i1 (r3_6 rv) (fun _ => rv))) (Nat.le_refl _)
    · cases hf
  · cases hf
theorem cn_pZ (hf : s_pZ ps L S st = some r) (hc : am_Ca g L S st) : am_P g st r := by
  unfold s_pZ at hf
  split at hf
  · split at hf
    · next his =>
      obtain ⟨i1, i2, i3⟩ := am_is_iff.mp his.1
      unfold am_nx at hf
      cases hf
      have rv := (Ca_hd hc).1 rfl
      exact Pn (Ca_st (Ca_tl (Ca_tl hc)) (Cs_up hc.2.2 i3 i1 (r3_6 rv) (fun _ => rv))) (Nat.le_refl _)
    · cases hf
  · cases hf
theorem cn_pF (hf : s_pF ps L S st = some r) (hc : am_Ca g L S st) : am_P g st r := by
  unfold s_pF at hf
  split at hf
  · split at hf
    · next his =>
      obtain ⟨i1, i2, i3⟩ := am_is_iff.mp his.1
      unfold am_nx at hf
      cases hf
      exact Pn (Ca_st (Ca_tl (Ca_tl hc)) (Cs_ref hc.2.2 i3 i1)) (Nat.le_refl _)
    · cases hf
  · cases hf
theorem cn_iald (hf : s_iald L S st = some r) (hc : am_Ca g L S st) : am_P g st r := by
  unfold s_iald at hf
  split at hf
  · split at hf
    · split at hf
      · unfold am_nx at hf
        cases hf
        exact Pn (Ca_cons (Ca_tl (Ca_tl hc)) ⟨fun _ => hc.2.2.2.1 _ _ (by decide), (fun h => nomatch h)⟩) (Nat.le_refl _)
      · cases hf
    · split at hf
      · next his =>
        obtain ⟨i1, i2, i3⟩ := am_is_iff.mp his.1
        unfold am_nx at hf
        cases hf
        exact Pn (Ca_cons (Ca_tl (Ca_tl hc)) ⟨fun _ => hc.2.2.2.1 _ _ (by omega), (fun h => nomatch h)⟩) (Nat.le_refl _)
      · cases hf
  · cases hf
theorem cn_lald (hf : s_lald L S st = some r) (hc : am_Ca g L S st) : am_P g st r := by
  unfold s_lald at hf
  split at hf
  · split at hf
    · unfold am_nx at hf
      cases hf
      exact Pn (Ca_cons (Ca_tl (Ca_tl hc)) ⟨(fun h => nomatch h), fun _ => hc.2.2.1 _ _⟩) (Nat.le_refl _)
    · cases hf
  · cases hf
theorem cn_iast (hf : s_iast L S st = some r) (hc : am_Ca g L S st) : am_P g st r := by
  unfold s_iast at hf
  split at hf
  · split at hf
    · next his =>
      obtain ⟨i1, i2, i3⟩ := am_is_iff.mp his.1
      unfold am_nx at hf
      cases hf
      have rv := (Ca_hd hc).1 rfl
      exact Pn (Ca_st (Ca_tl (Ca_tl (Ca_tl hc))) (Cs_up hc.2.2 i3 i1 (r3_6 rv) (fun _ => rv))) (Nat.le_refl _)
    · cases hf
  · cases hf
theorem cn_last (hf : s_last L S st = some r) (hc : am_Ca g L S st) : am_P g st r := by
  unfold s_last at hf
  split at hf
  · split at hf
    · next his =>
      obtain ⟨i1, i2, i3⟩ := am_is_iff.mp his.1
      unfold am_nx at hf
      cases hf
      have rv := (Ca_hd hc).2 rfl
      exact Pn (Ca_st (Ca_tl (Ca_tl (Ca_tl hc))) (Cs_up hc.2.2 i3 i1 rv (fun z => absurd i2 z))) (Nat.le_refl _)
    · cases hf
  · cases hf
theorem cn_aald (hf : s_aald L S st = some r) (hc : am_Ca g L S st) : am_P g st r := by
  unfold s_aald at hf
  split at hf
  · split at hf
    · unfold am_nx at hf
      cases hf
      exact Pn (Ca_cons (Ca_tl (Ca_tl hc)) (v3_p _)) (Nat.le_refl _)
    · cases hf
  · cases hf
theorem cn_aast (hf : s_aast L S st = some r) (hc : am_Ca g L S st) : am_P g st r := by
  unfold s_aast at hf
  split at hf
  · split at hf
    · next his =>
      have : ∃ kd, am_is st _ kd = true := his.1.elim (fun h => ⟨_, h.1⟩) (fun h => ⟨_, h.1⟩)
      obtain ⟨kd, hk⟩ := this
      obtain ⟨i1, i2, i3⟩ := am_is_iff.mp hk
      unfold am_nx at hf
      cases hf
      exact Pn (Ca_st (Ca_tl (Ca_tl (Ca_tl hc))) (Cs_ref hc.2.2 i3 i1)) (Nat.le_refl _)
    · cases hf
  · cases hf
theorem am_ly_sm : ∀ q ∈ am_LY, q.2 < 2147483648 := by decide +kernel
theorem cn_alen (hf : s_alen L S st = some r) (hc : am_Ca g L S st) : am_P g st r := by
  unfold s_alen at hf
  split at hf
  · next cc S' =>
    split at hf
    · unfold am_nx at hf
      cases hf
      exact Pn (Ca_cons (Ca_tl hc) ⟨fun _ => hc.2.2.2.1 _ _ (by decide), (fun h => nomatch h)⟩) (Nat.le_refl _)
    · split at hf
      · next his =>
        have hs : (am_lay cc).2 < 2147483648 := by
          rcases his with h | h
          · exact am_ly_sm _ (am_lay_in (am_is_iff.mp h).2.1 (by decide))
          · exact am_ly_sm _ (am_lay_in (am_is_iff.mp h).2.1 (by decide))
        unfold am_nx at hf
        cases hf
        exact Pn (Ca_cons (Ca_tl hc) ⟨fun _ => ⟨by show (-2147483648 : Int) ≤ ((am_lay cc).2 : Int); omega, by show ((am_lay cc).2 : Int) < 2147483648; omega⟩, (fun h => nomatch h)⟩) (Nat.le_refl _)
      · cases hf
  · cases hf
theorem cn_narr (hf : s_narr ps L S st = some r) (hc : am_Ca g L S st) : am_P g st r := by
  unfold s_narr at hf
  split at hf
  · split at hf
    · unfold am_nx at hf
      cases hf
      exact Pn (Ca_st (Ca_cons (Ca_tl hc) (v3_p _)) (Cs_new hc.2.2)) (Nat.le_succ _)
    · cases hf
  · cases hf
theorem cn_anew (hf : s_anew ps L S st = some r) (hc : am_Ca g L S st) : am_P g st r := by
  unfold s_anew at hf
  split at hf
  · split at hf
    · unfold am_nx at hf
      cases hf
      exact Pn (Ca_st (Ca_cons (Ca_tl hc) (v3_p _)) (Cs_new hc.2.2)) (Nat.le_succ _)
    · cases hf
  · cases hf
theorem cn_new (hf : s_new ps L S st = some r) (hc : am_Ca g L S st) : am_P g st r := by
  unfold s_new at hf
  split at hf
  · unfold am_nx at hf
    cases hf
    exact Pn (Ca_st (Ca_cons hc (v3_p _)) (Cs_new hc.2.2)) (Nat.le_succ _)
  · cases hf
theorem cn_call (hf : s_call ps L S st = some r) (hc : am_Ca g L S st) : am_P g st r := by
  unfold s_call at hf
  split at hf
  · cases hf
    exact Pn ⟨fun v hv => hc.2.1 v (List.mem_of_mem_take (List.mem_reverse.mp hv)), fun v hv => hc.2.1 v (List.mem_of_mem_drop hv), hc.2.2⟩ (Nat.le_refl _)
  · cases hf
theorem cn_oini (hf : s_oini L S st = some r) (hc : am_Ca g L S st) : am_P g st r := by
  unfold s_oini at hf
  split at hf
  · split at hf
    · unfold am_nx at hf
      cases hf
      exact Pn (Ca_tl hc) (Nat.le_refl _)
    · cases hf
  · cases hf
theorem cn_acpy (hf : s_acpy L S st = some r) (hc : am_Ca g L S st) : am_P g st r := by
  unfold s_acpy at hf
  split at hf
  · next n dp dd sp ss S' =>
    split at hf
    · next hk =>
      obtain ⟨hk, -⟩ := hk
      have : dd.toNat < st.1 ∧ 0 ≤ dd ∧ (am_lay ss).1 = (am_lay dd).1 := by
        rcases hk with ⟨a, b⟩ | ⟨a, b⟩
        · obtain ⟨i1, i2, i3⟩ := am_is_iff.mp a
          obtain ⟨j1, j2, j3⟩ := am_is_iff.mp b
          exact ⟨j1, j3, by rw [i2, j2]⟩
        · obtain ⟨i1, i2, i3⟩ := am_is_iff.mp a
          obtain ⟨j1, j2, j3⟩ := am_is_iff.mp b
          exact ⟨j1, j3, by rw [i2, j2]⟩
      unfold am_nx at hf
      cases hf
      exact Pn (Ca_st (Ca_tl (Ca_tl (Ca_tl (Ca_tl (Ca_tl hc))))) (Cs_cpy hc.2.2 this.2.1 this.1 this.2.2)) (Nat.le_refl _)
    · cases hf
  · cases hf
theorem cn_mx (hf : s_mx L S st = some r) (hc : am_Ca g L S st) : am_P g st r := by
  unfold s_mx at hf
  split at hf
  · split at hf
    · unfold am_nx at hf
      cases hf
      refine Pn (Ca_cons (Ca_tl (Ca_tl hc)) ?_) (Nat.le_refl _)
      split
      · exact Ca_hd hc
      · exact Ca_hd (Ca_tl hc)
    · cases hf
  · cases hf
theorem cn_mn (hf : s_mn L S st = some r) (hc : am_Ca g L S st) : am_P g st r := by
  unfold s_mn at hf
  split at hf
  · split at hf
    · unfold am_nx at hf
      cases hf
      refine Pn (Ca_cons (Ca_tl (Ca_tl hc)) ?_) (Nat.le_refl _)
      split
      · exact Ca_hd hc
      · exact Ca_hd (Ca_tl hc)
    · cases hf
  · cases hf
theorem Ca_one {v : am_V} (hc : am_Cs g st) (hv : am_v3 v) : am_Ca g [v] [] st := ⟨fun x hx => by
  rcases List.mem_singleton.mp hx with rfl
  exact hv, (fun x hx => nomatch hx), hc⟩
theorem cn_iret (hf : s_iret L S st = some r) (hc : am_Ca g L S st) : am_P g st r := by
  unfold s_iret at hf
  split at hf
  · cases hf
    exact Pn (Ca_one hc.2.2 (Ca_hd hc)) (Nat.le_refl _)
  · cases hf
theorem cn_zret (hf : s_zret L S st = some r) (hc : am_Ca g L S st) : am_P g st r := by
  unfold s_zret at hf
  split at hf
  · split at hf
    · cases hf
      exact Pn (Ca_one hc.2.2 (Ca_hd hc)) (Nat.le_refl _)
    · cases hf
  · cases hf
theorem cn_lret (hf : s_lret L S st = some r) (hc : am_Ca g L S st) : am_P g st r := by
  unfold s_lret at hf
  split at hf
  · cases hf
    exact Pn (Ca_one hc.2.2 (Ca_hd hc)) (Nat.le_refl _)
  · cases hf
theorem cn_vret (hf : s_vret L S st = some r) (hc : am_Ca g L S st) : am_P g st r := by
  unfold s_vret at hf
  split at hf
  · cases hf
    exact Pn (Ca_one hc.2.2 ⟨(fun h => nomatch h), (fun h => nomatch h)⟩) (Nat.le_refl _)
  · cases hf
end CN

def am_chk (m i : Nat) (a : am_I) : Bool := match a.1 with
  | 0 => c_iconst m i a.2 && am_rb (am_pa a.2 0)
  | 1 => c_bpush m i a.2 && am_rb (am_pa a.2 0)
  | 2 => c_spush m i a.2 && am_rb (am_pa a.2 0)
  | 3 => c_ldc m i a.2 && am_rb (am_pa a.2 0)
  | 4 => c_ldcw m i a.2 && am_rb (am_pa a.2 0)
  | 5 => c_lconst m i a.2 && am_rl (am_pa a.2 0)
  | 6 => c_ldc2 m i a.2 && am_rl (am_pa a.2 0)
  | 7 => c_loc .iload_n .iload m i a.2
  | 8 => c_loc .aload_n .aload m i a.2
  | 9 => c_loc .lload_n .lload m i a.2
  | 10 => c_loc .istore_n .istore m i a.2
  | 11 => c_loc .astore_n .astore m i a.2
  | 12 => c_inc m i a.2
  | 13 => am_dc m i .iadd 1
  | 14 => am_dc m i .isub 1
  | 15 => am_dc m i .imul 1
  | 16 => am_dc m i .idiv 1
  | 17 => am_dc m i .irem 1
  | 18 => am_dc m i .ineg 1
  | 19 => am_dc m i .ishl 1
  | 20 => am_dc m i .ishr 1
  | 21 => am_dc m i .iushr 1
  | 22 => am_dc m i .iand 1
  | 23 => am_dc m i .ior 1
  | 24 => am_dc m i .ixor 1
  | 25 => am_dc m i .ladd 1
  | 26 => am_dc m i .lmul 1
  | 27 => am_dc m i .land 1
  | 28 => am_dc m i .lor 1
  | 29 => am_dc m i .lshl 1
  | 30 => am_dc m i .lshr 1
  | 31 => am_dc m i .lcmp 1
  | 32 => am_dc m i .i2l 1
  | 33 => am_dc m i .l2i 1
  | 34 => am_dc m i .i2b 1
  | 35 => am_dc m i .i2s 1
  | 36 => am_dc m i .pop 1
  | 37 => am_dc m i .dup 1
  | 38 => am_dc m i .dup2 1
  | 39 => c_ifc m i a.2
  | 40 => c_icmp m i a.2
  | 41 => c_goto m i a.2
  | 42 => c_tsw m i a.2
  | 43 => c_lsw m i a.2
  | 44 => c_gI m i a.2 && decide ((am_pa a.2 0).toNat < 12)
  | 45 => c_gR m i a.2
  | 46 => c_pI m i a.2
  | 47 => c_pZ m i a.2
  | 48 => c_pF m i a.2
  | 49 => am_dc m i .iaload 1
  | 50 => am_dc m i .iastore 1
  | 51 => am_dc m i .laload 1
  | 52 => am_dc m i .lastore 1
  | 53 => am_dc m i .aaload 1
  | 54 => am_dc m i .aastore 1
  | 55 => am_dc m i .arraylength 1
  | 56 => c_narr m i a.2
  | 57 => c_anew m i a.2
  | 58 => c_new m i a.2
  | 59 => c_call m i a.2
  | 60 => c_oini m i a.2
  | 61 => c_acpy m i a.2
  | 62 => decide (decode (am_by m) (am_pc m i) = .ok (.ireturn, 1)) && decide (am_rt m = some .int)
  | 63 => decide (decode (am_by m) (am_pc m i) = .ok (.ireturn, 1)) && decide (am_rt m = some .boolean)
  | 64 => decide (decode (am_by m) (am_pc m i) = .ok (.lreturn, 1)) && decide (am_rt m = some .long)
  | 65 => decide (decode (am_by m) (am_pc m i) = .ok (.return_, 1)) && decide (am_rt m = none)
  | 66 => c_mx m i a.2
  | 67 => c_mn m i a.2
  | _ => false
theorem g_ret3 {mi i : Nat} {f : List am_V → List am_V → am_S → Option am_R} (hr : ∀ {L S : List am_V} {st : am_S} {r : am_R}, f L S st = some r → r.1 = 3) : am_Go mi i f := by
  intro p l e R s m args below meth c Q g n0 cE C L S st r hc hf
  have h := hr hf
  exact ⟨fun q => absurd (q.symm.trans h) (by decide), fun q => absurd (q.symm.trans h) (by decide), fun q => absurd (q.symm.trans h) (by decide)⟩
set_option maxHeartbeats 4000000 in
theorem am_good {m i : Nat} {a : am_I} (h : am_chk m i a = true) : am_Go m i (am_se a) := by
  obtain ⟨k, ps⟩ := a
  match k, h with
  | 0, h => have h := Bool.and_eq_true_iff.mp h; exact g_iconst h.1
  | 1, h => have h := Bool.and_eq_true_iff.mp h; exact g_bpush h.1
  | 2, h => have h := Bool.and_eq_true_iff.mp h; exact g_spush h.1
  | 3, h => have h := Bool.and_eq_true_iff.mp h; exact g_ldc h.1
  | 4, h => have h := Bool.and_eq_true_iff.mp h; exact g_ldcw h.1
  | 5, h => have h := Bool.and_eq_true_iff.mp h; exact g_lconst h.1
  | 6, h => have h := Bool.and_eq_true_iff.mp h; exact g_ldc2 h.1
  | 7, h => exact g_ild h
  | 8, h => exact g_ald h
  | 9, h => exact g_lld h
  | 10, h => exact g_ist h
  | 11, h => exact g_ast h
  | 12, h => exact g_inc h
  | 13, h => exact g_bin (f := fun x y => x + y) h (fun a b c d => lv_iadd a b c d)
  | 14, h => exact g_bin (f := fun x y => x - y) h (fun a b c d => lv_isub a b c d)
  | 15, h => exact g_bin (f := fun x y => x * y) h (fun a b c d => lv_imul a b c d)
  | 16, h => exact g_bin0 (f := fun x y => x / y) h (fun a b c d e => lv_idiv a b c d e)
  | 17, h => exact g_bin0 (f := fun x y => x - x / y * y) h (fun a b c d e => lv_irem a b c d e)
  | 18, h => exact g_un (f := fun x => -x) h (fun a b c d => lv_ineg a b c d)
  | 19, h => exact g_bin (f := fun x y => x <<< (y &&& 31)) h (fun a b c d => lv_ishl a b c d)
  | 20, h => exact g_bin (f := fun x y => x >>> (y &&& 31)) h (fun a b c d => lv_ishr a b c d)
  | 21, h => exact g_bin h (fun a b c d => lv_iushr a b c rfl d)
  | 22, h => exact g_bin (f := fun x y => x &&& y) h (fun a b c d => lv_iand a b c d)
  | 23, h => exact g_bin (f := fun x y => x ||| y) h (fun a b c d => lv_ior a b c d)
  | 24, h => exact g_bin (f := fun x y => x ^^^ y) h (fun a b c d => lv_ixor a b c d)
  | 25, h => exact g_lbin (f := fun x y => x + y) h (fun a b c d => lv_ladd a b c d)
  | 26, h => exact g_lbin (f := fun x y => x * y) h (fun a b c d => lv_lmul a b c d)
  | 27, h => exact g_lbin (f := fun x y => x &&& y) h (fun a b c d => lv_land a b c d)
  | 28, h => exact g_lbin (f := fun x y => x ||| y) h (fun a b c d => lv_lor a b c d)
  | 29, h => exact g_lsh h (fun a b c d => lv_lshl a b c rfl d)
  | 30, h => exact g_lsh h (fun a b c d => lv_lshr a b c rfl d)
  | 31, h => exact g_lcmp h
  | 32, h => exact g_i2l h
  | 33, h => exact g_l2i h
  | 34, h => exact g_un h (fun a b c d => lv_i2b a b c rfl d)
  | 35, h => exact g_un h (fun a b c d => lv_i2s a b c rfl d)
  | 36, h => exact g_pop h
  | 37, h => exact g_dup h
  | 38, h => exact g_dup2 h
  | 39, h => exact g_ifc h
  | 40, h => exact g_icmp h
  | 41, h => exact g_goto h
  | 42, h => exact g_tsw h
  | 43, h => exact g_lsw h
  | 44, h => have h := Bool.and_eq_true_iff.mp h; exact g_gI h.1
  | 45, h => exact g_gR h
  | 46, h => exact g_pI h
  | 47, h => exact g_pZ h
  | 48, h => exact g_pF h
  | 49, h => exact g_iald h
  | 50, h => exact g_iast h
  | 51, h => exact g_lald h
  | 52, h => exact g_last h
  | 53, h => exact g_aald h
  | 54, h => exact g_aast h
  | 55, h => exact g_alen h
  | 56, h => exact g_narr h
  | 57, h => exact g_anew h
  | 58, h => exact g_new h
  | 59, h => exact g_call h
  | 60, h => exact g_oini h
  | 61, h => exact g_acpy h
  | 62, h => exact g_ret3 (f := s_iret) (fun h => by unfold s_iret at h; split at h <;> cases h <;> rfl)
  | 63, h => exact g_ret3 (f := s_zret) (fun h => by unfold s_zret at h; split at h <;> first | (split at h <;> cases h <;> rfl) | cases h)
  | 64, h => exact g_ret3 (f := s_lret) (fun h => by unfold s_lret at h; split at h <;> cases h <;> rfl)
  | 65, h => exact g_ret3 (f := s_vret) (fun h => by unfold s_vret at h; split at h <;> cases h <;> rfl)
  | 66, h => exact g_mx h
  | 67, h => exact g_mn h
  | n + 68, h => cases h
set_option maxHeartbeats 4000000 in
theorem am_can {m i : Nat} {a : am_I} {g : am_G} {L S : List am_V} {st : am_S} {r : am_R} (h : am_chk m i a = true) (hf : am_se a L S st = some r) (hc : am_Ca g L S st) : am_P g st r := by
  obtain ⟨k, ps⟩ := a
  match k, h with
  | 0, h => have h := Bool.and_eq_true_iff.mp h; exact cn_cst h.2 hf hc
  | 1, h => have h := Bool.and_eq_true_iff.mp h; exact cn_cst h.2 hf hc
  | 2, h => have h := Bool.and_eq_true_iff.mp h; exact cn_cst h.2 hf hc
  | 3, h => have h := Bool.and_eq_true_iff.mp h; exact cn_cst h.2 hf hc
  | 4, h => have h := Bool.and_eq_true_iff.mp h; exact cn_cst h.2 hf hc
  | 5, h => have h := Bool.and_eq_true_iff.mp h; exact cn_lcst h.2 hf hc
  | 6, h => have h := Bool.and_eq_true_iff.mp h; exact cn_lcst h.2 hf hc
  | 7, h => exact cn_ld hf hc
  | 8, h => exact cn_ld hf hc
  | 9, h => exact cn_ld hf hc
  | 10, h => exact cn_st hf hc
  | 11, h => exact cn_st hf hc
  | 12, h => exact cn_inc hf hc
  | 13, h => exact cn_bin hf hc
  | 14, h => exact cn_bin hf hc
  | 15, h => exact cn_bin hf hc
  | 16, h => exact cn_bin0 hf hc
  | 17, h => exact cn_bin0 (f := fun x y => x - x / y * y) hf hc
  | 18, h => exact cn_un hf hc
  | 19, h => exact cn_bin (f := fun x y => x <<< (y &&& 31)) hf hc
  | 20, h => exact cn_bin (f := fun x y => x >>> (y &&& 31)) hf hc
  | 21, h => exact cn_bin (f := fun x y => (x.toUInt32 >>> (y.toUInt32 &&& Int32.toUInt32 31)).toInt32) hf hc
  | 22, h => exact cn_bin hf hc
  | 23, h => exact cn_bin hf hc
  | 24, h => exact cn_bin hf hc
  | 25, h => exact cn_lbin hf hc
  | 26, h => exact cn_lbin hf hc
  | 27, h => exact cn_lbin hf hc
  | 28, h => exact cn_lbin hf hc
  | 29, h => exact cn_lsh (f := fun x y => x <<< (y.toInt64 &&& 63)) hf hc
  | 30, h => exact cn_lsh (f := fun x y => x >>> (y.toInt64 &&& 63)) hf hc
  | 31, h => exact cn_lcmp hf hc
  | 32, h => exact cn_i2l hf hc
  | 33, h => exact cn_l2i hf hc
  | 34, h => exact cn_un (f := fun x => x.toInt8.toInt32) hf hc
  | 35, h => exact cn_un (f := fun x => x.toInt16.toInt32) hf hc
  | 36, h => exact cn_pop hf hc
  | 37, h => exact cn_dup hf hc
  | 38, h => exact cn_dup2 hf hc
  | 39, h => exact cn_ifc hf hc
  | 40, h => exact cn_icmp hf hc
  | 41, h => exact cn_goto hf hc
  | 42, h => exact cn_tsw hf hc
  | 43, h => exact cn_lsw hf hc
  | 44, h => have h := Bool.and_eq_true_iff.mp h; exact cn_gI (of_decide_eq_true h.2) hf hc
  | 45, h => exact cn_gR hf hc
  | 46, h => exact cn_pI hf hc
  | 47, h => exact cn_pZ hf hc
  | 48, h => exact cn_pF hf hc
  | 49, h => exact cn_iald hf hc
  | 50, h => exact cn_iast hf hc
  | 51, h => exact cn_lald hf hc
  | 52, h => exact cn_last hf hc
  | 53, h => exact cn_aald hf hc
  | 54, h => exact cn_aast hf hc
  | 55, h => exact cn_alen hf hc
  | 56, h => exact cn_narr hf hc
  | 57, h => exact cn_anew hf hc
  | 58, h => exact cn_new hf hc
  | 59, h => exact cn_call hf hc
  | 60, h => exact cn_oini hf hc
  | 61, h => exact cn_acpy hf hc
  | 62, h => exact cn_iret hf hc
  | 63, h => exact cn_zret hf hc
  | 64, h => exact cn_lret hf hc
  | 65, h => exact cn_vret hf hc
  | 66, h => exact cn_mx hf hc
  | 67, h => exact cn_mn hf hc
  | n + 68, h => cases h

theorem am_k2 {a : am_I} {L S : List am_V} {st : am_S} {r : am_R} (h : am_se a L S st = some r) : r.1 ≠ 2 ∨ a.1 = 59 := by
  obtain ⟨k, ps⟩ := a
  match k, h with
  | 0, h => left; simp only [am_se, s_cst, am_nx, am_jp] at h; (repeat' split at h) <;> first | (cases h; exact Nat.ne_of_beq_eq_false rfl) | cases h
  | 1, h => left; simp only [am_se, s_cst, am_nx, am_jp] at h; (repeat' split at h) <;> first | (cases h; exact Nat.ne_of_beq_eq_false rfl) | cases h
  | 2, h => left; simp only [am_se, s_cst, am_nx, am_jp] at h; (repeat' split at h) <;> first | (cases h; exact Nat.ne_of_beq_eq_false rfl) | cases h
  | 3, h => left; simp only [am_se, s_cst, am_nx, am_jp] at h; (repeat' split at h) <;> first | (cases h; exact Nat.ne_of_beq_eq_false rfl) | cases h
  | 4, h => left; simp only [am_se, s_cst, am_nx, am_jp] at h; (repeat' split at h) <;> first | (cases h; exact Nat.ne_of_beq_eq_false rfl) | cases h
  | 5, h => left; simp only [am_se, s_lcst, am_nx, am_jp] at h; (repeat' split at h) <;> first | (cases h; exact Nat.ne_of_beq_eq_false rfl) | cases h
  | 6, h => left; simp only [am_se, s_lcst, am_nx, am_jp] at h; (repeat' split at h) <;> first | (cases h; exact Nat.ne_of_beq_eq_false rfl) | cases h
  | 7, h => left; simp only [am_se, s_ld, am_nx, am_jp] at h; (repeat' split at h) <;> first | (cases h; exact Nat.ne_of_beq_eq_false rfl) | cases h
  | 8, h => left; simp only [am_se, s_ld, am_nx, am_jp] at h; (repeat' split at h) <;> first | (cases h; exact Nat.ne_of_beq_eq_false rfl) | cases h
  | 9, h => left; simp only [am_se, s_ld, am_nx, am_jp] at h; (repeat' split at h) <;> first | (cases h; exact Nat.ne_of_beq_eq_false rfl) | cases h
  | 10, h => left; simp only [am_se, s_st, am_nx, am_jp] at h; (repeat' split at h) <;> first | (cases h; exact Nat.ne_of_beq_eq_false rfl) | cases h
  | 11, h => left; simp only [am_se, s_st, am_nx, am_jp] at h; (repeat' split at h) <;> first | (cases h; exact Nat.ne_of_beq_eq_false rfl) | cases h
  | 12, h => left; simp only [am_se, s_inc, am_nx, am_jp] at h; (repeat' split at h) <;> first | (cases h; exact Nat.ne_of_beq_eq_false rfl) | cases h
  | 13, h => left; simp only [am_se, s_bin, am_nx, am_jp] at h; (repeat' split at h) <;> first | (cases h; exact Nat.ne_of_beq_eq_false rfl) | cases h
  | 14, h => left; simp only [am_se, s_bin, am_nx, am_jp] at h; (repeat' split at h) <;> first | (cases h; exact Nat.ne_of_beq_eq_false rfl) | cases h
  | 15, h => left; simp only [am_se, s_bin, am_nx, am_jp] at h; (repeat' split at h) <;> first | (cases h; exact Nat.ne_of_beq_eq_false rfl) | cases h
  | 16, h => left; simp only [am_se, s_bin0, am_nx, am_jp] at h; (repeat' split at h) <;> first | (cases h; exact Nat.ne_of_beq_eq_false rfl) | cases h
  | 17, h => left; simp only [am_se, s_bin0, am_nx, am_jp] at h; (repeat' split at h) <;> first | (cases h; exact Nat.ne_of_beq_eq_false rfl) | cases h
  | 18, h => left; simp only [am_se, s_un, am_nx, am_jp] at h; (repeat' split at h) <;> first | (cases h; exact Nat.ne_of_beq_eq_false rfl) | cases h
  | 19, h => left; simp only [am_se, s_bin, am_nx, am_jp] at h; (repeat' split at h) <;> first | (cases h; exact Nat.ne_of_beq_eq_false rfl) | cases h
  | 20, h => left; simp only [am_se, s_bin, am_nx, am_jp] at h; (repeat' split at h) <;> first | (cases h; exact Nat.ne_of_beq_eq_false rfl) | cases h
  | 21, h => left; simp only [am_se, s_bin, am_nx, am_jp] at h; (repeat' split at h) <;> first | (cases h; exact Nat.ne_of_beq_eq_false rfl) | cases h
  | 22, h => left; simp only [am_se, s_bin, am_nx, am_jp] at h; (repeat' split at h) <;> first | (cases h; exact Nat.ne_of_beq_eq_false rfl) | cases h
  | 23, h => left; simp only [am_se, s_bin, am_nx, am_jp] at h; (repeat' split at h) <;> first | (cases h; exact Nat.ne_of_beq_eq_false rfl) | cases h
  | 24, h => left; simp only [am_se, s_bin, am_nx, am_jp] at h; (repeat' split at h) <;> first | (cases h; exact Nat.ne_of_beq_eq_false rfl) | cases h
  | 25, h => left; simp only [am_se, s_lbin, am_nx, am_jp] at h; (repeat' split at h) <;> first | (cases h; exact Nat.ne_of_beq_eq_false rfl) | cases h
  | 26, h => left; simp only [am_se, s_lbin, am_nx, am_jp] at h; (repeat' split at h) <;> first | (cases h; exact Nat.ne_of_beq_eq_false rfl) | cases h
  | 27, h => left; simp only [am_se, s_lbin, am_nx, am_jp] at h; (repeat' split at h) <;> first | (cases h; exact Nat.ne_of_beq_eq_false rfl) | cases h
  | 28, h => left; simp only [am_se, s_lbin, am_nx, am_jp] at h; (repeat' split at h) <;> first | (cases h; exact Nat.ne_of_beq_eq_false rfl) | cases h
  | 29, h => left; simp only [am_se, s_lsh, am_nx, am_jp] at h; (repeat' split at h) <;> first | (cases h; exact Nat.ne_of_beq_eq_false rfl) | cases h
  | 30, h => left; simp only [am_se, s_lsh, am_nx, am_jp] at h; (repeat' split at h) <;> first | (cases h; exact Nat.ne_of_beq_eq_false rfl) | cases h
  | 31, h => left; simp only [am_se, s_lcmp, am_nx, am_jp] at h; (repeat' split at h) <;> first | (cases h; exact Nat.ne_of_beq_eq_false rfl) | cases h
  | 32, h => left; simp only [am_se, s_i2l, am_nx, am_jp] at h; (repeat' split at h) <;> first | (cases h; exact Nat.ne_of_beq_eq_false rfl) | cases h
  | 33, h => left; simp only [am_se, s_l2i, am_nx, am_jp] at h; (repeat' split at h) <;> first | (cases h; exact Nat.ne_of_beq_eq_false rfl) | cases h
  | 34, h => left; simp only [am_se, s_un, am_nx, am_jp] at h; (repeat' split at h) <;> first | (cases h; exact Nat.ne_of_beq_eq_false rfl) | cases h
  | 35, h => left; simp only [am_se, s_un, am_nx, am_jp] at h; (repeat' split at h) <;> first | (cases h; exact Nat.ne_of_beq_eq_false rfl) | cases h
  | 36, h => left; simp only [am_se, s_pop, am_nx, am_jp] at h; (repeat' split at h) <;> first | (cases h; exact Nat.ne_of_beq_eq_false rfl) | cases h
  | 37, h => left; simp only [am_se, s_dup, am_nx, am_jp] at h; (repeat' split at h) <;> first | (cases h; exact Nat.ne_of_beq_eq_false rfl) | cases h
  | 38, h => left; simp only [am_se, s_dup2, am_nx, am_jp] at h; (repeat' split at h) <;> first | (cases h; exact Nat.ne_of_beq_eq_false rfl) | cases h
  | 39, h => left; simp only [am_se, s_ifc, am_nx, am_jp] at h; (repeat' split at h) <;> first | (cases h; exact Nat.ne_of_beq_eq_false rfl) | cases h
  | 40, h => left; simp only [am_se, s_icmp, am_nx, am_jp] at h; (repeat' split at h) <;> first | (cases h; exact Nat.ne_of_beq_eq_false rfl) | cases h
  | 41, h => left; simp only [am_se, s_goto, am_nx, am_jp] at h; (repeat' split at h) <;> first | (cases h; exact Nat.ne_of_beq_eq_false rfl) | cases h
  | 42, h => left; simp only [am_se, s_tsw, am_nx, am_jp] at h; (repeat' split at h) <;> first | (cases h; exact Nat.ne_of_beq_eq_false rfl) | cases h
  | 43, h => left; simp only [am_se, s_lsw, am_nx, am_jp] at h; (repeat' split at h) <;> first | (cases h; exact Nat.ne_of_beq_eq_false rfl) | cases h
  | 44, h => left; simp only [am_se, s_gI, am_nx, am_jp] at h; (repeat' split at h) <;> first | (cases h; exact Nat.ne_of_beq_eq_false rfl) | cases h
  | 45, h => left; simp only [am_se, s_gR, am_nx, am_jp] at h; (repeat' split at h) <;> first | (cases h; exact Nat.ne_of_beq_eq_false rfl) | cases h
  | 46, h => left; simp only [am_se, s_pI, am_nx, am_jp] at h; (repeat' split at h) <;> first | (cases h; exact Nat.ne_of_beq_eq_false rfl) | cases h
  | 47, h => left; simp only [am_se, s_pZ, am_nx, am_jp] at h; (repeat' split at h) <;> first | (cases h; exact Nat.ne_of_beq_eq_false rfl) | cases h
  | 48, h => left; simp only [am_se, s_pF, am_nx, am_jp] at h; (repeat' split at h) <;> first | (cases h; exact Nat.ne_of_beq_eq_false rfl) | cases h
  | 49, h => left; simp only [am_se, s_iald, am_nx, am_jp] at h; (repeat' split at h) <;> first | (cases h; exact Nat.ne_of_beq_eq_false rfl) | cases h
  | 50, h => left; simp only [am_se, s_iast, am_nx, am_jp] at h; (repeat' split at h) <;> first | (cases h; exact Nat.ne_of_beq_eq_false rfl) | cases h
  | 51, h => left; simp only [am_se, s_lald, am_nx, am_jp] at h; (repeat' split at h) <;> first | (cases h; exact Nat.ne_of_beq_eq_false rfl) | cases h
  | 52, h => left; simp only [am_se, s_last, am_nx, am_jp] at h; (repeat' split at h) <;> first | (cases h; exact Nat.ne_of_beq_eq_false rfl) | cases h
  | 53, h => left; simp only [am_se, s_aald, am_nx, am_jp] at h; (repeat' split at h) <;> first | (cases h; exact Nat.ne_of_beq_eq_false rfl) | cases h
  | 54, h => left; simp only [am_se, s_aast, am_nx, am_jp] at h; (repeat' split at h) <;> first | (cases h; exact Nat.ne_of_beq_eq_false rfl) | cases h
  | 55, h => left; simp only [am_se, s_alen, am_nx, am_jp] at h; (repeat' split at h) <;> first | (cases h; exact Nat.ne_of_beq_eq_false rfl) | cases h
  | 56, h => left; simp only [am_se, s_narr, am_nx, am_jp] at h; (repeat' split at h) <;> first | (cases h; exact Nat.ne_of_beq_eq_false rfl) | cases h
  | 57, h => left; simp only [am_se, s_anew, am_nx, am_jp] at h; (repeat' split at h) <;> first | (cases h; exact Nat.ne_of_beq_eq_false rfl) | cases h
  | 58, h => left; simp only [am_se, s_new, am_nx, am_jp] at h; (repeat' split at h) <;> first | (cases h; exact Nat.ne_of_beq_eq_false rfl) | cases h
  | 59, _ => exact Or.inr rfl
  | 60, h => left; simp only [am_se, s_oini, am_nx, am_jp] at h; (repeat' split at h) <;> first | (cases h; exact Nat.ne_of_beq_eq_false rfl) | cases h
  | 61, h => left; simp only [am_se, s_acpy, am_nx, am_jp] at h; (repeat' split at h) <;> first | (cases h; exact Nat.ne_of_beq_eq_false rfl) | cases h
  | 62, h => left; simp only [am_se, s_iret, am_nx, am_jp] at h; (repeat' split at h) <;> first | (cases h; exact Nat.ne_of_beq_eq_false rfl) | cases h
  | 63, h => left; simp only [am_se, s_zret, am_nx, am_jp] at h; (repeat' split at h) <;> first | (cases h; exact Nat.ne_of_beq_eq_false rfl) | cases h
  | 64, h => left; simp only [am_se, s_lret, am_nx, am_jp] at h; (repeat' split at h) <;> first | (cases h; exact Nat.ne_of_beq_eq_false rfl) | cases h
  | 65, h => left; simp only [am_se, s_vret, am_nx, am_jp] at h; (repeat' split at h) <;> first | (cases h; exact Nat.ne_of_beq_eq_false rfl) | cases h
  | 66, h => left; simp only [am_se, s_mx, am_nx, am_jp] at h; (repeat' split at h) <;> first | (cases h; exact Nat.ne_of_beq_eq_false rfl) | cases h
  | 67, h => left; simp only [am_se, s_mn, am_nx, am_jp] at h; (repeat' split at h) <;> first | (cases h; exact Nat.ne_of_beq_eq_false rfl) | cases h
  | n + 68, h => cases h
theorem am_c2 {mi i t : Nat} {a : am_I} {L S L' S' : List am_V} {st s' : am_S} (hk : am_chk mi i a = true) (h : am_se a L S st = some (2, t, L', S', s')) : t < 231 ∧ L'.map am_cat = am_wi t ∧ s' = st := by
  rcases am_k2 h with h2 | h2
  · exact absurd rfl h2
  · obtain ⟨k, ps⟩ := a
    dsimp only at h2
    subst h2
    have hk : c_call mi i ps = true := hk
    simp only [c_call, Bool.and_eq_true, decide_eq_true_eq] at hk
    have hm := hk.1.1.1.1.1.1.1.1.1
    simp only [am_se, s_call] at h
    split at h
    · next hok =>
      cases h
      have hck := hok.2
      simp only [am_ck, Bool.and_eq_true, decide_eq_true_eq] at hck
      exact ⟨hm, hck.1, rfl⟩
    · cases h
theorem am_pc0 : ∀ m : Nat, m < 231 + 1 → am_pc m 0 = 0 := by decide +kernel
theorem am_en_LH {g : am_G} {m : Nat} {As : List am_V} (hw : As.map am_cat = am_wi m) (hs : (am_wi m).sum ≤ am_mx m) : am_LH g ((lg_sl (am_vs g As) ++ List.replicate (am_mx m - (lg_sl (am_vs g As)).length) Slot.unset).toArray) (am_mx m) (am_en m As) := by
  have hl : (lg_sl (am_vs g As)).length = (am_wi m).sum := by rw [lg_sl_len, hw]
  have h := lv_entry (am_vs g As) (n := am_mx m) (by rw [hl]; exact hs)
  refine ⟨h.1, h.2.1, ?_, fun i v hv h3 => ?_⟩
  · unfold am_en
    rw [List.length_append, am_en_len hw, List.length_replicate]
    omega
  · unfold am_en at hv
    by_cases hi : i < (am_pl (am_wi m) As).length
    · rw [List.getElem?_append_left hi, ← hw] at hv
      have := am_sl_vs g As 0 i v hv h3
      rw [Nat.zero_add] at this
      exact h.2.2 _ this
    · rw [List.getElem?_append_right (by omega)] at hv
      have := List.mem_of_getElem? hv
      rw [(List.mem_replicate.mp this).2] at h3
      exact absurd h3 (by decide)
set_option maxHeartbeats 4000000 in
theorem am_MO_of {n : Nat} (hP : am_SimP n) {l : Launch} {g : am_G} {m' : Nat} {As : List am_V} {st st2 : am_S} {rv : am_V} (hm : m' < 231) (hw : As.map am_cat = am_wi m') (hc : am_Ca g As [] st) (hrun : am_run n m' (am_pr m') (am_en m' As) [] st = some (rv, st2)) : am_MO l g m' As st rv st2 := by
  have hmt := am_mth_ok _ hm
  simp only [c_mth, Bool.and_eq_true, decide_eq_true_eq] at hmt
  obtain ⟨⟨⟨⟨⟨w2, w3⟩, w4⟩, w5⟩, w6⟩, w7⟩ := hmt
  unfold am_MO
  refine Met.ofW (cc := am_by m') (maxL := am_mx m') (ret := am_rt m') w3 rfl ?_
  intro p e s m args below meth c s₁ B hml hv
  obtain ⟨rfl, hsz, hPP, hSB⟩ := hv
  have hts := atoms_spec (ws := am_wr m') B.pre
  have C : am_Cx m' p (am_rm m' st st2) s m (am_vs g As).toArray meth c g st.1 st2.1 := ⟨B.exec, B.bytes, hml, findClass_of_methodNamed B.named, fun w hw => hts w (List.mem_cons_of_mem _ hw), fun hin => (name_of_methodNamed B.named B.method).1.trans hin, hSB, hsz, Nat.le_refl _, Nat.le_refl _, Nat.le_refl _, Nat.le_refl _, B.returns, B.notSynchronized⟩
  have hW := hP m' p l e (am_rm m' st st2) s m (am_vs g As).toArray below meth c (MQ below (am_Qc g rv st2) (am_vs g As).toArray s (st2.1 - st.1) (am_sl st2.1 - am_sl st.1) (fun q => g.1 ≤ q)) g st.1 rv st2 C (fun i L S hE => am_end_ok C hE) 0 (am_en m' As) [] st (am_en_can hc) (by rw [List.drop_zero]; exact hrun)
  rw [lg_entry_eq]
  have hW := hW _ s.heap [] (am_en_LH hw w7) hPP va_S.rf (Nat.le_refl _)
  rw [Nat.sub_self, Nat.sub_self, am_pc0 m' (by omega)] at hW
  exact hW
set_option maxHeartbeats 4000000 in
theorem am_sim (hall : am_All) : ∀ n : Nat, am_SimP n := by
  intro n
  induction n with
  | zero =>
    intro mi p l e R s m args below meth c Q g n0 rv stE C hR i L S st hc h
    cases h
  | succ n ih =>
    intro mi p l e R s m args below meth c Q g n0 rv stE C hR i L S st hc h
    have hmono := (am_rc hall g _ _ _ _ _ _ _ _ h hc).2
    cases hd : (am_pr mi).drop i with
    | nil => rw [hd] at h; cases h
    | cons a is =>
      obtain ⟨ha, his⟩ := am_drop hd
      have hk := hall mi i a ha
      rw [hd, am_run] at h
      cases hse : am_se a L S st with
      | none => rw [hse] at h; cases h
      | some r0 =>
        rw [hse] at h
        have hSp := am_good hk p l e R s m args below meth c Q g n0 stE.1 C L S st r0 hc hse
        obtain ⟨k, t, L', S', s'⟩ := r0
        obtain ⟨hp1, hp2⟩ := am_can hk hse hc
        dsimp only at hp1 hp2
        match k, h with
        | 0, h =>
          try dsimp only at h
          rw [his] at h
          have q := (am_rc hall g _ _ _ _ _ _ _ _ h hp1).2
          exact hSp.1 rfl q (ih mi p l e R s m args below meth c Q g n0 rv stE C hR (i + 1) L' S' s' hp1 h)
        | 1, h =>
          try dsimp only at h
          exact hSp.2.1 rfl (ih mi p l e R s m args below meth c Q g n0 rv stE C hR t L' S' s' hp1 h)
        | 2, h =>
          have h : (match am_run n t (am_pr t) (am_en t L') [] s' with
            | some (r1, st1) => am_run n mi is L (am_pu r1 S') st1
            | none => none) = some (rv, stE) := h
          split at h
          · next r1 st1 h1 =>
            rw [his] at h
            obtain ⟨c1, c2, c3⟩ := am_c2 hk hse
            subst c3
            have hcA : am_Ca g L' [] s' := ⟨hp1.1, (fun v hv => nomatch hv), hp1.2.2⟩
            have q1 := am_rc hall g n t 0 (am_en t L') [] s' r1 st1 (by rw [List.drop_zero]; exact h1) (am_en_can hcA)
            have hcN := am_pu_can hc.1 hp1.2.1 q1.1
            have q2 := (am_rc hall g _ _ _ _ _ _ _ _ h hcN).2
            exact hSp.2.2 rfl r1 st1 (am_MO_of ih c1 c2 hcA h1) q2 q1.2 (ih mi p l e R s m args below meth c Q g n0 rv stE C hR (i + 1) L (am_pu r1 S') st1 hcN h)
          · cases h
        | k + 3, h =>
          obtain ⟨v, e1, e2, hE⟩ := am_ends hk hse (by dsimp only; omega)
          dsimp only at e1 e2
          subst e1
          subst e2
          try dsimp only at h
          cases h
          exact hR i L S hE


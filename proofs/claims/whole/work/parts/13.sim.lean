theorem am_kd {a : am_I} {L S : List am_V} {st : am_S} {r : am_R} (h : am_se a L S st = some r) : r.1 ≤ 2 ∨ (62 ≤ a.1 ∧ a.1 ≤ 65) := by
  obtain ⟨k, ps⟩ := a
  match k, h with
  | 0, h => left; simp only [am_se, s_cst, am_nx, am_jp] at h; (repeat' split at h) <;> first | (cases h; exact Nat.le_of_ble_eq_true rfl) | cases h
  | 1, h => left; simp only [am_se, s_cst, am_nx, am_jp] at h; (repeat' split at h) <;> first | (cases h; exact Nat.le_of_ble_eq_true rfl) | cases h
  | 2, h => left; simp only [am_se, s_cst, am_nx, am_jp] at h; (repeat' split at h) <;> first | (cases h; exact Nat.le_of_ble_eq_true rfl) | cases h
  | 3, h => left; simp only [am_se, s_cst, am_nx, am_jp] at h; (repeat' split at h) <;> first | (cases h; exact Nat.le_of_ble_eq_true rfl) | cases h
  | 4, h => left; simp only [am_se, s_cst, am_nx, am_jp] at h; (repeat' split at h) <;> first | (cases h; exact Nat.le_of_ble_eq_true rfl) | cases h
  | 5, h => left; simp only [am_se, s_lcst, am_nx, am_jp] at h; (repeat' split at h) <;> first | (cases h; exact Nat.le_of_ble_eq_true rfl) | cases h
  | 6, h => left; simp only [am_se, s_lcst, am_nx, am_jp] at h; (repeat' split at h) <;> first | (cases h; exact Nat.le_of_ble_eq_true rfl) | cases h
  | 7, h => left; simp only [am_se, s_ld, am_nx, am_jp] at h; (repeat' split at h) <;> first | (cases h; exact Nat.le_of_ble_eq_true rfl) | cases h
  | 8, h => left; simp only [am_se, s_ld, am_nx, am_jp] at h; (repeat' split at h) <;> first | (cases h; exact Nat.le_of_ble_eq_true rfl) | cases h
  | 9, h => left; simp only [am_se, s_ld, am_nx, am_jp] at h; (repeat' split at h) <;> first | (cases h; exact Nat.le_of_ble_eq_true rfl) | cases h
  | 10, h => left; simp only [am_se, s_st, am_nx, am_jp] at h; (repeat' split at h) <;> first | (cases h; exact Nat.le_of_ble_eq_true rfl) | cases h
  | 11, h => left; simp only [am_se, s_st, am_nx, am_jp] at h; (repeat' split at h) <;> first | (cases h; exact Nat.le_of_ble_eq_true rfl) | cases h
  | 12, h => left; simp only [am_se, s_inc, am_nx, am_jp] at h; (repeat' split at h) <;> first | (cases h; exact Nat.le_of_ble_eq_true rfl) | cases h
  | 13, h => left; simp only [am_se, s_bin, am_nx, am_jp] at h; (repeat' split at h) <;> first | (cases h; exact Nat.le_of_ble_eq_true rfl) | cases h
  | 14, h => left; simp only [am_se, s_bin, am_nx, am_jp] at h; (repeat' split at h) <;> first | (cases h; exact Nat.le_of_ble_eq_true rfl) | cases h
  | 15, h => left; simp only [am_se, s_bin, am_nx, am_jp] at h; (repeat' split at h) <;> first | (cases h; exact Nat.le_of_ble_eq_true rfl) | cases h
  | 16, h => left; simp only [am_se, s_bin0, am_nx, am_jp] at h; (repeat' split at h) <;> first | (cases h; exact Nat.le_of_ble_eq_true rfl) | cases h
  | 17, h => left; simp only [am_se, s_bin0, am_nx, am_jp] at h; (repeat' split at h) <;> first | (cases h; exact Nat.le_of_ble_eq_true rfl) | cases h
  | 18, h => left; simp only [am_se, s_un, am_nx, am_jp] at h; (repeat' split at h) <;> first | (cases h; exact Nat.le_of_ble_eq_true rfl) | cases h
  | 19, h => left; simp only [am_se, s_bin, am_nx, am_jp] at h; (repeat' split at h) <;> first | (cases h; exact Nat.le_of_ble_eq_true rfl) | cases h
  | 20, h => left; simp only [am_se, s_bin, am_nx, am_jp] at h; (repeat' split at h) <;> first | (cases h; exact Nat.le_of_ble_eq_true rfl) | cases h
  | 21, h => left; simp only [am_se, s_bin, am_nx, am_jp] at h; (repeat' split at h) <;> first | (cases h; exact Nat.le_of_ble_eq_true rfl) | cases h
  | 22, h => left; simp only [am_se, s_bin, am_nx, am_jp] at h; (repeat' split at h) <;> first | (cases h; exact Nat.le_of_ble_eq_true rfl) | cases h
  | 23, h => left; simp only [am_se, s_bin, am_nx, am_jp] at h; (repeat' split at h) <;> first | (cases h; exact Nat.le_of_ble_eq_true rfl) | cases h
  | 24, h => left; simp only [am_se, s_bin, am_nx, am_jp] at h; (repeat' split at h) <;> first | (cases h; exact Nat.le_of_ble_eq_true rfl) | cases h
  | 25, h => left; simp only [am_se, s_lbin, am_nx, am_jp] at h; (repeat' split at h) <;> first | (cases h; exact Nat.le_of_ble_eq_true rfl) | cases h
  | 26, h => left; simp only [am_se, s_lbin, am_nx, am_jp] at h; (repeat' split at h) <;> first | (cases h; exact Nat.le_of_ble_eq_true rfl) | cases h
  | 27, h => left; simp only [am_se, s_lbin, am_nx, am_jp] at h; (repeat' split at h) <;> first | (cases h; exact Nat.le_of_ble_eq_true rfl) | cases h
  | 28, h => left; simp only [am_se, s_lbin, am_nx, am_jp] at h; (repeat' split at h) <;> first | (cases h; exact Nat.le_of_ble_eq_true rfl) | cases h
  | 29, h => left; simp only [am_se, s_lsh, am_nx, am_jp] at h; (repeat' split at h) <;> first | (cases h; exact Nat.le_of_ble_eq_true rfl) | cases h
  | 30, h => left; simp only [am_se, s_lsh, am_nx, am_jp] at h; (repeat' split at h) <;> first | (cases h; exact Nat.le_of_ble_eq_true rfl) | cases h
  | 31, h => left; simp only [am_se, s_lcmp, am_nx, am_jp] at h; (repeat' split at h) <;> first | (cases h; exact Nat.le_of_ble_eq_true rfl) | cases h
  | 32, h => left; simp only [am_se, s_i2l, am_nx, am_jp] at h; (repeat' split at h) <;> first | (cases h; exact Nat.le_of_ble_eq_true rfl) | cases h
  | 33, h => left; simp only [am_se, s_l2i, am_nx, am_jp] at h; (repeat' split at h) <;> first | (cases h; exact Nat.le_of_ble_eq_true rfl) | cases h
  | 34, h => left; simp only [am_se, s_un, am_nx, am_jp] at h; (repeat' split at h) <;> first | (cases h; exact Nat.le_of_ble_eq_true rfl) | cases h
  | 35, h => left; simp only [am_se, s_un, am_nx, am_jp] at h; (repeat' split at h) <;> first | (cases h; exact Nat.le_of_ble_eq_true rfl) | cases h
  | 36, h => left; simp only [am_se, s_pop, am_nx, am_jp] at h; (repeat' split at h) <;> first | (cases h; exact Nat.le_of_ble_eq_true rfl) | cases h
  | 37, h => left; simp only [am_se, s_dup, am_nx, am_jp] at h; (repeat' split at h) <;> first | (cases h; exact Nat.le_of_ble_eq_true rfl) | cases h
  | 38, h => left; simp only [am_se, s_dup2, am_nx, am_jp] at h; (repeat' split at h) <;> first | (cases h; exact Nat.le_of_ble_eq_true rfl) | cases h
  | 39, h => left; simp only [am_se, s_ifc, am_nx, am_jp] at h; (repeat' split at h) <;> first | (cases h; exact Nat.le_of_ble_eq_true rfl) | cases h
  | 40, h => left; simp only [am_se, s_icmp, am_nx, am_jp] at h; (repeat' split at h) <;> first | (cases h; exact Nat.le_of_ble_eq_true rfl) | cases h
  | 41, h => left; simp only [am_se, s_goto, am_nx, am_jp] at h; (repeat' split at h) <;> first | (cases h; exact Nat.le_of_ble_eq_true rfl) | cases h
  | 42, h => left; simp only [am_se, s_tsw, am_nx, am_jp] at h; (repeat' split at h) <;> first | (cases h; exact Nat.le_of_ble_eq_true rfl) | cases h
  | 43, h => left; simp only [am_se, s_lsw, am_nx, am_jp] at h; (repeat' split at h) <;> first | (cases h; exact Nat.le_of_ble_eq_true rfl) | cases h
  | 44, h => left; simp only [am_se, s_gI, am_nx, am_jp] at h; (repeat' split at h) <;> first | (cases h; exact Nat.le_of_ble_eq_true rfl) | cases h
  | 45, h => left; simp only [am_se, s_gR, am_nx, am_jp] at h; (repeat' split at h) <;> first | (cases h; exact Nat.le_of_ble_eq_true rfl) | cases h
  | 46, h => left; simp only [am_se, s_pI, am_nx, am_jp] at h; (repeat' split at h) <;> first | (cases h; exact Nat.le_of_ble_eq_true rfl) | cases h
  | 47, h => left; simp only [am_se, s_pZ, am_nx, am_jp] at h; (repeat' split at h) <;> first | (cases h; exact Nat.le_of_ble_eq_true rfl) | cases h
  | 48, h => left; simp only [am_se, s_pF, am_nx, am_jp] at h; (repeat' split at h) <;> first | (cases h; exact Nat.le_of_ble_eq_true rfl) | cases h
  | 49, h => left; simp only [am_se, s_iald, am_nx, am_jp] at h; (repeat' split at h) <;> first | (cases h; exact Nat.le_of_ble_eq_true rfl) | cases h
  | 50, h => left; simp only [am_se, s_iast, am_nx, am_jp] at h; (repeat' split at h) <;> first | (cases h; exact Nat.le_of_ble_eq_true rfl) | cases h
  | 51, h => left; simp only [am_se, s_lald, am_nx, am_jp] at h; (repeat' split at h) <;> first | (cases h; exact Nat.le_of_ble_eq_true rfl) | cases h
  | 52, h => left; simp only [am_se, s_last, am_nx, am_jp] at h; (repeat' split at h) <;> first | (cases h; exact Nat.le_of_ble_eq_true rfl) | cases h
  | 53, h => left; simp only [am_se, s_aald, am_nx, am_jp] at h; (repeat' split at h) <;> first | (cases h; exact Nat.le_of_ble_eq_true rfl) | cases h
  | 54, h => left; simp only [am_se, s_aast, am_nx, am_jp] at h; (repeat' split at h) <;> first | (cases h; exact Nat.le_of_ble_eq_true rfl) | cases h
  | 55, h => left; simp only [am_se, s_alen, am_nx, am_jp] at h; (repeat' split at h) <;> first | (cases h; exact Nat.le_of_ble_eq_true rfl) | cases h
  | 56, h => left; simp only [am_se, s_narr, am_nx, am_jp] at h; (repeat' split at h) <;> first | (cases h; exact Nat.le_of_ble_eq_true rfl) | cases h
  | 57, h => left; simp only [am_se, s_anew, am_nx, am_jp] at h; (repeat' split at h) <;> first | (cases h; exact Nat.le_of_ble_eq_true rfl) | cases h
  | 58, h => left; simp only [am_se, s_new, am_nx, am_jp] at h; (repeat' split at h) <;> first | (cases h; exact Nat.le_of_ble_eq_true rfl) | cases h
  | 59, h => left; simp only [am_se, s_call, am_nx, am_jp] at h; (repeat' split at h) <;> first | (cases h; exact Nat.le_of_ble_eq_true rfl) | cases h
  | 60, h => left; simp only [am_se, s_oini, am_nx, am_jp] at h; (repeat' split at h) <;> first | (cases h; exact Nat.le_of_ble_eq_true rfl) | cases h
  | 61, h => left; simp only [am_se, s_acpy, am_nx, am_jp] at h; (repeat' split at h) <;> first | (cases h; exact Nat.le_of_ble_eq_true rfl) | cases h
  | 62, _ => exact Or.inr ⟨Nat.le_of_ble_eq_true rfl, Nat.le_of_ble_eq_true rfl⟩
  | 63, _ => exact Or.inr ⟨Nat.le_of_ble_eq_true rfl, Nat.le_of_ble_eq_true rfl⟩
  | 64, _ => exact Or.inr ⟨Nat.le_of_ble_eq_true rfl, Nat.le_of_ble_eq_true rfl⟩
  | 65, _ => exact Or.inr ⟨Nat.le_of_ble_eq_true rfl, Nat.le_of_ble_eq_true rfl⟩
  | 66, h => left; simp only [am_se, s_mx, am_nx, am_jp] at h; (repeat' split at h) <;> first | (cases h; exact Nat.le_of_ble_eq_true rfl) | cases h
  | 67, h => left; simp only [am_se, s_mn, am_nx, am_jp] at h; (repeat' split at h) <;> first | (cases h; exact Nat.le_of_ble_eq_true rfl) | cases h
  | n + 68, h => cases h
/-- how a method ends -/
def am_end (mi i : Nat) (S : List am_V) (v : am_V) : Prop := (∃ x : Int, v = (0, x) ∧ S = [v] ∧ decode (am_by mi) (am_pc mi i) = .ok (.ireturn, 1) ∧ (am_rt mi = some .int ∨ (am_rt mi = some .boolean ∧ (x = 0 ∨ x = 1)))) ∨ (∃ x : Int, v = (1, x) ∧ S = [v] ∧ decode (am_by mi) (am_pc mi i) = .ok (.lreturn, 1) ∧ am_rt mi = some .long) ∨ (v = aV ∧ S = [] ∧ decode (am_by mi) (am_pc mi i) = .ok (.return_, 1) ∧ am_rt mi = none)
theorem am_ends {mi i : Nat} {a : am_I} {L S : List am_V} {st : am_S} {r : am_R} (hk : am_chk mi i a = true) (h : am_se a L S st = some r) (h3 : 3 ≤ r.1) : ∃ v, r.2.2.1 = [v] ∧ r.2.2.2.2 = st ∧ am_end mi i S v := by
  rcases am_kd h with h2 | ⟨h2, h4⟩
  · omega
  · obtain ⟨k, ps⟩ := a
    dsimp only at h2 h4
    have hq : k = 62 ∨ k = 63 ∨ k = 64 ∨ k = 65 := by omega
    rcases hq with rfl | rfl | rfl | rfl
    · have hk := Bool.and_eq_true_iff.mp hk
      simp only [am_se, s_iret] at h
      split at h
      · next v =>
        cases h
        exact ⟨_, rfl, rfl, Or.inl ⟨v, rfl, rfl, of_decide_eq_true hk.1, Or.inl (of_decide_eq_true hk.2)⟩⟩
      · cases h
    · have hk := Bool.and_eq_true_iff.mp hk
      simp only [am_se, s_zret] at h
      split at h
      · next v =>
        split at h
        · next hv =>
          cases h
          exact ⟨_, rfl, rfl, Or.inl ⟨v, rfl, rfl, of_decide_eq_true hk.1, Or.inr ⟨of_decide_eq_true hk.2, hv⟩⟩⟩
        · cases h
      · cases h
    · have hk := Bool.and_eq_true_iff.mp hk
      simp only [am_se, s_lret] at h
      split at h
      · next v =>
        cases h
        exact ⟨_, rfl, rfl, Or.inr (Or.inl ⟨v, rfl, rfl, of_decide_eq_true hk.1, of_decide_eq_true hk.2⟩)⟩
      · cases h
    · have hk := Bool.and_eq_true_iff.mp hk
      simp only [am_se, s_vret] at h
      split at h
      · cases h
        exact ⟨_, rfl, rfl, Or.inr (Or.inr ⟨rfl, rfl, of_decide_eq_true hk.1, of_decide_eq_true hk.2⟩)⟩
      · cases h
theorem am_end_ok {mi i n0 : Nat} {p : Program} {l : Launch} {e : Env} {R : Room} {s : State} {m : MethodId} {args : Array Value} {below : List Frame} {meth : Method} {c : Code} {g : am_G} {L S : List am_V} {st : am_S} {v : am_V} (C : am_Cx mi p R s m args meth c g n0 st.1) (h : am_end mi i S v) : am_WW mi p l e R s m args below meth c (MQ below (am_Qc g v st) args s (st.1 - n0) (am_sl st.1 - am_sl n0) (fun q => g.1 ≤ q)) g n0 i L S st := by
  obtain ⟨hx, hb, hml, hown, hts, hini, hSB, hsz, hfr, hlc, hce, hsl, hr, hlk⟩ := C
  intro ls H locs hl hP hS hn
  have hq : ∀ (o : Option Value) (t : State), o = am_ov g v → t.heap = H → am_Qc g v st args s (.returned o) t := fun o t ho ht => ⟨by rw [ho], by rw [ht]; exact hP, hS.F ht⟩
  rcases h with ⟨x, rfl, rfl, hd, hrt | ⟨hrt, hv⟩⟩ | ⟨x, rfl, rfl, hd, hrt⟩ | ⟨rfl, rfl, hd, hrt⟩
  · exact W.iret (v := Int32.ofInt x) hx hb (hr.trans hrt) (fun t ht _ => hq _ t rfl ht) hS.2.2 hd hlk
  · exact W.zret (v := Int32.ofInt x) hx hb (hr.trans hrt) (am_nz hv).1 (fun t ht _ => hq _ t rfl ht) hS.2.2 hd hlk
  · exact W.lret (v := Int64.ofInt x) hx hb (hr.trans hrt) (fun t ht _ => hq _ t rfl ht) hS.2.2 hd hlk
  · exact W.vret hx hb (hr.trans hrt) (fun t ht _ => hq _ t rfl ht) hS.2.2 hd hlk
def am_All : Prop := ∀ (m i : Nat) (a : am_I), (am_pr m)[i]? = some a → am_chk m i a = true
theorem am_drop {m i : Nat} {a : am_I} {is : List am_I} (h : (am_pr m).drop i = a :: is) : (am_pr m)[i]? = some a ∧ is = (am_pr m).drop (i + 1) := by
  constructor
  · have := congrArg (fun l => l[0]?) h
    simpa using this
  · have := congrArg List.tail h
    simpa using this.symm
theorem am_pl_in {ws : List Nat} {As : List am_V} {v : am_V} (h : v ∈ am_pl ws As) : v ∈ As ∨ v = aX := by
  induction ws generalizing As with
  | nil => simp [am_pl] at h
  | cons w ws ih =>
    cases As with
    | nil => simp [am_pl] at h
    | cons u As =>
      rw [am_pl] at h
      split at h
      · rcases List.mem_cons.mp h with e | h
        · rw [e]; exact Or.inl List.mem_cons_self
        · rcases List.mem_cons.mp h with e | h
          · exact Or.inr e
          · exact (ih h).imp (List.mem_cons_of_mem _) id
      · rcases List.mem_cons.mp h with e | h
        · rw [e]; exact Or.inl List.mem_cons_self
        · exact (ih h).imp (List.mem_cons_of_mem _) id
theorem v3_X : am_v3 aX := ⟨(fun h => nomatch h), (fun h => nomatch h)⟩
theorem am_en_can {g : am_G} {m : Nat} {As S : List am_V} {st : am_S} (h : am_Ca g As S st) : am_Ca g (am_en m As) [] st := by
  refine ⟨fun v hv => ?_, (fun v hv => nomatch hv), h.2.2⟩
  rcases List.mem_append.mp hv with hv | hv
  · rcases am_pl_in hv with hv | hv
    · exact h.1 v hv
    · rw [hv]; exact v3_X
  · rw [(List.mem_replicate.mp hv).2]; exact v3_X
theorem am_pu_can {g : am_G} {L S : List am_V} {st2 : am_S} {r : am_V} (hL : ∀ v ∈ L, am_v3 v) (hS : ∀ v ∈ S, am_v3 v) (hr : am_Ca g [r] [] st2) : am_Ca g L (am_pu r S) st2 := by
  refine ⟨hL, fun v hv => ?_, hr.2.2⟩
  unfold am_pu at hv
  split at hv
  · exact hS v hv
  · rcases List.mem_cons.mp hv with e | hv
    · rw [e]; exact hr.1 r List.mem_cons_self
    · exact hS v hv
theorem am_rc (hall : am_All) (g : am_G) : ∀ (n m i : Nat) (L S : List am_V) (st : am_S) (r : am_V) (st' : am_S), am_run n m ((am_pr m).drop i) L S st = some (r, st') → am_Ca g L S st → am_Ca g [r] [] st' ∧ st.1 ≤ st'.1 := by
  intro n
  induction n with
  | zero => intro m i L S st r st' h; cases h
  | succ n ih =>
    intro m i L S st r st' h hc
    cases hd : (am_pr m).drop i with
    | nil => rw [hd] at h; cases h
    | cons a is =>
      obtain ⟨ha, his⟩ := am_drop hd
      rw [hd, am_run] at h
      cases hse : am_se a L S st with
      | none => rw [hse] at h; cases h
      | some r0 =>
        rw [hse] at h
        obtain ⟨k, t, L', S', s'⟩ := r0
        have hp := am_can (hall m i a ha) hse hc
        obtain ⟨hp1, hp2⟩ := hp
        dsimp only at hp1 hp2
        match k, h with
        | 0, h =>
          try dsimp only at h
          rw [his] at h
          have := ih m (i + 1) L' S' s' r st' h hp1
          exact ⟨this.1, by omega⟩
        | 1, h =>
          try dsimp only at h
          have := ih m t L' S' s' r st' h hp1
          exact ⟨this.1, by omega⟩
        | 2, h =>
          have h : (match am_run n t (am_pr t) (am_en t L') [] s' with
            | some (r1, st1) => am_run n m is L (am_pu r1 S') st1
            | none => none) = some (r, st') := h
          split at h
          · next r1 st1 h1 =>
            rw [his] at h
            have q1 := ih t 0 (am_en t L') [] s' r1 st1 (by rw [List.drop_zero]; exact h1) (am_en_can hp1)
            have q2 := ih m (i + 1) L (am_pu r1 S') st1 r st' h (am_pu_can hc.1 hp1.2.1 q1.1)
            exact ⟨q2.1, by omega⟩
          · cases h
        | k + 3, h =>
          obtain ⟨v, e1, e2, -⟩ := am_ends (hall m i a ha) hse (by dsimp only; omega)
          dsimp only at e1 e2
          subst e1
          try dsimp only at h
          cases h
          exact ⟨⟨hp1.1, (fun v hv => nomatch hv), hp1.2.2⟩, hp2⟩
def am_Rk (mi : Nat) (p : Program) (l : Launch) (e : Env) (R : Room) (s : State) (m : MethodId) (args : Array Value) (below : List Frame) (meth : Method) (c : Code) (Q : State → Prop) (g : am_G) (n0 : Nat) (rv : am_V) (stE : am_S) : Prop := ∀ (i : Nat) (L S : List am_V), am_end mi i S rv → am_WW mi p l e R s m args below meth c Q g n0 i L S stE
def am_SimP (n : Nat) : Prop := ∀ (mi : Nat) (p : Program) (l : Launch) (e : Env) (R : Room) (s : State) (m : MethodId) (args : Array Value) (below : List Frame) (meth : Method) (c : Code) (Q : State → Prop) (g : am_G) (n0 : Nat) (rv : am_V) (stE : am_S), am_Cx mi p R s m args meth c g n0 stE.1 → am_Rk mi p l e R s m args below meth c Q g n0 rv stE → ∀ (i : Nat) (L S : List am_V) (st : am_S), am_Ca g L S st → am_run n mi ((am_pr mi).drop i) L S st = some (rv, stE) → am_WW mi p l e R s m args below meth c Q g n0 i L S st
theorem am_en_len {m : Nat} {As : List am_V} (hw : As.map am_cat = am_wi m) : (am_pl (am_wi m) As).length = (am_wi m).sum := by
  rw [← hw]
  clear hw
  induction As with
  | nil => rfl
  | cons v As ih =>
    rw [List.map_cons, am_pl]
    split
    · next h => rw [List.length_cons, List.length_cons, ih, List.sum_cons, h]; omega
    · next h =>
      have : am_cat v = 1 := by
        unfold am_cat at h ⊢
        split
        · next z => rw [if_pos z] at h; exact absurd rfl h
        · rfl
      rw [List.length_cons, ih, List.sum_cons, this]; omega
theorem am_sl_vs (g : am_G) (As : List am_V) (j : Nat) : ∀ (i : Nat) (v : am_V), (am_pl (As.map am_cat) As)[i]? = some v → v.1 < 3 → (j + i, am_vv g v) ∈ lv_args j (am_vs g As) := by
  induction As generalizing j with
  | nil => intro i v h; simp [am_pl] at h
  | cons u As ih =>
    intro i v h h3
    rw [List.map_cons, am_pl] at h
    rw [show am_vs g (u :: As) = am_vv g u :: am_vs g As from rfl, lv_args, am_cat_v]
    split at h
    · next h2 =>
      rw [if_pos h2]
      match i, h with
      | 0, h => cases h; exact List.mem_cons_self
      | 1, h => cases h; exact absurd h3 (by decide)
      | i + 2, h =>
        refine List.mem_cons_of_mem _ ?_
        have := ih (j + 2) i v h h3
        rwa [show j + 2 + i = j + (i + 2) by omega] at this
    · next h2 =>
      rw [if_neg h2]
      match i, h with
      | 0, h => cases h; exact List.mem_cons_self
      | i + 1, h =>
        refine List.mem_cons_of_mem _ ?_
        have := ih (j + 1) i v h h3
        rwa [show j + 1 + i = j + (i + 1) by omega] at this
theorem lg_sl_len (g : am_G) (As : List am_V) : (lg_sl (am_vs g As)).length = (As.map am_cat).sum := by
  induction As with
  | nil => rfl
  | cons u As ih =>
    rw [show am_vs g (u :: As) = am_vv g u :: am_vs g As from rfl, List.map_cons, List.sum_cons, ← ih]
    have := am_cat_v g u
    unfold lg_sl
    rw [List.flatMap_cons, List.length_append]
    congr 1
    rw [← this]
    obtain ⟨t, x⟩ := u
    match t with
    | 0 => rfl
    | 1 => rfl
    | t + 2 => rfl


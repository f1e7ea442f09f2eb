def c_mth (m : Nat) : Bool := am_wd (am_WN.getD m 0) (.initialized (am_yn m).cls) && plainName (am_yn m).cls && decide ((am_yn m).cls ≠ "java/lang/invoke/MethodHandle") && decide ((am_yn m).cls ≠ "java/lang/invoke/VarHandle") && (if am_oc m = 99 then am_wd (am_WM.getD m 0) (.static (am_yn m)) && decide ((parseMethodDescriptor (am_yn m).desc).map (fun d => d.parameters.length) = some (am_wi m).length) else am_wd (am_WM.getD m 0) (.instanceMethod (am_yn m)) && decide ((parseMethodDescriptor (am_yn m).desc).map (fun d => d.parameters.length + 1) = some (am_wi m).length) && decide (am_oc m < 12) && decide ((vwCl[am_oc m]?).map (fun q => q.1) = some (am_yn m).cls) && decide ((am_yn m).name = "<init>" ∨ lw_tbl[am_WS.getD m 0]? = some (.selects (am_yn m).cls (am_yn m) (am_yn m)))) && decide ((am_wi m).sum ≤ am_mx m)
set_option maxRecDepth 100000 in
theorem cw_0 : ([91, 143, 162, 199, 85, 241, 284, 306, 330, 371, 77, 1016, 430, 438, 443, 434, 427, 1082, 1088, 1085, 1079, 455, 459, 451, 447, 1095, 1092, 467, 472] : List Nat).map (fun i => lw_tbl[i]?) = (List.range 29).map (fun j => some (Cond.code (am_yn (0 + j)) (am_by (0 + j)) (am_mx (0 + j)) (am_rt (0 + j)))) := by rfl
set_option maxRecDepth 100000 in
theorem cw_29 : ([478, 475, 463, 1103, 1107, 1114, 1111, 1099, 483, 1118, 491, 503, 500, 495, 507, 487, 1125, 1128, 1131, 1122, 519, 526, 515, 511, 1138, 1135, 537, 534, 530] : List Nat).map (fun i => lw_tbl[i]?) = (List.range 29).map (fun j => some (Cond.code (am_yn (29 + j)) (am_by (29 + j)) (am_mx (29 + j)) (am_rt (29 + j)))) := by rfl
set_option maxRecDepth 100000 in
theorem cw_58 : ([1145, 1142, 544, 1149, 548, 1153, 556, 552, 1157, 568, 571, 575, 564, 586, 583, 579, 560, 1165, 1168, 1172, 1161, 603, 610, 607, 623, 628, 619, 615, 600] : List Nat).map (fun i => lw_tbl[i]?) = (List.range 29).map (fun j => some (Cond.code (am_yn (58 + j)) (am_by (58 + j)) (am_mx (58 + j)) (am_rt (58 + j)))) := by rfl
set_option maxRecDepth 100000 in
theorem cw_87 : ([638, 634, 596, 1179, 1190, 1187, 1194, 1202, 1210, 1206, 1198, 1183, 1176, 648, 644, 1214, 656, 661, 652, 1222, 1226, 1218, 670, 683, 679, 690, 697, 707, 712] : List Nat).map (fun i => lw_tbl[i]?) = (List.range 29).map (fun j => some (Cond.code (am_yn (87 + j)) (am_by (87 + j)) (am_mx (87 + j)) (am_rt (87 + j)))) := by rfl
set_option maxRecDepth 100000 in
theorem cw_116 : ([719, 703, 675, 666, 1234, 1248, 1245, 1251, 1254, 1242, 1230, 730, 726, 1258, 734, 1262, 738, 1266, 752, 746, 758, 742, 1274, 1278, 1270, 776, 771, 766, 762] : List Nat).map (fun i => lw_tbl[i]?) = (List.range 29).map (fun j => some (Cond.code (am_yn (116 + j)) (am_by (116 + j)) (am_mx (116 + j)) (am_rt (116 + j)))) := by rfl
set_option maxRecDepth 100000 in
theorem cw_145 : ([1286, 1282, 786, 791, 800, 810, 806, 815, 820, 796, 824, 782, 1293, 1297, 1301, 1290, 832, 828, 1305, 849, 845, 841, 837, 1313, 1317, 1309, 860, 870, 865] : List Nat).map (fun i => lw_tbl[i]?) = (List.range 29).map (fun j => some (Cond.code (am_yn (145 + j)) (am_by (145 + j)) (am_mx (145 + j)) (am_rt (145 + j)))) := by rfl
set_option maxRecDepth 100000 in
theorem cw_174 : ([856, 1325, 1329, 1321, 878, 886, 897, 893, 882, 906, 902, 874, 1337, 1341, 1333, 914, 910, 1349, 1345, 927, 923, 919, 1357, 1353, 941, 936, 932, 1361, 945] : List Nat).map (fun i => lw_tbl[i]?) = (List.range 29).map (fun j => some (Cond.code (am_yn (174 + j)) (am_by (174 + j)) (am_mx (174 + j)) (am_rt (174 + j)))) := by rfl
set_option maxRecDepth 100000 in
theorem cw_203 : ([1365, 952, 960, 956, 969, 964, 949, 1372, 1375, 1379, 1383, 1369, 978, 986, 982, 974, 1390, 1387, 998, 994, 990, 1394, 1002, 1398, 1006, 1402, 1010, 1406] : List Nat).map (fun i => lw_tbl[i]?) = (List.range 28).map (fun j => some (Cond.code (am_yn (203 + j)) (am_by (203 + j)) (am_mx (203 + j)) (am_rt (203 + j)))) := by rfl
theorem am_cw_of {a n : Nat} {is : List Nat} (h : is.map (fun i => lw_tbl[i]?) = (List.range n).map (fun j => some (Cond.code (am_yn (a + j)) (am_by (a + j)) (am_mx (a + j)) (am_rt (a + j))))) {m : Nat} (h1 : a ≤ m) (h2 : m < a + n) : Cond.code (am_yn m) (am_by m) (am_mx m) (am_rt m) ∈ am_T := by
  have h3 := congrArg (fun l => l[m - a]?) h
  simp only [List.getElem?_map] at h3
  rw [List.getElem?_range (by omega)] at h3
  simp only [Option.map_some, show a + (m - a) = m by omega] at h3
  cases h4 : is[m - a]? with
  | none => rw [h4] at h3; cases h3
  | some i =>
    rw [h4] at h3
    exact List.mem_filter.mpr ⟨List.mem_of_getElem? (Option.some.inj h3), rfl⟩
theorem am_cw_ok (m : Nat) (h : m < 231) : Cond.code (am_yn m) (am_by m) (am_mx m) (am_rt m) ∈ am_T := by
  by_cases h29 : m < 29
  · exact am_cw_of cw_0 (by omega) (by omega)
  by_cases h58 : m < 58
  · exact am_cw_of cw_29 (by omega) (by omega)
  by_cases h87 : m < 87
  · exact am_cw_of cw_58 (by omega) (by omega)
  by_cases h116 : m < 116
  · exact am_cw_of cw_87 (by omega) (by omega)
  by_cases h145 : m < 145
  · exact am_cw_of cw_116 (by omega) (by omega)
  by_cases h174 : m < 174
  · exact am_cw_of cw_145 (by omega) (by omega)
  by_cases h203 : m < 203
  · exact am_cw_of cw_174 (by omega) (by omega)
  exact am_cw_of cw_203 (by omega) (by omega)
theorem mo_0 : ∀ j : Nat, j < 29 → c_mth (0 + j) = true := by decide +kernel
theorem mo_29 : ∀ j : Nat, j < 29 → c_mth (29 + j) = true := by decide +kernel
theorem mo_58 : ∀ j : Nat, j < 29 → c_mth (58 + j) = true := by decide +kernel
theorem mo_87 : ∀ j : Nat, j < 29 → c_mth (87 + j) = true := by decide +kernel
theorem mo_116 : ∀ j : Nat, j < 29 → c_mth (116 + j) = true := by decide +kernel
theorem mo_145 : ∀ j : Nat, j < 29 → c_mth (145 + j) = true := by decide +kernel
theorem mo_174 : ∀ j : Nat, j < 29 → c_mth (174 + j) = true := by decide +kernel
theorem mo_203 : ∀ j : Nat, j < 28 → c_mth (203 + j) = true := by decide +kernel
theorem am_mth_ok (m : Nat) (h : m < 231) : c_mth m = true := by
  by_cases h29 : m < 29
  · have := mo_0 (m - 0) (by omega)
    rwa [show 0 + (m - 0) = m by omega] at this
  by_cases h58 : m < 58
  · have := mo_29 (m - 29) (by omega)
    rwa [show 29 + (m - 29) = m by omega] at this
  by_cases h87 : m < 87
  · have := mo_58 (m - 58) (by omega)
    rwa [show 58 + (m - 58) = m by omega] at this
  by_cases h116 : m < 116
  · have := mo_87 (m - 87) (by omega)
    rwa [show 87 + (m - 87) = m by omega] at this
  by_cases h145 : m < 145
  · have := mo_116 (m - 116) (by omega)
    rwa [show 116 + (m - 116) = m by omega] at this
  by_cases h174 : m < 174
  · have := mo_145 (m - 145) (by omega)
    rwa [show 145 + (m - 145) = m by omega] at this
  by_cases h203 : m < 203
  · have := mo_174 (m - 174) (by omega)
    rwa [show 174 + (m - 174) = m by omega] at this
  by_cases h231 : m < 231
  · have := mo_203 (m - 203) (by omega)
    rwa [show 203 + (m - 203) = m by omega] at this
  exact absurd h h231
theorem am_sel_in {m : Nat} (h : lw_tbl[am_WS.getD m 0]? = some (.selects (am_yn m).cls (am_yn m) (am_yn m))) : Cond.selects (am_yn m).cls (am_yn m) (am_yn m) ∈ am_T := List.mem_filter.mpr ⟨List.mem_of_getElem? h, rfl⟩
theorem am_wr_good (m : Nat) (h : Cond.code (am_yn m) (am_by m) (am_mx m) (am_rt m) ∈ am_T) : GoodIn am_T (am_wr m) := by
  intro w hw
  have hin : w ∈ am_T := by
    rcases List.mem_cons.mp hw with e | e
    · rw [e]; exact h
    · exact e
  exact ⟨hin, good_of_word (List.mem_filter.mp hin).2⟩
theorem am_blind (g : am_G) (As : List am_V) (st : am_S) : FrameBlind (am_Pc g As st) := by
  intro a U f mk q
  obtain ⟨q0, q1, q2, k1, k2, k3, k4, k5, k6⟩ := q
  exact ⟨q0, q1, q2, va_K.moved (u := U) (U := U.calling f mk a) (Vm.Alike.refl U.vm) k1, fun x hx => va_Nw.same rfl rfl (k2 x hx), va_AO.moved (u := U) (U := U.calling f mk a) (Vm.Alike.refl U.vm) k3, va_AO.moved (u := U) (U := U.calling f mk a) (Vm.Alike.refl U.vm) k4, va_X.moved (u := U) (U := U.calling f mk a) (Vm.Alike.refl U.vm) k5, k6⟩
theorem am_SB_to {g : am_G} {s U : State} {H : Heap} {locs : List Loc} {n0 : Nat} (h : am_SB g s) (hsz : s.heap.size = g.1 + n0) (hS : va_S (fun q => g.1 ≤ q) s.heap H locs) (hU : U.heap = H) (hW : s.WarmedH U.vm) : am_SB g U := by
  obtain ⟨k1, k2, k3, k4, k5, k6⟩ := h
  refine ⟨va_K.moved hW.alike k1, fun x hx => va_Nw.warmM hW (k2 x hx), va_AO.moved hW.alike k3, va_AO.moved hW.alike k4, ?_, k6⟩
  rw [hU]
  exact (k5.kept (hS.2.1 _ (by omega) (Nat.not_le.mpr k6))).moved hW.alike
theorem am_callW {p : Program} {l : Launch} {e : Env} {R : Room} {s : State} {m : MethodId} {args a : Array Value} {below : List Frame} {meth : Method} {c : Code} {H : Heap} {locs : List Loc} {cells slots mc ms pc : Nat} {Q : State → Prop} {g : am_G} {rv : am_V} {st2 : am_S} {ls : Array Slot} {st0 rest : List Value}
    (hr : va_Run p l e R s m args below meth c H locs cells slots mc ms (F0 m pc ls st0) rest (am_Qc g rv st2 a) (fun q => g.1 ≤ q)) (hS : va_S (fun q => g.1 ≤ q) s.heap H locs)
    (kk : ∀ (H1 : Heap) (locs1 : List Loc), va_P g.2.1 vwCl (am_cv g st2) H1 → va_S (fun q => g.1 ≤ q) s.heap H1 locs1 → W p l e R s m args below meth c H1 locs1 (cells + mc) (slots + ms) Q (F0 m (pc + 3) ls ((am_ov g rv).toList ++ rest))) : W p l e R s m args below meth c H locs cells slots Q (F0 m pc ls st0) := by
  intro T hT X
  obtain ⟨v, st₀, t, T', L, h0, X', hL, e1, e2, ⟨hv, hP1, hz, hk⟩, st⟩ := hr T hT X
  have hv := Outcome.returned.inj hv
  subst hv
  rw [h0] at hz hk
  obtain ⟨t2, a1, b1⟩ := kk T'.heap (locs ++ L) (by rw [e1]; exact hP1)
    ⟨Nat.le_trans hS.1 (by rw [e1]; exact hz), fun q h1 h2 => by rw [e1, hk q (Nat.lt_of_lt_of_le h1 hS.1) h2]; exact hS.2.1 q h1 h2, fun q hq => by
      rcases List.mem_append.mp hq with h | h
      · exact hS.2.2 q h
      · exact hL q h⟩ T' rfl X'
  exact ⟨t2, st t2 a1, b1⟩
theorem am_pu_vs (g : am_G) (rv : am_V) (S : List am_V) : am_vs g (am_pu rv S) = (am_ov g rv).toList ++ am_vs g S := by
  unfold am_pu am_ov
  split <;> rfl
theorem am_split (g : am_G) (S : List am_V) (n : Nat) : am_vs g S = (am_vs g (S.take n).reverse).reverse ++ am_vs g (S.drop n) := by
  unfold am_vs
  rw [← List.map_reverse, List.reverse_reverse, ← List.map_append, List.take_append_drop]
def am_ik (k : Int) (idx : Nat) : Instr := if k = 0 ∨ k = 1 then .invokestatic idx else if k = 2 ∨ k = 3 then .invokevirtual idx else .invokespecial idx
def c_call (m i : Nat) (ps : List Int) : Bool := decide ((am_pa ps 0).toNat < 231) && am_dc m i (am_ik (am_pa ps 2) (am_pa ps 3).toNat) 3 && decide (am_fr (am_pa ps 0).toNat + 1 ≤ am_fr m) && decide (8 + (am_mx (am_pa ps 0).toNat + 11) + am_lc (am_pa ps 0).toNat ≤ am_lc m) && (if am_pa ps 2 = 0 ∨ am_pa ps 2 = 2 ∨ am_pa ps 2 = 4 then am_wd (am_pa ps 4).toNat (.methodLink (am_yn m).cls (am_pa ps 3).toNat (am_yn (am_pa ps 0).toNat)) else decide (((am_yn m).cls, (am_pa ps 3).toNat, am_yn (am_pa ps 0).toNat, "TornBag") ∈ am_NS)) && (if am_pa ps 2 = 0 ∨ am_pa ps 2 = 1 then decide (am_oc (am_pa ps 0).toNat = 99) else decide (am_oc (am_pa ps 0).toNat ≠ 99)) && decide ((am_pa ps 2 = 4 ∨ am_pa ps 2 = 5) ↔ (am_yn (am_pa ps 0).toNat).name = "<init>") && decide ((am_pa ps 2 = 4 ∨ am_pa ps 2 = 5) → am_rt (am_pa ps 0).toNat = none) && decide (0 ≤ am_pa ps 2) && decide (am_pa ps 2 ≤ 5)
theorem am_mon (m : MethodId) (pc : Nat) (ls : Array Slot) (S : List Value) : (F0 m pc ls S).monitorRoom = 0 := rfl
set_option maxHeartbeats 8000000 in
theorem g_call {mi i : Nat} {ps : List Int} (h : c_call mi i ps = true) : am_Go mi i (s_call ps) := by
  intro p l e R s m args below meth c Q g n0 cE C L S st r hc hf
  obtain ⟨hx, hb, hml, hown, hts, hini, hSB, hsz, hfr, hlc, hce, hsl, -⟩ := C
  simp only [c_call, Bool.and_eq_true, am_dc_iff, decide_eq_true_eq] at h
  obtain ⟨⟨⟨⟨⟨⟨⟨⟨⟨hm', hd⟩, hF⟩, hLo⟩, hlk⟩, hoc⟩, hii⟩, hir⟩, k0⟩, k5⟩ := h
  have hmt := am_mth_ok _ hm'
  simp only [c_mth, Bool.and_eq_true, decide_eq_true_eq] at hmt
  obtain ⟨⟨⟨⟨⟨w2, w3⟩, w4⟩, w5⟩, w6⟩, w7⟩ := hmt
  have w1 := am_cw_ok _ hm'
  unfold s_call at hf
  split at hf
  · next hok =>
    obtain ⟨hw8, hck⟩ := hok
    cases hf
    refine ⟨fun q => absurd q (by show ¬ (2 : Nat) = 0; decide), fun q => absurd q (by show ¬ (2 : Nat) = 1; decide), fun _ rv st2 hM hcE hst K ls H locs hl hP hS hn => ?_⟩
    dsimp only at hM K
    generalize hmq : (am_pa ps 0).toNat = mq at *
    generalize hnq : (am_pa ps 1).toNat = nq at *
    have hsp := am_split g S nq
    generalize hAs : (S.take nq).reverse = As at *
    generalize hRe : S.drop nq = Re at *
    have hm1 := am_sl_le hst
    have hm2 := am_sl_le hn
    have hm3 := am_sl_le hcE
    simp only [am_ck, Bool.and_eq_true, decide_eq_true_eq] at hck
    obtain ⟨hwid, hrc⟩ := hck
    have hlenA : As.length = (am_wi mq).length := by rw [← hwid, List.length_map]
    have hW8 : 2 * (F0 m (am_pc mi i) ls (am_vs g S)).monitorRoom + ((am_vs g Re).map fun v => v.category).sum ≤ 8 := by
      rw [am_mon, am_cat_s]
      simpa [am_w8] using hw8
    have hPc : ∀ U : State, H.size = g.1 + st.1 → U.heap = H → s.WarmedH U.vm → am_Pc g As st (am_vs g As).toArray U := fun U hH hU hW => ⟨rfl, by rw [hU]; exact hH, by rw [hU]; exact hP, am_SB_to hSB hsz hS hU hW⟩
    have hfit : st.1 - n0 + (st2.1 - st.1) ≤ R.cells ∧ am_sl st.1 - am_sl n0 + (am_sl st2.1 - am_sl st.1) ≤ R.slots := ⟨by omega, by omega⟩
    have hR : (am_rm mq st st2).frames + 1 ≤ R.frames ∧ 8 + (am_mx mq + 11) + (am_rm mq st st2).locals ≤ R.locals := ⟨by show am_fr mq + 1 ≤ _; omega, by show 8 + (am_mx mq + 11) + am_lc mq ≤ _; omega⟩
    have hG := am_wr_good mq w1
    have hS9 : CallFix p m c (am_by mi) (am_mx mi) s args am_T (am_yn mi).cls := ⟨hx, hb, hml, hown, hts⟩
    have hend : va_Run p l e R s m args below meth c H locs (st.1 - n0) (am_sl st.1 - am_sl n0) (st2.1 - st.1) (am_sl st2.1 - am_sl st.1) (F0 m (am_pc mi i) ls (am_vs g S)) (am_vs g Re) (am_Qc g rv st2 (am_vs g As).toArray) (fun q => g.1 ≤ q) → W p l e R s m args below meth c H locs (st.1 - n0) (am_sl st.1 - am_sl n0) Q (F0 m (am_pc mi i) ls (am_vs g S)) := by
      intro hrun
      refine am_callW hrun hS (fun H1 locs1 hP1 hS1 => ?_)
      have K := K ls H1 locs1 hl hP1 hS1 (by omega)
      rw [hd.2, am_pu_vs] at K
      rw [show st.1 - n0 + (st2.1 - st.1) = st2.1 - n0 by omega, show am_sl st.1 - am_sl n0 + (am_sl st2.1 - am_sl st.1) = am_sl st2.1 - am_sl n0 by omega]
      exact K
    refine am_W_size hsz hn hP hS (fun hH => hend ?_)
    by_cases hk01 : am_pa ps 2 = 0 ∨ am_pa ps 2 = 1
    · -- static
      rw [if_pos hk01] at hoc
      have hoc := decide_eq_true_eq.mp hoc
      rw [if_pos hoc] at w6
      simp only [Bool.and_eq_true, decide_eq_true_eq] at w6
      have hdg : decode (am_by mi) (am_pc mi i) = .ok (.invokestatic (am_pa ps 3).toNat, 3) := by rw [hd.1, am_ik, if_pos hk01]
      have hlenV : (am_vs g As).length = (am_wi mq).length := by unfold am_vs; rw [List.length_map]; exact hlenA
      rcases hk01 with hk | hk
      · rw [if_pos (Or.inl hk)] at hlk
        exact va_runS (As := am_vs g As) (rest := am_vs g Re) hS9 hM ⟨callB_of (ws := am_wr mq) (am_wi mq).length hts hG rfl rfl rfl (hts _ (am_wd_in w2)) (hts _ (am_wd_in hlk)) ⟨w4, w5, w6.2⟩ hR, hts _ (am_wd_in w6.1)⟩ ⟨am_blind g As st, fun U hU hW => hPc U hH hU hW⟩ rfl hlenV hl.1 hsp hW8 hdg hfit
      · rw [if_neg (by omega)] at hlk
        have hlk := decide_eq_true_eq.mp hlk
        exact va_runSN (As := am_vs g As) (rest := am_vs g Re) hS9 hM ⟨va_cnB (ws := am_wr mq) (am_wi mq).length hts hG rfl rfl rfl (hSB.2.1 _ hlk) (hts _ (am_wd_in w2)) ⟨w4, w5, w6.2⟩ hR, hts _ (am_wd_in w6.1), trivial⟩ ⟨am_blind g As st, fun U hU hW => hPc U hH hU hW⟩ rfl hlenV hl.1 hsp hW8 hdg hfit
    · rw [if_neg hk01] at hoc
      have hoc := decide_eq_true_eq.mp hoc
      rw [if_neg hoc] at w6
      simp only [Bool.and_eq_true, decide_eq_true_eq] at w6
      obtain ⟨⟨⟨⟨w61, w62⟩, w63⟩, w64⟩, w65⟩ := w6
      simp only [Bool.or_eq_true, beq_iff_eq, hoc, false_or] at hrc
      cases As with
      | nil => cases hrc
      | cons v As2 =>
        dsimp only at hrc
        simp only [Bool.and_eq_true, beq_iff_eq] at hrc
        obtain ⟨hv1, hv2⟩ := hrc
        obtain ⟨vt, vx⟩ := v
        dsimp only at hv1 hv2
        subst hv1
        obtain ⟨i1, i2, i3⟩ := am_is_iff.mp hv2
        have hvs : am_vs g ((2, vx) :: As2) = .ref (g.1 + vx.toNat) :: am_vs g As2 := am_vP0 _ _ i3
        have hlenV : (am_vs g As2).length + 1 = (am_wi mq).length := by unfold am_vs; rw [List.length_map, ← hlenA]; rfl
        have hstk : (F0 m (am_pc mi i) ls (am_vs g S)).stack = (am_vs g As2).reverse ++ .ref (g.1 + vx.toNat) :: am_vs g Re := by
          show am_vs g S = _
          rw [hsp, hvs]
          simp
        have hpar : (parseMethodDescriptor (am_yn mq).desc).map (fun d => d.parameters.length) = some (am_vs g As2).length := by
          cases hpd : parseMethodDescriptor (am_yn mq).desc with
          | none => rw [hpd] at w62; cases w62
          | some d =>
            rw [hpd] at w62
            have := Option.some.inj w62
            dsimp only at this
            simp only [Option.map_some]
            congr 1
            omega
        rw [hvs] at hPc ⊢
        by_cases hk23 : am_pa ps 2 = 2 ∨ am_pa ps 2 = 3
        · have hdg : decode (am_by mi) (am_pc mi i) = .ok (.invokevirtual (am_pa ps 3).toNat, 3) := by rw [hd.1, am_ik, if_neg hk01, if_pos hk23]
          have hnin : ¬ (am_yn mq).name = "<init>" := fun z => by have := hii.mpr z; omega
          have hsel := hts _ (am_sel_in (w65.resolve_left hnin))
          obtain ⟨Cq, hcq⟩ : ∃ Cq, vwCl[am_oc mq]? = some Cq := by
            cases hz : vwCl[am_oc mq]? with
            | none => rw [hz] at w64; cases w64
            | some z => exact ⟨z, rfl⟩
          have hCn : Cq.1 = (am_yn mq).cls := by rw [hcq] at w64; exact Option.some.inj w64
          have he := am_cv_at (g := g) i1
          rw [am_ce_o i3 i2 w63] at he
          have hrv := va_recv hSB.1 hP hcq he
          rw [hCn] at hrv
          rcases hk23 with hk | hk
          · rw [if_pos (Or.inr (Or.inl hk))] at hlk
            exact va_runV (As := am_vs g As2) (rest := am_vs g Re) hS9 hM ⟨callB_of (ws := am_wr mq) (am_vs g As2).length hts hG rfl rfl rfl (hts _ (am_wd_in w2)) (hts _ (am_wd_in hlk)) ⟨w4, w5, hpar⟩ hR, hts _ (am_wd_in w61), hsel⟩ ⟨am_blind g _ st, hrv, fun U hU hW => hPc U hH hU hW⟩ rfl rfl hl.1 hstk hW8 hdg hfit
          · rw [if_neg (by omega)] at hlk
            have hlk := decide_eq_true_eq.mp hlk
            exact va_runVN (As := am_vs g As2) (rest := am_vs g Re) hS9 hM ⟨va_cnB (ws := am_wr mq) (am_vs g As2).length hts hG rfl rfl rfl (hSB.2.1 _ hlk) (hts _ (am_wd_in w2)) ⟨w4, w5, hpar⟩ hR, hts _ (am_wd_in w61), hsel⟩ ⟨am_blind g _ st, hrv, fun U hU hW => hPc U hH hU hW⟩ rfl rfl hl.1 hstk hW8 hdg hfit
        · have hdg : decode (am_by mi) (am_pc mi i) = .ok (.invokespecial (am_pa ps 3).toNat, 3) := by rw [hd.1, am_ik, if_neg hk01, if_neg hk23]
          have hk45 : am_pa ps 2 = 4 ∨ am_pa ps 2 = 5 := by omega
          have hnm := hii.mp hk45
          have hrt := hir hk45
          have hwr : am_wr mq = .code (am_yn mq) (am_by mq) (am_mx mq) none :: am_T := by rw [am_wr, hrt]
          rcases hk45 with hk | hk
          · rw [if_pos (Or.inr (Or.inr hk))] at hlk
            exact va_runI (As := am_vs g As2) (rest := am_vs g Re) hS9 hM ⟨callB_of (ws := am_wr mq) (am_vs g As2).length hts hG hwr rfl rfl (hts _ (am_wd_in w2)) (hts _ (am_wd_in hlk)) ⟨w4, w5, hpar⟩ hR, hnm, hts _ (am_wd_in w61)⟩ ⟨am_blind g _ st, fun U hU hW => hPc U hH hU hW⟩ rfl rfl hl.1 hstk hW8 hdg hfit
          · rw [if_neg (by omega)] at hlk
            have hlk := decide_eq_true_eq.mp hlk
            exact va_runIN (As := am_vs g As2) (rest := am_vs g Re) hS9 hM ⟨va_cnB (ws := am_wr mq) (am_vs g As2).length hts hG hwr rfl rfl (hSB.2.1 _ hlk) (hts _ (am_wd_in w2)) ⟨w4, w5, hpar⟩ hR, hnm, hts _ (am_wd_in w61)⟩ ⟨am_blind g _ st, fun U hU hW => hPc U hH hU hW⟩ rfl rfl hl.1 hstk hW8 hdg hfit
  · cases hf
def c_mx (m i : Nat) (ps : List Int) : Bool := am_dc m i (.invokestatic (am_pa ps 0).toNat) 3 && decide (1 ≤ am_fr m) && decide (21 ≤ am_lc m) && am_wd (am_pa ps 1).toNat (.methodLink (am_yn m).cls (am_pa ps 0).toNat Lib.Math.max.name) && am_wd 521 (.static Lib.Math.max.name) && am_wd 69 (.initialized "java/lang/Math") && am_wd 522 (.code Lib.Math.max.name Lib.Math.max.code 2 (some .int))
def c_mn (m i : Nat) (ps : List Int) : Bool := am_dc m i (.invokestatic (am_pa ps 0).toNat) 3 && decide (1 ≤ am_fr m) && decide (21 ≤ am_lc m) && am_wd (am_pa ps 1).toNat (.methodLink (am_yn m).cls (am_pa ps 0).toNat Lib.Math.min.name) && am_wd 588 (.static Lib.Math.min.name) && am_wd 69 (.initialized "java/lang/Math") && am_wd 589 (.code Lib.Math.min.name Lib.Math.min.code 2 (some .int))
theorem g_mx {mi i : Nat} {ps : List Int} (h : c_mx mi i ps = true) : am_Go mi i s_mx := by
  intro p l e R s m args below meth c Q g n0 cE C L S st r hc hf
  obtain ⟨hx, hb, hml, hown, hts, hini, hSB, hsz, hfr, hlc, hce, hsl, -⟩ := C
  simp only [c_mx, Bool.and_eq_true, am_dc_iff, decide_eq_true_eq] at h
  obtain ⟨⟨⟨⟨⟨⟨hd, h1⟩, h2⟩, h3⟩, h4⟩, h5⟩, h6⟩ := h
  unfold s_mx at hf
  split at hf
  · next b a S' =>
    split at hf
    · next h8 =>
      unfold am_nx at hf
      cases hf
      refine Sp0 (fun hcE K ls H locs hl hP hS hn => ?_)
      have K := K ls H locs hl hP hS hn
      have ra : r3 a := (Ca_hd (Ca_tl hc)).1 rfl
      have rb : r3 b := (Ca_hd hc).1 rfl
      have hm1 := am_sl_le hcE
      have h8 : (S'.map am_cat).sum ≤ 8 := by simpa [am_w8] using h8
      rw [hd.2, am_vI] at K
      rw [am_vI, am_vI]
      refine va_mmax hx hb (hml.trans hl.1.symm) hown (hts _ (am_wd_in h3)) (hts _ (am_wd_in h4)) (hts _ (am_wd_in h5)) (hts _ (am_wd_in h6)) (by omega) (by rw [am_cat_s]; omega) (by omega) (by omega) hd.1 ?_
      by_cases hab : a < b
      · rw [if_pos ((am_l3 ra rb).mpr hab)]
        rw [if_pos hab] at K
        exact K
      · rw [if_neg (fun z => hab ((am_l3 ra rb).mp z))]
        rw [if_neg hab] at K
        exact K
    · cases hf
  · cases hf
theorem g_mn {mi i : Nat} {ps : List Int} (h : c_mn mi i ps = true) : am_Go mi i s_mn := by
  intro p l e R s m args below meth c Q g n0 cE C L S st r hc hf
  obtain ⟨hx, hb, hml, hown, hts, hini, hSB, hsz, hfr, hlc, hce, hsl, -⟩ := C
  simp only [c_mn, Bool.and_eq_true, am_dc_iff, decide_eq_true_eq] at h
  obtain ⟨⟨⟨⟨⟨⟨hd, h1⟩, h2⟩, h3⟩, h4⟩, h5⟩, h6⟩ := h
  unfold s_mn at hf
  split at hf
  · next b a S' =>
    split at hf
    · next h8 =>
      unfold am_nx at hf
      cases hf
      refine Sp0 (fun hcE K ls H locs hl hP hS hn => ?_)
      have K := K ls H locs hl hP hS hn
      have ra : r3 a := (Ca_hd (Ca_tl hc)).1 rfl
      have rb : r3 b := (Ca_hd hc).1 rfl
      have hm1 := am_sl_le hcE
      have h8 : (S'.map am_cat).sum ≤ 8 := by simpa [am_w8] using h8
      rw [hd.2, am_vI] at K
      rw [am_vI, am_vI]
      refine va_mmin hx hb (hml.trans hl.1.symm) hown (hts _ (am_wd_in h3)) (hts _ (am_wd_in h4)) (hts _ (am_wd_in h5)) (hts _ (am_wd_in h6)) (by omega) (by rw [am_cat_s]; omega) (by omega) (by omega) hd.1 ?_
      by_cases hab : b < a
      · rw [if_pos ((am_l3 rb ra).mpr hab)]
        rw [if_pos hab] at K
        exact K
      · rw [if_neg (fun z => hab ((am_l3 rb ra).mp z))]
        rw [if_neg hab] at K
        exact K
    · cases hf
  · cases hf
def c_oini (m i : Nat) (ps : List Int) : Bool := am_dc m i (.invokespecial (am_pa ps 0).toNat) 3 && decide (1 ≤ am_fr m) && decide (20 ≤ am_lc m) && am_wd (am_pa ps 1).toNat (.methodLink (am_yn m).cls (am_pa ps 0).toNat Lib.objectInit) && am_wd 79 (.instanceMethod Lib.objectInit) && am_wd 80 (.code Lib.objectInit ⟨#[0xb1]⟩ 1 none)
theorem g_oini {mi i : Nat} {ps : List Int} (h : c_oini mi i ps = true) : am_Go mi i s_oini := by
  intro p l e R s m args below meth c Q g n0 cE C L S st r hc hf
  obtain ⟨hx, hb, hml, hown, hts, hini, hSB, hsz, hfr, hlc, hce, hsl, -⟩ := C
  simp only [c_oini, Bool.and_eq_true, am_dc_iff, decide_eq_true_eq] at h
  obtain ⟨⟨⟨⟨⟨hd, h1⟩, h2⟩, h3⟩, h4⟩, h5⟩ := h
  unfold s_oini at hf
  split at hf
  · next x S' =>
    split at hf
    · next h8 =>
      unfold am_nx at hf
      cases hf
      refine Sp0 (fun hcE K ls H locs hl hP hS hn => ?_)
      have K := K ls H locs hl hP hS hn
      have h8 : (S'.map am_cat).sum ≤ 8 := by simpa [am_w8] using h8
      rw [hd.2] at K
      rw [am_vP]
      exact W.objInit hx hb hown (hts _ (am_wd_in h3)) (hts _ (am_wd_in h4)) (hts _ (am_wd_in h5)) rfl (hl.1.trans hml.symm) rfl hd.1 (by omega) (by rw [am_mon, am_cat_s]; omega) K
    · cases hf
  · cases hf
theorem am_cpy_20 {g : am_G} {st : am_S} {s sp d dp n : Int} (j2 : (am_lay d).1 = 20) (j3 : 0 ≤ d) (h0 : 0 ≤ n) (h1 : 0 ≤ sp) (h2 : 0 ≤ dp) :
    (am_cv g st).set d.toNat (g.1 + d.toNat, .inl (g.2.2.1.1, (am_lay d).2, .inl (va_cpy (fun j : Nat => Int32.ofInt (st.2.2 s j)) (fun j : Nat => Int32.ofInt (st.2.2 d j)) sp.toNat dp.toNat n.toNat))) = am_cv g (st.1, st.2.1, cpy st.2.2 s sp d dp n) := by
  have h := am_cv_set (g := g) (st := st) (st' := (st.1, st.2.1, cpy st.2.2 s sp d dp n)) (c := d.toNat) rfl (fun c' hc => am_ce_h (by funext k; simp only [cpy]; rw [if_neg (by omega)]) rfl)
  rw [am_ce_20 j3 j2] at h
  rw [← h]
  congr 6
  funext j
  try dsimp only
  unfold va_cpy cpy
  by_cases hj : dp.toNat ≤ j ∧ j < dp.toNat + n.toNat
  · have e : ((sp.toNat + (j - dp.toNat) : Nat) : Int) = sp + ((j : Int) - dp) := by omega
    have hj2 : d = d ∧ dp ≤ (j : Int) ∧ (j : Int) < dp + n := ⟨rfl, by omega, by omega⟩
    rw [if_pos hj, if_pos hj2]
    dsimp only
    rw [e]
  · rw [if_neg hj, if_neg (by omega)]
theorem am_cpy_21 {g : am_G} {st : am_S} {s sp d dp n : Int} (j2 : (am_lay d).1 = 21) (j3 : 0 ≤ d) (h0 : 0 ≤ n) (h1 : 0 ≤ sp) (h2 : 0 ≤ dp) :
    (am_cv g st).set d.toNat (g.1 + d.toNat, .inl (g.2.2.1.2.1, (am_lay d).2, .inr (.inl (va_cpy (fun j : Nat => Int64.ofInt (st.2.2 s j)) (fun j : Nat => Int64.ofInt (st.2.2 d j)) sp.toNat dp.toNat n.toNat)))) = am_cv g (st.1, st.2.1, cpy st.2.2 s sp d dp n) := by
  have h := am_cv_set (g := g) (st := st) (st' := (st.1, st.2.1, cpy st.2.2 s sp d dp n)) (c := d.toNat) rfl (fun c' hc => am_ce_h (by funext k; simp only [cpy]; rw [if_neg (by omega)]) rfl)
  rw [am_ce_21 j3 j2] at h
  rw [← h]
  congr 7
  funext j
  try dsimp only
  unfold va_cpy cpy
  by_cases hj : dp.toNat ≤ j ∧ j < dp.toNat + n.toNat
  · have e : ((sp.toNat + (j - dp.toNat) : Nat) : Int) = sp + ((j : Int) - dp) := by omega
    have hj2 : d = d ∧ dp ≤ (j : Int) ∧ (j : Int) < dp + n := ⟨rfl, by omega, by omega⟩
    rw [if_pos hj, if_pos hj2]
    dsimp only
    rw [e]
  · rw [if_neg hj, if_neg (by omega)]
def c_acpy (m i : Nat) (ps : List Int) : Bool := am_dc m i (.invokestatic (am_pa ps 0).toNat) 3 && decide (1 ≤ am_fr m) && decide (40 ≤ am_lc m) && am_wd (am_pa ps 1).toNat (.methodLink (am_yn m).cls (am_pa ps 0).toNat arraycopyName) && am_wd 592 (.native arraycopyName) && am_wd 591 (.static arraycopyName) && am_wd 71 (.initialized "java/lang/System")
theorem am_nl3 {x : Int} (h : r3 x) (h0 : 0 ≤ x) : ¬ Int32.ofInt x < 0 := by
  rw [show (0 : Int32) = Int32.ofInt 0 from rfl, am_l3 h r3_0]
  omega
set_option maxHeartbeats 4000000 in
theorem g_acpy {mi i : Nat} {ps : List Int} (h : c_acpy mi i ps = true) : am_Go mi i s_acpy := by
  intro p l e R s m args below meth c Q g n0 cE C L S st r hc hf
  obtain ⟨hx, hb, hml, hown, hts, hini, hSB, hsz, hfr, hlc, hce, hsl, -⟩ := C
  simp only [c_acpy, Bool.and_eq_true, am_dc_iff, decide_eq_true_eq] at h
  obtain ⟨⟨⟨⟨⟨⟨hd, h1⟩, h2⟩, h3⟩, h4⟩, h5⟩, h6⟩ := h
  unfold s_acpy at hf
  split at hf
  · next n dp dd sp ss S' =>
    split at hf
    · next hk =>
      obtain ⟨hk, q0, q1, q2, q3, q4, h8⟩ := hk
      unfold am_nx at hf
      cases hf
      refine Sp0 (fun hcE K ls H locs hl hP hS hn => ?_)
      have h8 : (S'.map am_cat).sum ≤ 8 := by simpa [am_w8] using h8
      have rn : r3 n := (Ca_hd hc).1 rfl
      have rd : r3 dp := (Ca_hd (Ca_tl hc)).1 rfl
      have rs : r3 sp := (Ca_hd (Ca_tl (Ca_tl (Ca_tl hc)))).1 rfl
      have hlo : ((am_vs g S').map fun v => v.category).sum + (nativeFrameWords "java/lang/System" "arraycopy" 5 + 11) ≤ R.locals := by
        rw [am_cat_s, show nativeFrameWords "java/lang/System" "arraycopy" 5 = 7 from by decide]
        omega
      rcases hk with ⟨hs, hdk⟩ | ⟨hs, hdk⟩
      · obtain ⟨i1, i2, i3⟩ := am_is_iff.mp hs
        obtain ⟨j1, j2, j3⟩ := am_is_iff.mp hdk
        rw [am_vI, am_vI, am_vP0 _ _ j3, am_vI, am_vP0 _ _ i3]
        have he := am_cv_at (g := g) i1
        rw [am_ce_20 i3 i2] at he
        have hw := am_cv_at (g := g) j1
        rw [am_ce_20 j3 j2] at hw
        refine va_copyi (A := fun q => g.1 ≤ q) (ty := .int) hx hb (hml.trans hl.1.symm) hown (hts _ (am_wd_in h3)) (hts _ (am_wd_in h4)) (hts _ (am_wd_in h5)) (hts _ (am_wd_in h6)) hSB.1 hP am_cv_D hS ss.toNat dd.toNat 0 0 he hw rfl rfl rfl (am_nl3 rs q1) (am_nl3 rd q2) (am_nl3 rn q0) (by rw [am_clamp rs, am_clamp rn]; omega) (by rw [am_clamp rd, am_clamp rn]; omega) (fun _ _ => rfl) (by omega) hlo hd.1 (fun H1 locs1 hP1 hD1 hS1 => ?_)
        rw [am_clamp rs, am_clamp rd, am_clamp rn, am_cpy_20 j2 j3 q0 q1 q2] at hP1
        have K := K ls H1 locs1 hl hP1 hS1 hn
        rw [hd.2] at K
        exact K
      · obtain ⟨i1, i2, i3⟩ := am_is_iff.mp hs
        obtain ⟨j1, j2, j3⟩ := am_is_iff.mp hdk
        rw [am_vI, am_vI, am_vP0 _ _ j3, am_vI, am_vP0 _ _ i3]
        have he := am_cv_at (g := g) i1
        rw [am_ce_21 i3 i2] at he
        have hw := am_cv_at (g := g) j1
        rw [am_ce_21 j3 j2] at hw
        refine va_copyl (A := fun q => g.1 ≤ q) hx hb (hml.trans hl.1.symm) hown (hts _ (am_wd_in h3)) (hts _ (am_wd_in h4)) (hts _ (am_wd_in h5)) (hts _ (am_wd_in h6)) hSB.1 hP am_cv_D hS ss.toNat dd.toNat 1 1 he hw rfl rfl rfl (am_nl3 rs q1) (am_nl3 rd q2) (am_nl3 rn q0) (by rw [am_clamp rs, am_clamp rn]; omega) (by rw [am_clamp rd, am_clamp rn]; omega) (fun _ _ => rfl) (by omega) hlo hd.1 (fun H1 locs1 hP1 hD1 hS1 => ?_)
        rw [am_clamp rs, am_clamp rd, am_clamp rn, am_cpy_21 j2 j3 q0 q1 q2] at hP1
        have K := K ls H1 locs1 hl hP1 hS1 hn
        rw [hd.2] at K
        exact K
    · cases hf
  · cases hf

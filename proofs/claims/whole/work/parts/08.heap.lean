def c_tsw (m i : Nat) (ps : List Int) : Bool := decide (3 ≤ ps.length) && decide (am_pa ps 1 - am_pa ps 0 + 1 = ((ps.length - 3 : Nat) : Int)) && (match decode (am_by m) (am_pc m i) with
  | .ok (.tableswitch d lo hi offs, _) => decide (d = am_of m i (am_pa ps 2)) && decide (lo = am_pa ps 0) && decide (hi = am_pa ps 1) && decide (offs.toList = (ps.drop 3).map (am_of m i))
  | _ => false)
theorem g_tsw {mi i : Nat} {ps : List Int} (h : c_tsw mi i ps = true) : am_Go mi i (s_tsw ps) := by
  intro p l e R s m args below meth c Q g n0 cE C L S st r hc hf
  obtain ⟨hx, hb, -⟩ := C
  simp only [c_tsw, Bool.and_eq_true, decide_eq_true_eq] at h
  obtain ⟨⟨hl3, hlen⟩, h⟩ := h
  split at h
  · next d lo hi offs ln hd =>
    simp only [Bool.and_eq_true, decide_eq_true_eq] at h
    obtain ⟨⟨⟨e1, e2⟩, e3⟩, e4⟩ := h
    unfold s_tsw at hf
    split at hf
    · next v S' =>
      have rv : r3 v := (Ca_hd hc).1 rfl
      split at hf
      · next hv =>
        unfold am_jp at hf
        cases hf
        refine Sp1 (fun K ls H locs hl hP hS hn => ?_)
        have hj : (v - am_pa ps 0).toNat < ps.length - 3 := by omega
        have ho : offs[((Int32.ofInt v).toInt - lo).toNat]? = some (am_of mi i (am_pa ps (3 + (v - am_pa ps 0).toNat))) := by
          have hj2 : 3 + (v - am_pa ps 0).toNat < ps.length := by omega
          rw [o3 rv, e2, ← Array.getElem?_toList, e4, List.getElem?_map, List.getElem?_drop, List.getElem?_eq_getElem hj2]
          rw [show am_pa ps (3 + (v - am_pa ps 0).toNat) = ps[3 + (v - am_pa ps 0).toNat] from by
            rw [am_pa, List.getD_eq_getElem?_getD, List.getElem?_eq_getElem hj2]
            rfl]
          rfl
        exact lv_tableIn hx hb hd (by rw [o3 rv, e2]; omega) (by rw [o3 rv, e3]; omega) ho (am_of_eq _ _ _) (K ls H locs hl hP hS hn)
      · next hv =>
        unfold am_jp at hf
        cases hf
        refine Sp1 (fun K ls H locs hl hP hS hn => ?_)
        exact lv_tableOut hx hb hd (by rw [o3 rv, e2, e3]; omega) (by rw [e1]; exact am_of_eq _ _ _) (K ls H locs hl hP hS hn)
    · cases hf
  · cases h
def am_pq (m i : Nat) : List Int → List (Int × Int)
  | k :: t :: r => (k, am_of m i t) :: am_pq m i r
  | _ => []
theorem am_lk_of (m i : Nat) (d v : Int) : ∀ (r : List Int), Op.lookupswitch.offset (am_pq m i r) (am_of m i d) v = am_of m i (am_lk r v d)
  | [] => rfl
  | [_] => rfl
  | k :: t :: r => by
    rw [am_pq, Op.lookupswitch.offset_cons, am_lk]
    split
    · rfl
    · exact am_lk_of m i d v r
def c_lsw (m i : Nat) (ps : List Int) : Bool := match decode (am_by m) (am_pc m i) with
  | .ok (.lookupswitch d qs, _) => decide (d = am_of m i (am_pa ps 0)) && decide (qs.toList = am_pq m i (ps.drop 1)) && (qs.toList.zip (qs.toList.drop 1)).all (fun (a, next) => a.1 < next.1)
  | _ => false
theorem g_lsw {mi i : Nat} {ps : List Int} (h : c_lsw mi i ps = true) : am_Go mi i (s_lsw ps) := by
  intro p l e R s m args below meth c Q g n0 cE C L S st r hc hf
  obtain ⟨hx, hb, -⟩ := C
  unfold c_lsw at h
  split at h
  · next d qs ln hd =>
    simp only [Bool.and_eq_true, decide_eq_true_eq] at h
    obtain ⟨⟨e1, e2⟩, e3⟩ := h
    unfold s_lsw at hf
    split at hf
    · next v S' =>
      have rv : r3 v := (Ca_hd hc).1 rfl
      unfold am_jp at hf
      cases hf
      refine Sp1 (fun K ls H locs hl hP hS hn => ?_)
      refine lv_lookup (off := am_of mi i (am_lk (ps.drop 1) v (am_pa ps 0))) hx hb hd e3 ?_ (am_of_eq _ _ _) (K ls H locs hl hP hS hn)
      rw [o3 rv, e2, e1]
      exact am_lk_of _ _ _ _ _
    · cases hf
  · cases h
theorem am_ly_sz : ∀ q ∈ am_LY, q.1 < 12 → (vwCl[q.1]?).map (fun r => r.2.2) = some q.2 := by decide +kernel
theorem am_lay_nat {c : Int} (h : 0 ≤ c) : am_lay ((c.toNat : Nat) : Int) = am_lay c := by rw [Int.toNat_of_nonneg h]
theorem am_lay_in {c : Int} {kd : Nat} (h : (am_lay c).1 = kd) (hk : kd < 90) : am_lay c ∈ am_LY := by
  unfold am_lay at h ⊢
  split at h
  · dsimp only at h; omega
  · next hc =>
    rw [if_neg hc]
    rw [List.getD_eq_getElem?_getD] at h ⊢
    cases hq : am_LY[c.toNat]? with
    | none => rw [hq] at h; dsimp only [Option.getD] at h; omega
    | some q => exact List.mem_of_getElem? hq
theorem am_lay_sz {c : Int} {ci : Nat} {C : String} {T : u_T} {N : Nat} (h : (am_lay c).1 = ci) (hk : ci < 12) (hc : vwCl[ci]? = some (C, T, N)) : (am_lay c).2 = N := by
  have := am_ly_sz _ (am_lay_in h (by omega)) (by omega)
  rw [h, hc] at this
  exact (Option.some.inj this).symm
theorem am_ce_o {g : am_G} {st : am_S} {c : Int} {ci : Nat} (h0 : 0 ≤ c) (h : (am_lay c).1 = ci) (hk : ci < 12) : am_ce g st c.toNat = .inr (ci, (List.range (am_lay c).2).map (fun k => am_fv g ci k (st.2.2 c k) (am_gr st.2.1 c k))) := by
  unfold am_ce
  rw [Int.toNat_of_nonneg h0, h, if_neg (by omega), if_neg (by omega), if_neg (by omega), if_neg (by omega)]
theorem am_ce_20 {g : am_G} {st : am_S} {c : Int} (h0 : 0 ≤ c) (h : (am_lay c).1 = 20) : am_ce g st c.toNat = .inl (g.2.2.1.1, (am_lay c).2, .inl (fun j => Int32.ofInt (st.2.2 c j))) := by
  unfold am_ce
  rw [Int.toNat_of_nonneg h0, if_pos h]
theorem am_ce_21 {g : am_G} {st : am_S} {c : Int} (h0 : 0 ≤ c) (h : (am_lay c).1 = 21) : am_ce g st c.toNat = .inl (g.2.2.1.2.1, (am_lay c).2, .inr (.inl (fun j => Int64.ofInt (st.2.2 c j)))) := by
  unfold am_ce
  rw [Int.toNat_of_nonneg h0, if_neg (by omega), if_pos h]
theorem am_ce_22 {g : am_G} {st : am_S} {c : Int} (h0 : 0 ≤ c) (h : (am_lay c).1 = 22) : am_ce g st c.toNat = .inl (g.2.2.1.2.2.1, (am_lay c).2, .inr (.inr (.inr (.inr (fun j => am_oR g (am_gr st.2.1 c j)))))) := by
  unfold am_ce
  rw [Int.toNat_of_nonneg h0, if_neg (by omega), if_neg (by omega), if_pos h]
theorem am_ce_23 {g : am_G} {st : am_S} {c : Int} (h0 : 0 ≤ c) (h : (am_lay c).1 = 23) : am_ce g st c.toNat = .inl (g.2.2.1.2.2.2, (am_lay c).2, .inr (.inr (.inr (.inr (fun j => am_oR g (am_gr st.2.1 c j)))))) := by
  unfold am_ce
  rw [Int.toNat_of_nonneg h0, if_neg (by omega), if_neg (by omega), if_neg (by omega), if_pos h]
def am_tyT (ci : Nat) : Nat → FieldType := match ci with
  | 0 => tyX0
  | 1 => tyX1
  | 2 => tyX2
  | 3 => tyX3
  | 4 => tyX4
  | 5 => tyX5
  | 6 => tyX6
  | 7 => tyX7
  | 8 => tyX8
  | 9 => tyX9
  | 10 => tyX10
  | _ => tyX11
theorem us_0 : ∀ w ∈ u_ws RX0 TX0 8, w ∈ am_T := by
  have h : u_ws RX0 TX0 8 = ([263, 265, 267, 269, 271, 273, 275, 277] : List Nat).filterMap (fun i => lw_tbl[i]?) := by decide +kernel
  have h2 : (u_ws RX0 TX0 8).all goodWord = true := by decide +kernel
  intro w hw
  have h3 := List.all_eq_true.mp h2 w hw
  rw [h] at hw
  obtain ⟨i, -, hi⟩ := List.mem_filterMap.mp hw
  exact List.mem_filter.mpr ⟨List.mem_of_getElem? hi, h3⟩
theorem us_1 : ∀ w ∈ u_ws RX1 TX1 5, w ∈ am_T := by
  have h : u_ws RX1 TX1 5 = ([379, 381, 383, 385, 387] : List Nat).filterMap (fun i => lw_tbl[i]?) := by decide +kernel
  have h2 : (u_ws RX1 TX1 5).all goodWord = true := by decide +kernel
  intro w hw
  have h3 := List.all_eq_true.mp h2 w hw
  rw [h] at hw
  obtain ⟨i, -, hi⟩ := List.mem_filterMap.mp hw
  exact List.mem_filter.mpr ⟨List.mem_of_getElem? hi, h3⟩
theorem us_2 : ∀ w ∈ u_ws RX2 TX2 8, w ∈ am_T := by
  have h : u_ws RX2 TX2 8 = ([121, 123, 125, 127, 129, 131, 133, 135] : List Nat).filterMap (fun i => lw_tbl[i]?) := by decide +kernel
  have h2 : (u_ws RX2 TX2 8).all goodWord = true := by decide +kernel
  intro w hw
  have h3 := List.all_eq_true.mp h2 w hw
  rw [h] at hw
  obtain ⟨i, -, hi⟩ := List.mem_filterMap.mp hw
  exact List.mem_filter.mpr ⟨List.mem_of_getElem? hi, h3⟩
theorem us_3 : ∀ w ∈ u_ws RX3 TX3 6, w ∈ am_T := by
  have h : u_ws RX3 TX3 6 = ([182, 184, 186, 188, 190, 192] : List Nat).filterMap (fun i => lw_tbl[i]?) := by decide +kernel
  have h2 : (u_ws RX3 TX3 6).all goodWord = true := by decide +kernel
  intro w hw
  have h3 := List.all_eq_true.mp h2 w hw
  rw [h] at hw
  obtain ⟨i, -, hi⟩ := List.mem_filterMap.mp hw
  exact List.mem_filter.mpr ⟨List.mem_of_getElem? hi, h3⟩
theorem us_4 : ∀ w ∈ u_ws RX4 TX4 10, w ∈ am_T := by
  have h : u_ws RX4 TX4 10 = ([346, 348, 350, 352, 354, 356, 358, 360, 362, 364] : List Nat).filterMap (fun i => lw_tbl[i]?) := by decide +kernel
  have h2 : (u_ws RX4 TX4 10).all goodWord = true := by decide +kernel
  intro w hw
  have h3 := List.all_eq_true.mp h2 w hw
  rw [h] at hw
  obtain ⟨i, -, hi⟩ := List.mem_filterMap.mp hw
  exact List.mem_filter.mpr ⟨List.mem_of_getElem? hi, h3⟩
theorem us_5 : ∀ w ∈ u_ws RX5 TX5 3, w ∈ am_T := by
  have h : u_ws RX5 TX5 3 = ([209, 211, 213] : List Nat).filterMap (fun i => lw_tbl[i]?) := by decide +kernel
  have h2 : (u_ws RX5 TX5 3).all goodWord = true := by decide +kernel
  intro w hw
  have h3 := List.all_eq_true.mp h2 w hw
  rw [h] at hw
  obtain ⟨i, -, hi⟩ := List.mem_filterMap.mp hw
  exact List.mem_filter.mpr ⟨List.mem_of_getElem? hi, h3⟩
theorem us_6 : ∀ w ∈ u_ws RX6 TX6 4, w ∈ am_T := by
  have h : u_ws RX6 TX6 4 = ([316, 318, 320, 322] : List Nat).filterMap (fun i => lw_tbl[i]?) := by decide +kernel
  have h2 : (u_ws RX6 TX6 4).all goodWord = true := by decide +kernel
  intro w hw
  have h3 := List.all_eq_true.mp h2 w hw
  rw [h] at hw
  obtain ⟨i, -, hi⟩ := List.mem_filterMap.mp hw
  exact List.mem_filter.mpr ⟨List.mem_of_getElem? hi, h3⟩
theorem us_7 : ∀ w ∈ u_ws RX7 TX7 3, w ∈ am_T := by
  have h : u_ws RX7 TX7 3 = ([290, 292, 294] : List Nat).filterMap (fun i => lw_tbl[i]?) := by decide +kernel
  have h2 : (u_ws RX7 TX7 3).all goodWord = true := by decide +kernel
  intro w hw
  have h3 := List.all_eq_true.mp h2 w hw
  rw [h] at hw
  obtain ⟨i, -, hi⟩ := List.mem_filterMap.mp hw
  exact List.mem_filter.mpr ⟨List.mem_of_getElem? hi, h3⟩
theorem us_8 : ∀ w ∈ u_ws RX8 TX8 2, w ∈ am_T := by
  have h : u_ws RX8 TX8 2 = ([153, 155] : List Nat).filterMap (fun i => lw_tbl[i]?) := by decide +kernel
  have h2 : (u_ws RX8 TX8 2).all goodWord = true := by decide +kernel
  intro w hw
  have h3 := List.all_eq_true.mp h2 w hw
  rw [h] at hw
  obtain ⟨i, -, hi⟩ := List.mem_filterMap.mp hw
  exact List.mem_filter.mpr ⟨List.mem_of_getElem? hi, h3⟩
theorem us_9 : ∀ w ∈ u_ws RX9 TX9 4, w ∈ am_T := by
  have h : u_ws RX9 TX9 4 = ([228, 230, 232, 234] : List Nat).filterMap (fun i => lw_tbl[i]?) := by decide +kernel
  have h2 : (u_ws RX9 TX9 4).all goodWord = true := by decide +kernel
  intro w hw
  have h3 := List.all_eq_true.mp h2 w hw
  rw [h] at hw
  obtain ⟨i, -, hi⟩ := List.mem_filterMap.mp hw
  exact List.mem_filter.mpr ⟨List.mem_of_getElem? hi, h3⟩
theorem us_10 : ∀ w ∈ u_ws RX10 TX10 11, w ∈ am_T := by
  have h : u_ws RX10 TX10 11 = ([401, 403, 405, 407, 409, 411, 413, 415, 417, 419, 421] : List Nat).filterMap (fun i => lw_tbl[i]?) := by decide +kernel
  have h2 : (u_ws RX10 TX10 11).all goodWord = true := by decide +kernel
  intro w hw
  have h3 := List.all_eq_true.mp h2 w hw
  rw [h] at hw
  obtain ⟨i, -, hi⟩ := List.mem_filterMap.mp hw
  exact List.mem_filter.mpr ⟨List.mem_of_getElem? hi, h3⟩
theorem us_11 : ∀ w ∈ u_ws RX11 TX11 19, w ∈ am_T := by
  have h : u_ws RX11 TX11 19 = ([1037, 1039, 1041, 1043, 1045, 1047, 1049, 1051, 1053, 1055, 1057, 1059, 1061, 1063, 1065, 1067, 1069, 1071, 1073] : List Nat).filterMap (fun i => lw_tbl[i]?) := by decide +kernel
  have h2 : (u_ws RX11 TX11 19).all goodWord = true := by decide +kernel
  intro w hw
  have h3 := List.all_eq_true.mp h2 w hw
  rw [h] at hw
  obtain ⟨i, -, hi⟩ := List.mem_filterMap.mp hw
  exact List.mem_filter.mpr ⟨List.mem_of_getElem? hi, h3⟩
theorem am_cl {ci : Nat} {C : String} {T : u_T} {N : Nat} (hc : vwCl[ci]? = some (C, T, N)) : (∀ w ∈ u_ws C T N, w ∈ am_T) ∧ (∀ k, k < N → parseFieldDescriptor (T k).2.2.1 = some (am_tyT ci k)) ∧ (∀ a, a < N → ∀ b, b < N → a ≠ b → (T a).2.1 ≠ (T b).2.1) := by
  match ci, hc with
  | 0, hc => cases hc; exact ⟨us_0, tyX0_ok, nmX0⟩
  | 1, hc => cases hc; exact ⟨us_1, tyX1_ok, nmX1⟩
  | 2, hc => cases hc; exact ⟨us_2, tyX2_ok, nmX2⟩
  | 3, hc => cases hc; exact ⟨us_3, tyX3_ok, nmX3⟩
  | 4, hc => cases hc; exact ⟨us_4, tyX4_ok, nmX4⟩
  | 5, hc => cases hc; exact ⟨us_5, tyX5_ok, nmX5⟩
  | 6, hc => cases hc; exact ⟨us_6, tyX6_ok, nmX6⟩
  | 7, hc => cases hc; exact ⟨us_7, tyX7_ok, nmX7⟩
  | 8, hc => cases hc; exact ⟨us_8, tyX8_ok, nmX8⟩
  | 9, hc => cases hc; exact ⟨us_9, tyX9_ok, nmX9⟩
  | 10, hc => cases hc; exact ⟨us_10, tyX10_ok, nmX10⟩
  | 11, hc => cases hc; exact ⟨us_11, tyX11_ok, nmX11⟩
  | n + 12, hc => simp [vwCl] at hc
/-- a field: its class by number, its place, the pool's index, the link's place in the tables -/
def c_fld (m : Nat) (ps : List Int) : Bool := decide ((am_pa ps 0).toNat < 12) && decide (0 ≤ am_pa ps 1) && (match vwCl[(am_pa ps 0).toNat]? with
  | some q => decide ((am_pa ps 1).toNat < q.2.2) && am_wd (am_pa ps 3).toNat (.fieldLink (am_yn m).cls (am_pa ps 2).toNat (q.2.1 (am_pa ps 1).toNat).1 (q.2.1 (am_pa ps 1).toNat).2.1 (q.2.1 (am_pa ps 1).toNat).2.2.1)
  | none => false)
theorem c_fld_of {m : Nat} {ps : List Int} (h : c_fld m ps = true) : ∃ (C : String) (T : u_T) (N : Nat), (am_pa ps 0).toNat < 12 ∧ 0 ≤ am_pa ps 1 ∧ vwCl[(am_pa ps 0).toNat]? = some (C, T, N) ∧ (am_pa ps 1).toNat < N ∧ Cond.fieldLink (am_yn m).cls (am_pa ps 2).toNat (T (am_pa ps 1).toNat).1 (T (am_pa ps 1).toNat).2.1 (T (am_pa ps 1).toNat).2.2.1 ∈ am_T := by
  simp only [c_fld, Bool.and_eq_true, decide_eq_true_eq] at h
  obtain ⟨⟨h1, h2⟩, h3⟩ := h
  split at h3
  · next q hq =>
    obtain ⟨C, T, N⟩ := q
    simp only [Bool.and_eq_true, decide_eq_true_eq] at h3
    exact ⟨C, T, N, h1, h2, hq, h3.1, am_wd_in h3.2⟩
  · cases h3
theorem am_fs_at {g : am_G} {st : am_S} {c : Int} {ci N k : Nat} (hk : k < N) : ((List.range N).map (fun k => am_fv g ci k (st.2.2 c k) (am_gr st.2.1 c k)))[k]? = some (am_fv g ci k (st.2.2 c k) (am_gr st.2.1 c k)) := by simp [hk]
def c_gI (m i : Nat) (ps : List Int) : Bool := am_dc m i (.getfield (am_pa ps 2).toNat) 3 && c_fld m ps && decide (am_ft (am_pa ps 0).toNat (am_pa ps 1).toNat ≠ 2)
theorem g_gI {mi i : Nat} {ps : List Int} (h : c_gI mi i ps = true) : am_Go mi i (s_gI ps) := by
  intro p l e R s m args below meth c Q g n0 cE C L S st r hc hf
  obtain ⟨hx, hb, hml, hown, hts, hini, hSB, hsz, -⟩ := C
  simp only [c_gI, Bool.and_eq_true, am_dc_iff, decide_eq_true_eq] at h
  obtain ⟨⟨hd, hfl⟩, hft⟩ := h
  obtain ⟨Cn, T, N, hci, hk0, hcl, hk, hlk⟩ := c_fld_of hfl
  unfold s_gI at hf
  split at hf
  · next cc S' =>
    split at hf
    · next his =>
      obtain ⟨i1, i2, i3⟩ := am_is_iff.mp his
      unfold am_nx at hf
      cases hf
      refine Sp0 (fun _ K ls H locs hl hP hS hn => ?_)
      have K := K ls H locs hl hP hS hn
      rw [hd.2] at K
      rw [am_vP0 _ _ i3]
      have he := am_cv_at (g := g) i1
      rw [am_ce_o i3 i2 hci, am_lay_sz i2 hci hcl] at he
      refine va_get (v := .int (Int32.ofInt (st.2.2 cc (am_pa ps 1)))) hx hb hts (am_cl hcl).1 hown hSB.1 hP cc.toNat he hcl (am_pa ps 1).toNat hk (hts _ hlk) (fun _ h9 => h9) ?_ hd.1 K
      rw [am_fs_at hk, am_fv, if_neg hft, Int.toNat_of_nonneg hk0]
    · cases hf
  · cases hf
def c_gR (m i : Nat) (ps : List Int) : Bool := am_dc m i (.getfield (am_pa ps 2).toNat) 3 && c_fld m ps && decide (am_ft (am_pa ps 0).toNat (am_pa ps 1).toNat = 2)
theorem g_gR {mi i : Nat} {ps : List Int} (h : c_gR mi i ps = true) : am_Go mi i (s_gR ps) := by
  intro p l e R s m args below meth c Q g n0 cE C L S st r hc hf
  obtain ⟨hx, hb, hml, hown, hts, hini, hSB, hsz, -⟩ := C
  simp only [c_gR, Bool.and_eq_true, am_dc_iff, decide_eq_true_eq] at h
  obtain ⟨⟨hd, hfl⟩, hft⟩ := h
  obtain ⟨Cn, T, N, hci, hk0, hcl, hk, hlk⟩ := c_fld_of hfl
  unfold s_gR at hf
  split at hf
  · next cc S' =>
    split at hf
    · next his =>
      obtain ⟨i1, i2, i3⟩ := am_is_iff.mp his.1
      have h0 := his.2
      unfold am_nx at hf
      cases hf
      refine Sp0 (fun _ K ls H locs hl hP hS hn => ?_)
      have K := K ls H locs hl hP hS hn
      rw [hd.2, am_vP0 _ _ h0] at K
      rw [am_vP0 _ _ i3]
      have he := am_cv_at (g := g) i1
      rw [am_ce_o i3 i2 hci, am_lay_sz i2 hci hcl] at he
      refine va_get hx hb hts (am_cl hcl).1 hown hSB.1 hP cc.toNat he hcl (am_pa ps 1).toNat hk (hts _ hlk) (fun _ h9 => h9) ?_ hd.1 K
      rw [am_fs_at hk, am_fv, if_pos hft, Int.toNat_of_nonneg hk0, am_oR, if_neg (by omega)]
      rfl
    · cases hf
  · cases hf
theorem am_fs_set {g : am_G} {st : am_S} {c v : Int} {ci N k : Nat} (hft : am_ft ci k ≠ 2) : ((List.range N).map (fun k => am_fv g ci k (st.2.2 c k) (am_gr st.2.1 c k))).set k (.int (Int32.ofInt v)) = (List.range N).map (fun j => am_fv g ci j (up st.2.2 c k v c j) (am_gr st.2.1 c j)) := by
  apply List.ext_getElem?
  intro j
  by_cases hj : j < N
  · by_cases hjk : j = k
    · subst hjk
      rw [List.getElem?_set_self (by simpa using hj)]
      simp [hj, am_fv, hft, up_s]
    · rw [List.getElem?_set_ne (Ne.symm hjk)]
      simp [hj, up_k (am_int_ne hjk)]
  · rw [List.getElem?_eq_none (by simp; omega), List.getElem?_eq_none (by simp; omega)]
theorem am_fs_setR {g : am_G} {st : am_S} {c v : Int} {ci N k : Nat} (hft : am_ft ci k = 2) (hv : 0 ≤ v) : ((List.range N).map (fun k => am_fv g ci k (st.2.2 c k) (am_gr st.2.1 c k))).set k (.ref (g.1 + v.toNat)) = (List.range N).map (fun j => am_fv g ci j (st.2.2 c j) (am_gr ((c, (k : Int), v) :: st.2.1) c j)) := by
  apply List.ext_getElem?
  intro j
  by_cases hj : j < N
  · by_cases hjk : j = k
    · subst hjk
      rw [List.getElem?_set_self (by simpa using hj)]
      simp only [List.getElem?_map, List.getElem?_range hj, Option.map_some, am_fv, hft, if_true, gr_s, am_oR, if_neg (show ¬ v < 0 by omega)]
      rfl
    · rw [List.getElem?_set_ne (Ne.symm hjk)]
      simp [hj, gr_k (am_int_ne hjk)]
  · rw [List.getElem?_eq_none (by simp; omega), List.getElem?_eq_none (by simp; omega)]
theorem am_ce_up {g : am_G} {st : am_S} {c k v : Int} (h0 : 0 ≤ c) (c' : Nat) (hc : c' ≠ c.toNat) : am_ce g (st.1, st.2.1, up st.2.2 c k v) c' = am_ce g st c' := by
  have : (c' : Int) ≠ c := by omega
  exact am_ce_h (by rw [up_ne this]) rfl
theorem am_ce_rf {g : am_G} {st : am_S} {c k v : Int} (h0 : 0 ≤ c) (c' : Nat) (hc : c' ≠ c.toNat) : am_ce g (st.1, (c, k, v) :: st.2.1, st.2.2) c' = am_ce g st c' := by
  have : (c' : Int) ≠ c := by omega
  exact am_ce_h rfl (by funext j; rw [gr_ne this])
theorem am_set_o {g : am_G} {st : am_S} {c k v : Int} {ci N : Nat} {C : String} {T : u_T} (i2 : (am_lay c).1 = ci) (i3 : 0 ≤ c) (hci : ci < 12) (hcl : vwCl[ci]? = some (C, T, N)) (hk0 : 0 ≤ k) (hft : am_ft ci k.toNat ≠ 2) :
    (am_cv g st).set c.toNat (g.1 + c.toNat, .inr (ci, ((List.range N).map (fun k => am_fv g ci k (st.2.2 c k) (am_gr st.2.1 c k))).set k.toNat (.int (Int32.ofInt v)))) = am_cv g (st.1, st.2.1, up st.2.2 c k v) := by
  have h := am_cv_set (g := g) (st := st) (st' := (st.1, st.2.1, up st.2.2 c k v)) (c := c.toNat) rfl (am_ce_up i3)
  rw [am_ce_o i3 i2 hci, am_lay_sz i2 hci hcl] at h
  rw [← h, am_fs_set hft, Int.toNat_of_nonneg hk0]
theorem am_set_r {g : am_G} {st : am_S} {c k v : Int} {ci N : Nat} {C : String} {T : u_T} (i2 : (am_lay c).1 = ci) (i3 : 0 ≤ c) (hci : ci < 12) (hcl : vwCl[ci]? = some (C, T, N)) (hk0 : 0 ≤ k) (hft : am_ft ci k.toNat = 2) (hv : 0 ≤ v) :
    (am_cv g st).set c.toNat (g.1 + c.toNat, .inr (ci, ((List.range N).map (fun k => am_fv g ci k (st.2.2 c k) (am_gr st.2.1 c k))).set k.toNat (.ref (g.1 + v.toNat)))) = am_cv g (st.1, (c, k, v) :: st.2.1, st.2.2) := by
  have h := am_cv_set (g := g) (st := st) (st' := (st.1, (c, k, v) :: st.2.1, st.2.2)) (c := c.toNat) rfl (am_ce_rf i3)
  rw [am_ce_o i3 i2 hci, am_lay_sz i2 hci hcl] at h
  rw [← h, am_fs_setR hft hv, Int.toNat_of_nonneg hk0]
theorem am_clamp {i : Int} (h : r3 i) : (Int32.ofInt i).toNatClampNeg = i.toNat := Int32.toNatClampNeg_ofInt_of_le h.1 h.2
theorem am_in {i : Int} {n : Nat} (h : r3 i) (h0 : 0 ≤ i) (h1 : i < (n : Int)) : vp_in (Int32.ofInt i) n := by
  rw [vp_in_iff, o3 h]
  exact ⟨h0, h1⟩
theorem am_set_20 {g : am_G} {st : am_S} {c i v : Int} (i2 : (am_lay c).1 = 20) (i3 : 0 ≤ c) (h0 : 0 ≤ i) :
    (am_cv g st).set c.toNat (g.1 + c.toNat, .inl (g.2.2.1.1, (am_lay c).2, .inl (upd (fun j => Int32.ofInt (st.2.2 c j)) i.toNat (Int32.ofInt v)))) = am_cv g (st.1, st.2.1, up st.2.2 c i v) := by
  have h := am_cv_set (g := g) (st := st) (st' := (st.1, st.2.1, up st.2.2 c i v)) (c := c.toNat) rfl (am_ce_up i3)
  rw [am_ce_20 i3 i2] at h
  rw [← h]
  congr 6
  funext j
  dsimp only
  by_cases hj : j = i.toNat
  · subst hj
    rw [pk_us, Int.toNat_of_nonneg h0, up_s]
  · rw [pk_un hj, up_k (by omega)]
theorem am_set_21 {g : am_G} {st : am_S} {c i v : Int} (i2 : (am_lay c).1 = 21) (i3 : 0 ≤ c) (h0 : 0 ≤ i) :
    (am_cv g st).set c.toNat (g.1 + c.toNat, .inl (g.2.2.1.2.1, (am_lay c).2, .inr (.inl (vp_updL (fun j => Int64.ofInt (st.2.2 c j)) i.toNat (Int64.ofInt v))))) = am_cv g (st.1, st.2.1, up st.2.2 c i v) := by
  have h := am_cv_set (g := g) (st := st) (st' := (st.1, st.2.1, up st.2.2 c i v)) (c := c.toNat) rfl (am_ce_up i3)
  rw [am_ce_21 i3 i2] at h
  rw [← h]
  congr 7
  funext j
  dsimp only
  by_cases hj : j = i.toNat
  · subst hj
    rw [pk_uLs, Int.toNat_of_nonneg h0, up_s]
  · rw [pk_uLn hj, up_k (by omega)]
theorem am_oR_up {g : am_G} {l : am_L} {c i v : Int} (h0 : 0 ≤ i) (hv : 0 ≤ v) : va_up (fun j : Nat => am_oR g (am_gr l c j)) i.toNat (some (g.1 + v.toNat)) = fun j : Nat => am_oR g (am_gr ((c, i, v) :: l) c j) := by
  funext j
  unfold va_up
  by_cases hj : j = i.toNat
  · subst hj
    rw [if_pos rfl, Int.toNat_of_nonneg h0, gr_s, am_oR, if_neg (by omega)]
  · rw [if_neg hj, gr_k (by omega)]
def c_put (m : Nat) (ps : List Int) (ok : FieldType → Bool) (fin : Bool) : Bool := match vwCl[(am_pa ps 0).toNat]? with
  | some q => ok (am_tyT (am_pa ps 0).toNat (am_pa ps 1).toNat) && decide ((q.2.1 (am_pa ps 1).toNat).2.2.2 = fin) && (!fin || (decide ((am_yn m).name = "<init>") && decide ((q.2.1 (am_pa ps 1).toNat).1 = (am_yn m).cls)))
  | none => false
def c_pI (m i : Nat) (ps : List Int) : Bool := am_dc m i (.putfield (am_pa ps 2).toNat) 3 && c_fld m ps && decide (am_ft (am_pa ps 0).toNat (am_pa ps 1).toNat ≠ 2) && c_put m ps (fun t => decide (t = .int)) false
set_option maxHeartbeats 4000000 in
theorem g_pI {mi i : Nat} {ps : List Int} (h : c_pI mi i ps = true) : am_Go mi i (s_pI ps) := by
  intro p l e R s m args below meth c Q g n0 cE C L S st r hc hf
  obtain ⟨hx, hb, hml, hown, hts, hini, hSB, hsz, -⟩ := C
  simp only [c_pI, Bool.and_eq_true, am_dc_iff, decide_eq_true_eq] at h
  obtain ⟨⟨⟨hd, hfl⟩, hft⟩, hpu⟩ := h
  obtain ⟨Cn, T, N, hci, hk0, hcl, hk, hlk⟩ := c_fld_of hfl
  simp only [c_put, hcl, Bool.and_eq_true, decide_eq_true_eq] at hpu
  obtain ⟨⟨hty, hfin⟩, -⟩ := hpu
  unfold s_pI at hf
  split at hf
  · next v cc S' =>
    split at hf
    · next his =>
      obtain ⟨i1, i2, i3⟩ := am_is_iff.mp his
      unfold am_nx at hf
      cases hf
      refine Sp0 (fun _ K ls H locs hl hP hS hn => ?_)
      rw [am_vI, am_vP0 _ _ i3]
      have he := am_cv_at (g := g) i1
      have hq := (am_cl hcl).2.1 _ hk
      rw [hty] at hq
      rw [am_ce_o i3 i2 hci, am_lay_sz i2 hci hcl] at he
      refine va_put (A := fun q => g.1 ≤ q) hx hb hts (am_cl hcl).1 (am_tyT (am_pa ps 0).toNat) (am_cl hcl).2.1 (am_cl hcl).2.2 hown hSB.1 hP am_cv_D hS cc.toNat he hcl (am_pa ps 1).toNat hk (hts _ hlk) (fun _ h9 => h9) hfin hq rfl rfl (by simpa using hk) hd.1 (fun H1 locs1 hP1 hD1 hS1 => ?_)
      rw [am_set_o i2 i3 hci hcl hk0 hft] at hP1
      have K := K ls H1 locs1 hl hP1 hS1 hn
      rw [hd.2] at K
      exact K
    · cases hf
  · cases hf

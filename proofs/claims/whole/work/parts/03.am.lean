/-! An abstract machine over mathematical numbers: cells by number, refs in a list, ints and longs in one store. -/
abbrev am_V : Type := Nat × Int
abbrev am_F : Type := Int → Int → Int
abbrev am_L : Type := List (Int × Int × Int)
abbrev am_S : Type := Nat × am_L × am_F
abbrev am_R : Type := Nat × Nat × List am_V × List am_V × am_S
def aI (x : Int) : am_V := (0, x)
def aJ (x : Int) : am_V := (1, x)
def aP (x : Int) : am_V := (2, x)
def aV : am_V := (3, 0)
def aX : am_V := (9, 0)
def am_pr (m : Nat) : List am_I := am_PR.getD m []
def am_pc (m i : Nat) : Nat := (am_PC.getD m []).getD i 99999
def am_by (m : Nat) : ByteArray := am_BY.getD m ⟨#[]⟩
def am_yn (m : Nat) : MethodName := am_YN.getD m ⟨"", "", ""⟩
def am_mx (m : Nat) : Nat := am_MX.getD m 0
def am_rt (m : Nat) : Option FieldType := am_RT.getD m none
def am_fr (m : Nat) : Nat := am_FR.getD m 0
def am_lc (m : Nat) : Nat := am_LC.getD m 0
def am_oc (m : Nat) : Nat := am_OC.getD m 99
def am_wi (m : Nat) : List Nat := am_WI.getD m []
def am_lay (c : Int) : Nat × Nat := if c < 0 then (98, 0) else am_LY.getD c.toNat (99, 0)
def am_ft (ci k : Nat) : Nat := (am_FT.getD ci []).getD k 9
def am_sl (n : Nat) : Nat := ((am_LY.take n).map (fun q => q.2)).sum
def am_gr (l : am_L) (c k : Int) : Int := match l.find? (fun e => e.1 == c && e.2.1 == k) with
  | some e => e.2.2
  | none => -1
def w3 (x : Int) : Int := (Int32.ofInt x).toInt
def w6 (x : Int) : Int := (Int64.ofInt x).toInt
def up (h : am_F) (c k v : Int) : am_F := fun c' k' => if c' = c ∧ k' = k then v else h c' k'
def cpy (h : am_F) (s sp d dp n : Int) : am_F := fun c k => if c = d ∧ dp ≤ k ∧ k < dp + n then h s (sp + (k - dp)) else h c k
def am_pa (ps : List Int) (j : Nat) : Int := ps.getD j 0
def am_nx (L S : List am_V) (st : am_S) : Option am_R := some (0, 0, L, S, st)
def am_jp (t : Int) (L S : List am_V) (st : am_S) : Option am_R := some (1, t.toNat, L, S, st)
def am_nl (v : am_V) : Bool := v.1 != 1
def am_so (L : List am_V) (k : Nat) : Bool := k == 0 || am_nl (L.getD (k - 1) aX)
def s_cst (ps : List Int) (L S : List am_V) (st : am_S) : Option am_R := am_nx L ((0, am_pa ps 0) :: S) st
def s_lcst (ps : List Int) (L S : List am_V) (st : am_S) : Option am_R := am_nx L ((1, am_pa ps 0) :: S) st
def s_ld (t : Nat) (ps : List Int) (L S : List am_V) (st : am_S) : Option am_R := match L[(am_pa ps 0).toNat]? with
  | some v => if v.1 = t then am_nx L (v :: S) st else none
  | none => none
def s_st (t : Nat) (ps : List Int) (L S : List am_V) (st : am_S) : Option am_R := match S with
  | v :: S' => if v.1 = t ∧ (am_pa ps 0).toNat < L.length ∧ am_so L (am_pa ps 0).toNat = true then am_nx (L.set (am_pa ps 0).toNat v) S' st else none
  | [] => none
def s_inc (ps : List Int) (L S : List am_V) (st : am_S) : Option am_R := match L[(am_pa ps 0).toNat]? with
  | some v => if v.1 = 0 ∧ am_so L (am_pa ps 0).toNat = true then am_nx (L.set (am_pa ps 0).toNat (0, w3 (v.2 + am_pa ps 1))) S st else none
  | none => none
def s_bin (f : Int32 → Int32 → Int32) (L S : List am_V) (st : am_S) : Option am_R := match S with
  | (0, b) :: (0, a) :: S' => am_nx L ((0, (f (Int32.ofInt a) (Int32.ofInt b)).toInt) :: S') st
  | _ => none
def s_bin0 (f : Int32 → Int32 → Int32) (L S : List am_V) (st : am_S) : Option am_R := match S with
  | (0, b) :: (0, a) :: S' => if b = 0 then none else am_nx L ((0, (f (Int32.ofInt a) (Int32.ofInt b)).toInt) :: S') st
  | _ => none
def s_un (f : Int32 → Int32) (L S : List am_V) (st : am_S) : Option am_R := match S with
  | (0, a) :: S' => am_nx L ((0, (f (Int32.ofInt a)).toInt) :: S') st
  | _ => none
def s_lbin (f : Int64 → Int64 → Int64) (L S : List am_V) (st : am_S) : Option am_R := match S with
  | (1, b) :: (1, a) :: S' => am_nx L ((1, (f (Int64.ofInt a) (Int64.ofInt b)).toInt) :: S') st
  | _ => none
def s_lsh (f : Int64 → Int32 → Int64) (L S : List am_V) (st : am_S) : Option am_R := match S with
  | (0, b) :: (1, a) :: S' => am_nx L ((1, (f (Int64.ofInt a) (Int32.ofInt b)).toInt) :: S') st
  | _ => none
def s_lcmp (L S : List am_V) (st : am_S) : Option am_R := match S with
  | (1, b) :: (1, a) :: S' => am_nx L ((0, (lg_cmp (Int64.ofInt a) (Int64.ofInt b)).toInt) :: S') st
  | _ => none
def s_i2l (L S : List am_V) (st : am_S) : Option am_R := match S with
  | (0, a) :: S' => am_nx L ((1, ((Int32.ofInt a).toInt64).toInt) :: S') st
  | _ => none
def s_l2i (L S : List am_V) (st : am_S) : Option am_R := match S with
  | (1, a) :: S' => am_nx L ((0, ((Int64.ofInt a).toInt32).toInt) :: S') st
  | _ => none
def s_pop (L S : List am_V) (st : am_S) : Option am_R := match S with
  | v :: S' => if am_nl v = true then am_nx L S' st else none
  | [] => none
def s_dup (L S : List am_V) (st : am_S) : Option am_R := match S with
  | v :: S' => if am_nl v = true then am_nx L (v :: v :: S') st else none
  | [] => none
def s_dup2 (L S : List am_V) (st : am_S) : Option am_R := match S with
  | v :: u :: S' => if am_nl v = true ∧ am_nl u = true then am_nx L (v :: u :: v :: u :: S') st else none
  | _ => none
def am_cn (c a b : Int) : Bool := if c = 0 then decide (a = b) else if c = 1 then decide (¬ a = b) else if c = 2 then decide (a < b) else if c = 3 then decide (b ≤ a) else if c = 4 then decide (b < a) else decide (a ≤ b)
def s_ifc (ps : List Int) (L S : List am_V) (st : am_S) : Option am_R := match S with
  | (0, a) :: S' => if am_cn (am_pa ps 0) a 0 = true then am_jp (am_pa ps 1) L S' st else am_nx L S' st
  | _ => none
def s_icmp (ps : List Int) (L S : List am_V) (st : am_S) : Option am_R := match S with
  | (0, b) :: (0, a) :: S' => if am_cn (am_pa ps 0) a b = true then am_jp (am_pa ps 1) L S' st else am_nx L S' st
  | _ => none
def s_goto (ps : List Int) (L S : List am_V) (st : am_S) : Option am_R := am_jp (am_pa ps 0) L S st
def s_tsw (ps : List Int) (L S : List am_V) (st : am_S) : Option am_R := match S with
  | (0, v) :: S' => if am_pa ps 0 ≤ v ∧ v ≤ am_pa ps 1 then am_jp (am_pa ps (3 + (v - am_pa ps 0).toNat)) L S' st else am_jp (am_pa ps 2) L S' st
  | _ => none
def am_lk : List Int → Int → Int → Int
  | k :: t :: r, v, d => if k = v then t else am_lk r v d
  | _, _, d => d
def s_lsw (ps : List Int) (L S : List am_V) (st : am_S) : Option am_R := match S with
  | (0, v) :: S' => am_jp (am_lk (ps.drop 1) v (am_pa ps 0)) L S' st
  | _ => none
/-- a cell of this kind that there is -/
def am_is (st : am_S) (c : Int) (kd : Nat) : Bool := decide (c.toNat < st.1) && decide ((am_lay c).1 = kd) && decide (0 ≤ c)
def s_gI (ps : List Int) (L S : List am_V) (st : am_S) : Option am_R := match S with
  | (2, c) :: S' => if am_is st c (am_pa ps 0).toNat = true then am_nx L ((0, st.2.2 c (am_pa ps 1)) :: S') st else none
  | _ => none
def s_gR (ps : List Int) (L S : List am_V) (st : am_S) : Option am_R := match S with
  | (2, c) :: S' => if am_is st c (am_pa ps 0).toNat = true ∧ 0 ≤ am_gr st.2.1 c (am_pa ps 1) then am_nx L ((2, am_gr st.2.1 c (am_pa ps 1)) :: S') st else none
  | _ => none
def s_pI (ps : List Int) (L S : List am_V) (st : am_S) : Option am_R := match S with
  | (0, v) :: (2, c) :: S' => if am_is st c (am_pa ps 0).toNat = true then am_nx L S' (st.1, st.2.1, up st.2.2 c (am_pa ps 1) v) else none
  | _ => none
def s_pZ (ps : List Int) (L S : List am_V) (st : am_S) : Option am_R := match S with
  | (0, v) :: (2, c) :: S' => if am_is st c (am_pa ps 0).toNat = true ∧ (v = 0 ∨ v = 1) then am_nx L S' (st.1, st.2.1, up st.2.2 c (am_pa ps 1) v) else none
  | _ => none
def s_pF (ps : List Int) (L S : List am_V) (st : am_S) : Option am_R := match S with
  | (2, v) :: (2, c) :: S' => if am_is st c (am_pa ps 0).toNat = true ∧ 0 ≤ v then am_nx L S' (st.1, (c, am_pa ps 1, v) :: st.2.1, st.2.2) else none
  | _ => none
def am_ix (c i : Int) : Bool := decide (0 ≤ i) && decide (i < ((am_lay c).2 : Int))
def s_iald (L S : List am_V) (st : am_S) : Option am_R := match S with
  | (0, i) :: (2, c) :: S' => if c = -1 then (if 0 ≤ i ∧ i < st.2.2 (-1) (-1) then am_nx L ((0, st.2.2 (-1) i) :: S') st else none) else if am_is st c 20 = true ∧ am_ix c i = true then am_nx L ((0, st.2.2 c i) :: S') st else none
  | _ => none
def s_iast (L S : List am_V) (st : am_S) : Option am_R := match S with
  | (0, v) :: (0, i) :: (2, c) :: S' => if am_is st c 20 = true ∧ am_ix c i = true then am_nx L S' (st.1, st.2.1, up st.2.2 c i v) else none
  | _ => none
def s_lald (L S : List am_V) (st : am_S) : Option am_R := match S with
  | (0, i) :: (2, c) :: S' => if am_is st c 21 = true ∧ am_ix c i = true then am_nx L ((1, st.2.2 c i) :: S') st else none
  | _ => none
def s_last (L S : List am_V) (st : am_S) : Option am_R := match S with
  | (1, v) :: (0, i) :: (2, c) :: S' => if am_is st c 21 = true ∧ am_ix c i = true then am_nx L S' (st.1, st.2.1, up st.2.2 c i v) else none
  | _ => none
def s_aald (L S : List am_V) (st : am_S) : Option am_R := match S with
  | (0, i) :: (2, c) :: S' => if (am_is st c 22 = true ∨ am_is st c 23 = true) ∧ am_ix c i = true ∧ 0 ≤ am_gr st.2.1 c i then am_nx L ((2, am_gr st.2.1 c i) :: S') st else none
  | _ => none
def s_aast (L S : List am_V) (st : am_S) : Option am_R := match S with
  | (2, v) :: (0, i) :: (2, c) :: S' => if ((am_is st c 22 = true ∧ am_is st v 3 = true) ∨ (am_is st c 23 = true ∧ am_is st v 6 = true)) ∧ am_ix c i = true then am_nx L S' (st.1, (c, i, v) :: st.2.1, st.2.2) else none
  | _ => none
def s_alen (L S : List am_V) (st : am_S) : Option am_R := match S with
  | (2, c) :: S' => if c = -1 then am_nx L ((0, st.2.2 (-1) (-1)) :: S') st else if am_is st c 20 = true ∨ am_is st c 21 = true then am_nx L ((0, ((am_lay c).2 : Int)) :: S') st else none
  | _ => none
def s_narr (ps : List Int) (L S : List am_V) (st : am_S) : Option am_R := match S with
  | (0, k) :: S' => if am_LY[st.1]? = some (20 + (am_pa ps 0).toNat, k.toNat) ∧ 0 ≤ k then am_nx L ((2, (st.1 : Int)) :: S') (st.1 + 1, st.2.1, st.2.2) else none
  | _ => none
def s_anew (ps : List Int) (L S : List am_V) (st : am_S) : Option am_R := match S with
  | (0, k) :: S' => if am_LY[st.1]? = some (22 + (am_pa ps 0).toNat, k.toNat) ∧ 0 ≤ k then am_nx L ((2, (st.1 : Int)) :: S') (st.1 + 1, st.2.1, st.2.2) else none
  | _ => none
def s_new (ps : List Int) (L S : List am_V) (st : am_S) : Option am_R :=
  if (am_LY[st.1]?).map (fun q => q.1) = some (am_pa ps 0).toNat then am_nx L ((2, (st.1 : Int)) :: S) (st.1 + 1, st.2.1, st.2.2) else none
def am_cat (v : am_V) : Nat := if v.1 = 1 then 2 else 1
def am_w8 (S : List am_V) : Bool := decide ((S.map am_cat).sum ≤ 8)
/-- the arguments are as the method wants them: width by width; a receiver of its class -/
def am_ck (m : Nat) (As : List am_V) (st : am_S) : Bool := decide (As.map am_cat = am_wi m) && (am_oc m == 99 || (match As with
  | v :: _ => v.1 == 2 && am_is st v.2 (am_oc m)
  | [] => false))
def s_call (ps : List Int) (L S : List am_V) (st : am_S) : Option am_R :=
  if am_w8 (S.drop (am_pa ps 1).toNat) = true ∧ am_ck (am_pa ps 0).toNat (S.take (am_pa ps 1).toNat).reverse st = true then some (2, (am_pa ps 0).toNat, (S.take (am_pa ps 1).toNat).reverse, S.drop (am_pa ps 1).toNat, st) else none
def s_oini (L S : List am_V) (st : am_S) : Option am_R := match S with
  | (2, _) :: S' => if am_w8 S' = true then am_nx L S' st else none
  | _ => none
def s_acpy (L S : List am_V) (st : am_S) : Option am_R := match S with
  | (0, n) :: (0, dp) :: (2, d) :: (0, sp) :: (2, s) :: S' => if ((am_is st s 20 = true ∧ am_is st d 20 = true) ∨ (am_is st s 21 = true ∧ am_is st d 21 = true)) ∧ 0 ≤ n ∧ 0 ≤ sp ∧ 0 ≤ dp ∧ sp + n ≤ ((am_lay s).2 : Int) ∧ dp + n ≤ ((am_lay d).2 : Int) ∧ am_w8 S' = true then am_nx L S' (st.1, st.2.1, cpy st.2.2 s sp d dp n) else none
  | _ => none
def s_mx (L S : List am_V) (st : am_S) : Option am_R := match S with
  | (0, b) :: (0, a) :: S' => if am_w8 S' = true then am_nx L ((0, if a < b then b else a) :: S') st else none
  | _ => none
def s_mn (L S : List am_V) (st : am_S) : Option am_R := match S with
  | (0, b) :: (0, a) :: S' => if am_w8 S' = true then am_nx L ((0, if b < a then b else a) :: S') st else none
  | _ => none
def s_iret (L S : List am_V) (st : am_S) : Option am_R := match S with
  | [(0, v)] => some (3, 0, [(0, v)], [], st)
  | _ => none
def s_zret (L S : List am_V) (st : am_S) : Option am_R := match S with
  | [(0, v)] => if v = 0 ∨ v = 1 then some (3, 0, [(0, v)], [], st) else none
  | _ => none
def s_lret (L S : List am_V) (st : am_S) : Option am_R := match S with
  | [(1, v)] => some (3, 0, [(1, v)], [], st)
  | _ => none
def s_vret (L S : List am_V) (st : am_S) : Option am_R := match S with
  | [] => some (3, 0, [aV], [], st)
  | _ => none
def am_se (a : am_I) (L S : List am_V) (st : am_S) : Option am_R := match a.1 with
  | 0 => s_cst a.2 L S st
  | 1 => s_cst a.2 L S st
  | 2 => s_cst a.2 L S st
  | 3 => s_cst a.2 L S st
  | 4 => s_cst a.2 L S st
  | 5 => s_lcst a.2 L S st
  | 6 => s_lcst a.2 L S st
  | 7 => s_ld 0 a.2 L S st
  | 8 => s_ld 2 a.2 L S st
  | 9 => s_ld 1 a.2 L S st
  | 10 => s_st 0 a.2 L S st
  | 11 => s_st 2 a.2 L S st
  | 12 => s_inc a.2 L S st
  | 13 => s_bin (fun x y => x + y) L S st
  | 14 => s_bin (fun x y => x - y) L S st
  | 15 => s_bin (fun x y => x * y) L S st
  | 16 => s_bin0 (fun x y => x / y) L S st
  | 17 => s_bin0 (fun x y => x - x / y * y) L S st
  | 18 => s_un (fun x => -x) L S st
  | 19 => s_bin (fun x y => x <<< (y &&& 31)) L S st
  | 20 => s_bin (fun x y => x >>> (y &&& 31)) L S st
  | 21 => s_bin (fun x y => (x.toUInt32 >>> (y.toUInt32 &&& Int32.toUInt32 31)).toInt32) L S st
  | 22 => s_bin (fun x y => x &&& y) L S st
  | 23 => s_bin (fun x y => x ||| y) L S st
  | 24 => s_bin (fun x y => x ^^^ y) L S st
  | 25 => s_lbin (fun x y => x + y) L S st
  | 26 => s_lbin (fun x y => x * y) L S st
  | 27 => s_lbin (fun x y => x &&& y) L S st
  | 28 => s_lbin (fun x y => x ||| y) L S st
  | 29 => s_lsh (fun x y => x <<< (y.toInt64 &&& 63)) L S st
  | 30 => s_lsh (fun x y => x >>> (y.toInt64 &&& 63)) L S st
  | 31 => s_lcmp L S st
  | 32 => s_i2l L S st
  | 33 => s_l2i L S st
  | 34 => s_un (fun x => x.toInt8.toInt32) L S st
  | 35 => s_un (fun x => x.toInt16.toInt32) L S st
  | 36 => s_pop L S st
  | 37 => s_dup L S st
  | 38 => s_dup2 L S st
  | 39 => s_ifc a.2 L S st
  | 40 => s_icmp a.2 L S st
  | 41 => s_goto a.2 L S st
  | 42 => s_tsw a.2 L S st
  | 43 => s_lsw a.2 L S st
  | 44 => s_gI a.2 L S st
  | 45 => s_gR a.2 L S st
  | 46 => s_pI a.2 L S st
  | 47 => s_pZ a.2 L S st
  | 48 => s_pF a.2 L S st
  | 49 => s_iald L S st
  | 50 => s_iast L S st
  | 51 => s_lald L S st
  | 52 => s_last L S st
  | 53 => s_aald L S st
  | 54 => s_aast L S st
  | 55 => s_alen L S st
  | 56 => s_narr a.2 L S st
  | 57 => s_anew a.2 L S st
  | 58 => s_new a.2 L S st
  | 59 => s_call a.2 L S st
  | 60 => s_oini L S st
  | 61 => s_acpy L S st
  | 62 => s_iret L S st
  | 63 => s_zret L S st
  | 64 => s_lret L S st
  | 65 => s_vret L S st
  | 66 => s_mx L S st
  | 67 => s_mn L S st
  | _ => none
/-- a method's locals at its start -/
def am_pl : List Nat → List am_V → List am_V
  | w :: ws, v :: vs => if w = 2 then v :: aX :: am_pl ws vs else v :: am_pl ws vs
  | _, _ => []
def am_en (m : Nat) (As : List am_V) : List am_V := am_pl (am_wi m) As ++ List.replicate (am_mx m - (am_wi m).sum) aX
def am_pu (r : am_V) (S : List am_V) : List am_V := if r.1 = 3 then S else r :: S
def am_ju (m : Nat) (t : Int) : List am_I := (am_pr m).drop t.toNat
def am_run : Nat → Nat → List am_I → List am_V → List am_V → am_S → Option (am_V × am_S)
  | 0, _, _, _, _, _ => none
  | _ + 1, _, [], _, _, _ => none
  | n + 1, m, a :: is, L, S, st => match am_se a L S st with
    | none => none
    | some (0, _, L', S', st') => am_run n m is L' S' st'
    | some (1, t, L', S', st') => am_run n m ((am_pr m).drop t) L' S' st'
    | some (2, m', As, S', st') => match am_run n m' (am_pr m') (am_en m' As) [] st' with
      | some (r, st'') => am_run n m is L (am_pu r S') st''
      | none => none
    | some (_, _, v :: _, _, st') => some (v, st')
    | some (_, _, [], _, _) => none

/-! The invariant between the class's cells and the reference's rows -/
/-- slots of the class's world that count -/
def lv (a k : Int) : Prop := (a = 81 ∧ 6 ≤ k ∧ k ≤ 7) ∨ (a = 88 ∧ k = 1) ∨ (a = 95 ∧ 1 ≤ k ∧ k ≤ 2) ∨ (a = 90 ∧ 4 ≤ k ∧ k ≤ 5) ∨ ((a = 82 ∨ (91 ≤ a ∧ a ≤ 93)) ∧ 0 ≤ k ∧ k < 3) ∨ (((83 ≤ a ∧ a ≤ 87) ∨ a = 94) ∧ 0 ≤ k ∧ k < 8) ∨ (a = 89 ∧ 0 ≤ k ∧ k < 20) ∨ (97 ≤ a ∧ a ≤ 136 ∧ (((a - 97) % 5 = 0 ∧ 4 ≤ k ∧ k ≤ 5) ∨ (1 ≤ (a - 97) % 5 ∧ (a - 97) % 5 ≤ 3 ∧ 0 ≤ k ∧ k < 3) ∨ ((a - 97) % 5 = 4 ∧ 0 ≤ k ∧ k < 8)))
/-- an entry to be undone: moment p of the class, row entry at e -/
def EN (h : am_F) (d c : Int) (p e : Int) (n nb L : Nat) : Prop := h c e = h (97 + 5 * p + d) 4 ∧ h c (e + 1) = h (97 + 5 * p + d) 5 ∧ (0 ≤ h c e ∧ h c e ≤ L) ∧ (0 ≤ h c (e + 1) ∧ h c (e + 1) < 2147483648) ∧ (∀ b : Nat, b < nb → (h c (e + 2 + 3 * b) = h (98 + 5 * p + d) b ∧ h c (e + 3 + 3 * b) = h (99 + 5 * p + d) b ∧ h c (e + 4 + 3 * b) = h (100 + 5 * p + d) b) ∧ (0 ≤ h c (e + 2 + 3 * b) ∧ h c (e + 2 + 3 * b) ≤ 999) ∧ (0 ≤ h c (e + 3 + 3 * b) ∧ h c (e + 3 + 3 * b) ≤ 999) ∧ (0 ≤ h c (e + 4 + 3 * b) ∧ h c (e + 4 + 3 * b) < 16)) ∧ ∀ t : Nat, t < n → h c (e + 11 + t) = h (101 + 5 * p + d) t ∧ 0 ≤ h c (e + 11 + t) ∧ h c (e + 11 + t) ≤ 40
/-- the steps that may be undone: K of them, the next moment is nx -/
def RG (h : am_F) (d c : Int) (n nb L K nx : Nat) : Prop := K ≤ 8 ∧ nx < 8 ∧ h (95 + d) 1 = (nx : Int) ∧ h (95 + d) 2 = (K : Int) ∧ h c 5 = (K : Int) ∧ ∀ j : Nat, j < K → EN h d c (((nx + 8 - K + j) % 8 : Nat) : Int) (86 + 19 * j) n nb L
/-- ranges beyond RO -/
def XR (h : am_F) (c : Int) (n : Nat) : Prop := (0 ≤ h c 4 ∧ h c 4 < 2147483648) ∧ ∀ t : Nat, t < n → (0 ≤ h c (18 + 6 * t + 3) ∧ h c (18 + 6 * t + 3) ≤ 99) ∧ (0 ≤ h c (18 + 6 * t + 5) ∧ h c (18 + 6 * t + 5) ≤ 40)
def WD (h : am_F) (d c : Int) (n nb L s K nx : Nat) : Prop := Rp h d c n nb L s ∧ XR h c n ∧ RG h d c n nb L K nx
def WX (h : am_F) (d c : Int) : Prop := ∃ n nb L s K nx : Nat, WD h d c n nb L s K nx
theorem WD_mv {h h' : am_F} {d d' c c' : Int} {n nb L s K nx : Nat} (ha : ∀ a k, lv a k → h' (a + d') k = h (a + d) k) (hc : ∀ k : Int, 0 ≤ k → k < 238 → h' c' k = h c k) (hW : WD h d c n nb L s K nx) : WD h' d' c' n nb L s K nx := by
  obtain ⟨⟨⟨r0, r1, r2, r3, r4, r5, r6, r7⟩, p1, p2, p3, p4, p5, p6, p7, p8, p9, p10⟩, ⟨x1, x2⟩, g1, g2, g3, g4, g5, g6⟩ := hW
  refine ⟨⟨⟨?_, r1, ?_, r3, ?_, r5, fun t ht => ?_, fun b hb => ?_⟩, ?_, ?_, ?_, ?_, ?_, p6, ?_, fun b hb => ?_, fun t ht => ?_, fun i hi => ?_⟩, ⟨?_, fun t ht => ?_⟩, g1, g2, ?_, ?_, ?_, fun j hj => ?_⟩
  · rw [hc _ (by omega) (by omega)]; exact r0
  · rw [hc _ (by omega) (by omega)]; exact r2
  · rw [hc _ (by omega) (by omega)]; exact r4
  · rw [hc _ (by omega) (by omega), hc _ (by omega) (by omega), hc _ (by omega) (by omega)]; exact r6 t ht
  · unfold bk
    rw [hc _ (by omega) (by omega), hc _ (by omega) (by omega), hc _ (by omega) (by omega), hc _ (by omega) (by omega)]; exact r7 b hb
  · rw [ha 81 6 (by unfold lv; omega)]; exact p1
  · rw [ha 81 7 (by unfold lv; omega)]; exact p2
  · rw [ha 88 1 (by unfold lv; omega)]; exact p3
  · rw [ha 90 4 (by unfold lv; omega)]; exact p4
  · rw [hc _ (by omega) (by omega)]; exact p5
  · rw [hc _ (by omega) (by omega), ha 90 5 (by unfold lv; omega)]; exact p7
  · rw [hc _ (by omega) (by omega), hc _ (by omega) (by omega), hc _ (by omega) (by omega), hc _ (by omega) (by omega), ha 82 b (by unfold lv; omega), ha 91 b (by unfold lv; omega), ha 92 b (by unfold lv; omega), ha 93 b (by unfold lv; omega)]; exact p8 b hb
  · rw [hc _ (by omega) (by omega), hc _ (by omega) (by omega), hc _ (by omega) (by omega), hc _ (by omega) (by omega), hc _ (by omega) (by omega), hc _ (by omega) (by omega), ha 83 t (by unfold lv; omega), ha 84 t (by unfold lv; omega), ha 85 t (by unfold lv; omega), ha 86 t (by unfold lv; omega), ha 87 t (by unfold lv; omega), ha 94 t (by unfold lv; omega)]; exact p9 t ht
  · rw [hc _ (by omega) (by omega), ha 89 i (by unfold lv; omega)]; exact p10 i hi
  · rw [hc _ (by omega) (by omega)]; exact x1
  · rw [hc _ (by omega) (by omega), hc _ (by omega) (by omega)]; exact x2 t ht
  · rw [ha 95 1 (by unfold lv; omega)]; exact g3
  · rw [ha 95 2 (by unfold lv; omega)]; exact g4
  · rw [hc _ (by omega) (by omega)]; exact g5
  · have hp : (nx + 8 - K + j) % 8 < 8 := Nat.mod_lt _ (by decide)
    have e := g6 j hj
    generalize (nx + 8 - K + j) % 8 = p at hp e ⊢
    obtain ⟨e1, e2, e3, e4, e5, e6⟩ := e
    refine ⟨?_, ?_, ?_, ?_, fun b hb => ?_, fun t ht => ?_⟩
    · rw [hc _ (by omega) (by omega), ha (97 + 5 * p) 4 (by unfold lv; omega)]; exact e1
    · rw [hc _ (by omega) (by omega), ha (97 + 5 * p) 5 (by unfold lv; omega)]; exact e2
    · rw [hc _ (by omega) (by omega)]; exact e3
    · rw [hc _ (by omega) (by omega)]; exact e4
    · rw [hc _ (by omega) (by omega), hc _ (by omega) (by omega), hc _ (by omega) (by omega), ha (98 + 5 * p) b (by unfold lv; omega), ha (99 + 5 * p) b (by unfold lv; omega), ha (100 + 5 * p) b (by unfold lv; omega)]; exact e5 b hb
    · rw [hc _ (by omega) (by omega), ha (101 + 5 * p) t (by unfold lv; omega)]; exact e6 t ht
def TP (h : am_F) : Prop := ∃ l : Nat, l ≤ 100 ∧ h 59 1 = (l : Int) ∧ h 149 6 = (l : Int) ∧ ∀ i : Nat, i < l → h 60 i = h 154 i ∧ 32 ≤ h 154 i ∧ h 154 i ≤ 126
def SQ (h : am_F) (q : Nat) : Prop := h (72 + 2 * q) 3 = h 156 q ∧ (0 ≤ h 156 q ∧ h 156 q ≤ 24) ∧ ((h (72 + 2 * q) 1 = 1 ∧ h 155 q = -1) ∨ (h (72 + 2 * q) 1 = 0 ∧ h (72 + 2 * q) 2 = h 155 q ∧ 0 ≤ h 155 q ∧ h 155 q ≤ 3)) ∧ ∀ i : Nat, i < 24 → h (73 + 2 * q) i = h 157 (24 * q + i)
def SH (h : am_F) : Prop := ∀ q : Nat, q < 4 → SQ h q
def KP (h : am_F) : Prop := h 0 2 = h 149 4 ∧ (h 149 4 = 0 ∨ (h 149 4 = 1 ∧ WX h (-79) 153))
def INV (h : am_F) : Prop := WX h 0 150 ∧ KP h ∧ TP h ∧ SH h
/-- slots that no answer rests on -/
def scr (a k : Int) : Prop := a = 58 ∨ (a = 59 ∧ k = 2) ∨ (61 ≤ a ∧ a ≤ 70) ∨ (137 ≤ a ∧ a ≤ 148) ∨ (a = 149 ∧ 11 ≤ k) ∨ a = 151 ∨ a = 152 ∨ 158 ≤ a
def FR (h h' : am_F) : Prop := ∀ a k, ¬ scr a k → h' a k = h a k
theorem FR_r (h : am_F) : FR h h := fun _ _ _ => rfl
theorem FR_t {h h1 h2 : am_F} (a : FR h h1) (b : FR h1 h2) : FR h h2 := fun c k q => by rw [b c k q, a c k q]
theorem FR_1 {h h' : am_F} (a : FR h h') : h' (-1) = h (-1) := funext fun k => a (-1) k (by unfold scr; omega)
theorem FR_tR {h h' : am_F} (ht : tR h h') : FR h h' := fun a k q => by rw [ht a (fun e => q (by unfold scr; omega))]
theorem FR_tS {h h' : am_F} (ht : tS h h') : FR h h' := fun a k q => by rw [ht a (fun e => q (by unfold scr; omega))]
theorem FR_scT {h h' : am_F} (ht : scT h h') : FR h h' := fun a k q => by
  by_cases e : a = 149
  · subst e
    exact ht.2 k (fun e => q (by unfold scr; omega)) (fun e => q (by unfold scr; omega))
  · rw [ht.1 a (fun e => q (by unfold scr; omega)) e]
/-- the world is moved, or stays: each of its four parts from another store -/
theorem WX_mv {h h' : am_F} {d d' c c' : Int} (ha : ∀ a k, lv a k → h' (a + d') k = h (a + d) k) (hc : ∀ k : Int, 0 ≤ k → k < 238 → h' c' k = h c k) (hW : WX h d c) : WX h' d' c' := by
  obtain ⟨n, nb, L, s, K, nx, hW⟩ := hW
  exact ⟨n, nb, L, s, K, nx, WD_mv ha hc hW⟩
theorem KP_c {h h' : am_F} (ha : ∀ a k, lv a k → h' (a + -79) k = h (a + -79) k) (hc : ∀ k : Int, 0 ≤ k → k < 238 → h' 153 k = h 153 k) (h0 : h' 0 2 = h 0 2) (h4 : h' 149 4 = h 149 4) (hK : KP h) : KP h' := by
  obtain ⟨k1, k2⟩ := hK
  refine ⟨by rw [h0, h4]; exact k1, ?_⟩
  rw [h4]
  exact k2.imp id (fun z => ⟨z.1, WX_mv ha hc z.2⟩)
theorem TP_c {h h' : am_F} (h1 : h' 59 1 = h 59 1) (h2 : h' 149 6 = h 149 6) (h3 : ∀ i : Int, 0 ≤ i → h' 60 i = h 60 i) (h4 : ∀ i : Int, 0 ≤ i → h' 154 i = h 154 i) (hT : TP h) : TP h' := by
  obtain ⟨l, a1, a2, a3, a4⟩ := hT
  refine ⟨l, a1, by rw [h1]; exact a2, by rw [h2]; exact a3, fun i hi => ?_⟩
  rw [h3 i (by omega), h4 i (by omega)]
  exact a4 i hi
theorem SH_c {h h' : am_F} (ha : ∀ a k : Int, 72 ≤ a → a ≤ 79 → 0 ≤ k → h' a k = h a k) (hb : ∀ a k : Int, 155 ≤ a → a ≤ 157 → 0 ≤ k → h' a k = h a k) (hS : SH h) : SH h' := by
  intro q hq
  have := hS q hq
  unfold SQ at this ⊢
  rw [ha (72 + 2 * q) 3 (by omega) (by omega) (by omega), ha (72 + 2 * q) 1 (by omega) (by omega) (by omega), ha (72 + 2 * q) 2 (by omega) (by omega) (by omega), hb 156 q (by omega) (by omega) (by omega), hb 155 q (by omega) (by omega) (by omega)]
  refine ⟨this.1, this.2.1, this.2.2.1, fun i hi => ?_⟩
  rw [ha (73 + 2 * q) i (by omega) (by omega) (by omega), hb 157 (24 * q + i) (by omega) (by omega) (by omega)]
  exact this.2.2.2 i hi
theorem INV_FR {h h' : am_F} (hI : INV h) (hF : FR h h') : INV h' := by
  obtain ⟨i1, i2, i3, i4⟩ := hI
  refine ⟨WX_mv (fun a k q => hF _ _ ?_) (fun k _ _ => hF _ _ ?_) i1, KP_c (fun a k q => hF _ _ ?_) (fun k _ _ => hF _ _ ?_) (hF _ _ ?_) (hF _ _ ?_) i2, TP_c (hF _ _ ?_) (hF _ _ ?_) (fun i _ => hF _ _ ?_) (fun i _ => hF _ _ ?_) i3, SH_c (fun a k _ _ _ => hF _ _ ?_) (fun a k _ _ _ => hF _ _ ?_) i4⟩
  all_goals (unfold scr; try unfold lv at q)
  all_goals omega
/-- a call on both sides: like answers, the invariant behind it, the script as it was -/
def Both (mT mR : Nat) (LT LR : List am_V) (h : am_F) : Prop := wp mT (am_ju mT 0) LT [] (sT h) (fun r st => ∃ v h1, r = aI v ∧ st = sT h1 ∧ h1 (-1) = h (-1) ∧ wp mR (am_ju mR 0) LR [] (sT h1) (fun r st => ∃ h2, r = aI v ∧ st = sT h2 ∧ h2 (-1) = h (-1) ∧ INV h2))

section CLS
variable {m : Nat} {is : List am_I} {L S : List am_V} {h : am_F} {Q : am_V → am_S → Prop} {x y z : Int}
theorem cl_0 {v0 : Int} (hk : kd v0 = 2) (h8 : am_w8 S = true) : wp m (CALL 0 1 x y z :: is) L (aP v0 :: S) (sT h) Q ↔ wp 0 (am_ju 0 0) [aP v0] [] (sT h) (fun r s' => wp m is L (am_pu r S) s' Q) := r_CALL (m' := 0) (As := [aP v0]) rfl rfl rfl h8 (by show (true && (false || (true && am_is (sT h) v0 2))) = true; rw [show am_is (sT h) v0 2 = true from kd_is hk (by decide) h]; rfl)
theorem cl_1 {v0 : Int} (hk : kd v0 = 8) (h8 : am_w8 S = true) : wp m (CALL 1 1 x y z :: is) L (aP v0 :: S) (sT h) Q ↔ wp 1 (am_ju 1 0) [aP v0] [] (sT h) (fun r s' => wp m is L (am_pu r S) s' Q) := r_CALL (m' := 1) (As := [aP v0]) rfl rfl rfl h8 (by show (true && (false || (true && am_is (sT h) v0 8))) = true; rw [show am_is (sT h) v0 8 = true from kd_is hk (by decide) h]; rfl)
theorem cl_2 {v0 : Int} (hk : kd v0 = 3) (h8 : am_w8 S = true) : wp m (CALL 2 1 x y z :: is) L (aP v0 :: S) (sT h) Q ↔ wp 2 (am_ju 2 0) [aP v0] [] (sT h) (fun r s' => wp m is L (am_pu r S) s' Q) := r_CALL (m' := 2) (As := [aP v0]) rfl rfl rfl h8 (by show (true && (false || (true && am_is (sT h) v0 3))) = true; rw [show am_is (sT h) v0 3 = true from kd_is hk (by decide) h]; rfl)
theorem cl_3 {v0 : Int} (hk : kd v0 = 5) (h8 : am_w8 S = true) : wp m (CALL 3 1 x y z :: is) L (aP v0 :: S) (sT h) Q ↔ wp 3 (am_ju 3 0) [aP v0, aX] [] (sT h) (fun r s' => wp m is L (am_pu r S) s' Q) := r_CALL (m' := 3) (As := [aP v0]) rfl rfl rfl h8 (by show (true && (false || (true && am_is (sT h) v0 5))) = true; rw [show am_is (sT h) v0 5 = true from kd_is hk (by decide) h]; rfl)
theorem cl_4 {v0 : Int} (hk : kd v0 = 9) (h8 : am_w8 S = true) : wp m (CALL 4 1 x y z :: is) L (aP v0 :: S) (sT h) Q ↔ wp 4 (am_ju 4 0) [aP v0] [] (sT h) (fun r s' => wp m is L (am_pu r S) s' Q) := r_CALL (m' := 4) (As := [aP v0]) rfl rfl rfl h8 (by show (true && (false || (true && am_is (sT h) v0 9))) = true; rw [show am_is (sT h) v0 9 = true from kd_is hk (by decide) h]; rfl)
theorem cl_5 {v0 : Int} (hk : kd v0 = 0) (h8 : am_w8 S = true) : wp m (CALL 5 1 x y z :: is) L (aP v0 :: S) (sT h) Q ↔ wp 5 (am_ju 5 0) [aP v0] [] (sT h) (fun r s' => wp m is L (am_pu r S) s' Q) := r_CALL (m' := 5) (As := [aP v0]) rfl rfl rfl h8 (by show (true && (false || (true && am_is (sT h) v0 0))) = true; rw [show am_is (sT h) v0 0 = true from kd_is hk (by decide) h]; rfl)
theorem cl_6 {v0 : Int} (hk : kd v0 = 7) (h8 : am_w8 S = true) : wp m (CALL 6 1 x y z :: is) L (aP v0 :: S) (sT h) Q ↔ wp 6 (am_ju 6 0) [aP v0] [] (sT h) (fun r s' => wp m is L (am_pu r S) s' Q) := r_CALL (m' := 6) (As := [aP v0]) rfl rfl rfl h8 (by show (true && (false || (true && am_is (sT h) v0 7))) = true; rw [show am_is (sT h) v0 7 = true from kd_is hk (by decide) h]; rfl)
theorem cl_7 {v0 : Int} (hk : kd v0 = 6) (h8 : am_w8 S = true) : wp m (CALL 7 1 x y z :: is) L (aP v0 :: S) (sT h) Q ↔ wp 7 (am_ju 7 0) [aP v0] [] (sT h) (fun r s' => wp m is L (am_pu r S) s' Q) := r_CALL (m' := 7) (As := [aP v0]) rfl rfl rfl h8 (by show (true && (false || (true && am_is (sT h) v0 6))) = true; rw [show am_is (sT h) v0 6 = true from kd_is hk (by decide) h]; rfl)
theorem cl_8 {v0 v1 : Int} (hk : kd v0 = 4) (h8 : am_w8 S = true) : wp m (CALL 8 2 x y z :: is) L (aP v1 :: aP v0 :: S) (sT h) Q ↔ wp 8 (am_ju 8 0) [aP v0, aP v1] [] (sT h) (fun r s' => wp m is L (am_pu r S) s' Q) := r_CALL (m' := 8) (As := [aP v0, aP v1]) rfl rfl rfl h8 (by show (true && (false || (true && am_is (sT h) v0 4))) = true; rw [show am_is (sT h) v0 4 = true from kd_is hk (by decide) h]; rfl)
theorem cl_9 {v0 v1 : Int} (hk : kd v0 = 1) (h8 : am_w8 S = true) : wp m (CALL 9 2 x y z :: is) L (aP v1 :: aP v0 :: S) (sT h) Q ↔ wp 9 (am_ju 9 0) [aP v0, aP v1] [] (sT h) (fun r s' => wp m is L (am_pu r S) s' Q) := r_CALL (m' := 9) (As := [aP v0, aP v1]) rfl rfl rfl h8 (by show (true && (false || (true && am_is (sT h) v0 1))) = true; rw [show am_is (sT h) v0 1 = true from kd_is hk (by decide) h]; rfl)
theorem cl_10 {v0 : Int} (hk : kd v0 = 10) (h8 : am_w8 S = true) : wp m (CALL 10 1 x y z :: is) L (aP v0 :: S) (sT h) Q ↔ wp 10 (am_ju 10 0) [aP v0, aX] [] (sT h) (fun r s' => wp m is L (am_pu r S) s' Q) := r_CALL (m' := 10) (As := [aP v0]) rfl rfl rfl h8 (by show (true && (false || (true && am_is (sT h) v0 10))) = true; rw [show am_is (sT h) v0 10 = true from kd_is hk (by decide) h]; rfl)
theorem cl_11 {v0 : Int} (hk : kd v0 = 11) (h8 : am_w8 S = true) : wp m (CALL 11 1 x y z :: is) L (aP v0 :: S) (sT h) Q ↔ wp 11 (am_ju 11 0) [aP v0, aX] [] (sT h) (fun r s' => wp m is L (am_pu r S) s' Q) := r_CALL (m' := 11) (As := [aP v0]) rfl rfl rfl h8 (by show (true && (false || (true && am_is (sT h) v0 11))) = true; rw [show am_is (sT h) v0 11 = true from kd_is hk (by decide) h]; rfl)
theorem cl_12 {v0 v1 : Int} (h8 : am_w8 S = true) : wp m (CALL 12 2 x y z :: is) L (aI v1 :: aI v0 :: S) (sT h) Q ↔ wp 12 (am_ju 12 0) [aI v0, aI v1] [] (sT h) (fun r s' => wp m is L (am_pu r S) s' Q) := r_CALL (m' := 12) (As := [aI v0, aI v1]) rfl rfl rfl h8 rfl
theorem cl_13 {v0 v1 : Int} (hk : kd v0 = 3) (h8 : am_w8 S = true) : wp m (CALL 13 2 x y z :: is) L (aI v1 :: aP v0 :: S) (sT h) Q ↔ wp 13 (am_ju 13 0) [aP v0, aI v1] [] (sT h) (fun r s' => wp m is L (am_pu r S) s' Q) := r_CALL (m' := 13) (As := [aP v0, aI v1]) rfl rfl rfl h8 (by show (true && (false || (true && am_is (sT h) v0 3))) = true; rw [show am_is (sT h) v0 3 = true from kd_is hk (by decide) h]; rfl)
theorem cl_14 {v0 v1 : Int} (hk : kd v0 = 2) (h8 : am_w8 S = true) : wp m (CALL 14 2 x y z :: is) L (aI v1 :: aP v0 :: S) (sT h) Q ↔ wp 14 (am_ju 14 0) [aP v0, aI v1] [] (sT h) (fun r s' => wp m is L (am_pu r S) s' Q) := r_CALL (m' := 14) (As := [aP v0, aI v1]) rfl rfl rfl h8 (by show (true && (false || (true && am_is (sT h) v0 2))) = true; rw [show am_is (sT h) v0 2 = true from kd_is hk (by decide) h]; rfl)
theorem cl_15 {v0 v1 : Int} (hk : kd v0 = 9) (h8 : am_w8 S = true) : wp m (CALL 15 2 x y z :: is) L (aI v1 :: aP v0 :: S) (sT h) Q ↔ wp 15 (am_ju 15 0) [aP v0, aI v1] [] (sT h) (fun r s' => wp m is L (am_pu r S) s' Q) := r_CALL (m' := 15) (As := [aP v0, aI v1]) rfl rfl rfl h8 (by show (true && (false || (true && am_is (sT h) v0 9))) = true; rw [show am_is (sT h) v0 9 = true from kd_is hk (by decide) h]; rfl)
theorem cl_16 {v0 v1 : Int} (hk : kd v0 = 10) (h8 : am_w8 S = true) : wp m (CALL 16 2 x y z :: is) L (aI v1 :: aP v0 :: S) (sT h) Q ↔ wp 16 (am_ju 16 0) [aP v0, aI v1] [] (sT h) (fun r s' => wp m is L (am_pu r S) s' Q) := r_CALL (m' := 16) (As := [aP v0, aI v1]) rfl rfl rfl h8 (by show (true && (false || (true && am_is (sT h) v0 10))) = true; rw [show am_is (sT h) v0 10 = true from kd_is hk (by decide) h]; rfl)
theorem cl_17 {v0 v1 v2 : Int} (h8 : am_w8 S = true) : wp m (CALL 17 3 x y z :: is) L (aI v2 :: aI v1 :: aI v0 :: S) (sT h) Q ↔ wp 17 (am_ju 17 0) [aI v0, aI v1, aI v2] [] (sT h) (fun r s' => wp m is L (am_pu r S) s' Q) := r_CALL (m' := 17) (As := [aI v0, aI v1, aI v2]) rfl rfl rfl h8 rfl
theorem cl_18 {v0 : Int} (h8 : am_w8 S = true) : wp m (CALL 18 1 x y z :: is) L (aI v0 :: S) (sT h) Q ↔ wp 18 (am_ju 18 0) [aI v0] [] (sT h) (fun r s' => wp m is L (am_pu r S) s' Q) := r_CALL (m' := 18) (As := [aI v0]) rfl rfl rfl h8 rfl
theorem cl_19 {v0 v1 : Int} (h8 : am_w8 S = true) : wp m (CALL 19 2 x y z :: is) L (aI v1 :: aP v0 :: S) (sT h) Q ↔ wp 19 (am_ju 19 0) [aP v0, aI v1, aX] [] (sT h) (fun r s' => wp m is L (am_pu r S) s' Q) := r_CALL (m' := 19) (As := [aP v0, aI v1]) rfl rfl rfl h8 rfl
theorem cl_20 {v0 v1 : Int} (hk : kd v0 = 11) (h8 : am_w8 S = true) : wp m (CALL 20 2 x y z :: is) L (aI v1 :: aP v0 :: S) (sT h) Q ↔ wp 20 (am_ju 20 0) [aP v0, aI v1] [] (sT h) (fun r s' => wp m is L (am_pu r S) s' Q) := r_CALL (m' := 20) (As := [aP v0, aI v1]) rfl rfl rfl h8 (by show (true && (false || (true && am_is (sT h) v0 11))) = true; rw [show am_is (sT h) v0 11 = true from kd_is hk (by decide) h]; rfl)
theorem cl_21 {v0 v1 v2 : Int} (hk : kd v0 = 3) (h8 : am_w8 S = true) : wp m (CALL 21 3 x y z :: is) L (aI v2 :: aI v1 :: aP v0 :: S) (sT h) Q ↔ wp 21 (am_ju 21 0) [aP v0, aI v1, aI v2, aX] [] (sT h) (fun r s' => wp m is L (am_pu r S) s' Q) := r_CALL (m' := 21) (As := [aP v0, aI v1, aI v2]) rfl rfl rfl h8 (by show (true && (false || (true && am_is (sT h) v0 3))) = true; rw [show am_is (sT h) v0 3 = true from kd_is hk (by decide) h]; rfl)
theorem cl_22 {v0 v1 v2 v3 v4 v5 : Int} (hk : kd v0 = 2) (h8 : am_w8 S = true) : wp m (CALL 22 6 x y z :: is) L (aI v5 :: aI v4 :: aI v3 :: aI v2 :: aI v1 :: aP v0 :: S) (sT h) Q ↔ wp 22 (am_ju 22 0) [aP v0, aI v1, aI v2, aI v3, aI v4, aI v5] [] (sT h) (fun r s' => wp m is L (am_pu r S) s' Q) := r_CALL (m' := 22) (As := [aP v0, aI v1, aI v2, aI v3, aI v4, aI v5]) rfl rfl rfl h8 (by show (true && (false || (true && am_is (sT h) v0 2))) = true; rw [show am_is (sT h) v0 2 = true from kd_is hk (by decide) h]; rfl)
theorem cl_23 {v0 v1 v2 v3 v4 v5 : Int} (hk : kd v0 = 9) (h8 : am_w8 S = true) : wp m (CALL 23 6 x y z :: is) L (aI v5 :: aI v4 :: aI v3 :: aI v2 :: aI v1 :: aP v0 :: S) (sT h) Q ↔ wp 23 (am_ju 23 0) [aP v0, aI v1, aI v2, aI v3, aI v4, aI v5] [] (sT h) (fun r s' => wp m is L (am_pu r S) s' Q) := r_CALL (m' := 23) (As := [aP v0, aI v1, aI v2, aI v3, aI v4, aI v5]) rfl rfl rfl h8 (by show (true && (false || (true && am_is (sT h) v0 9))) = true; rw [show am_is (sT h) v0 9 = true from kd_is hk (by decide) h]; rfl)
theorem cl_24 {v0 v1 v2 v3 v4 v5 : Int} (hk : kd v0 = 10) (h8 : am_w8 S = true) : wp m (CALL 24 6 x y z :: is) L (aI v5 :: aI v4 :: aI v3 :: aI v2 :: aI v1 :: aP v0 :: S) (sT h) Q ↔ wp 24 (am_ju 24 0) [aP v0, aI v1, aI v2, aI v3, aI v4, aI v5] [] (sT h) (fun r s' => wp m is L (am_pu r S) s' Q) := r_CALL (m' := 24) (As := [aP v0, aI v1, aI v2, aI v3, aI v4, aI v5]) rfl rfl rfl h8 (by show (true && (false || (true && am_is (sT h) v0 10))) = true; rw [show am_is (sT h) v0 10 = true from kd_is hk (by decide) h]; rfl)
theorem cl_25 {v0 : Int} (h8 : am_w8 S = true) : wp m (CALL 25 1 x y z :: is) L (aI v0 :: S) (sT h) Q ↔ wp 25 (am_ju 25 0) [aI v0] [] (sT h) (fun r s' => wp m is L (am_pu r S) s' Q) := r_CALL (m' := 25) (As := [aI v0]) rfl rfl rfl h8 rfl
theorem cl_26 {v0 v1 v2 v3 v4 v5 : Int} (hk : kd v0 = 11) (h8 : am_w8 S = true) : wp m (CALL 26 6 x y z :: is) L (aI v5 :: aI v4 :: aI v3 :: aI v2 :: aI v1 :: aP v0 :: S) (sT h) Q ↔ wp 26 (am_ju 26 0) [aP v0, aI v1, aI v2, aI v3, aI v4, aI v5, aX] [] (sT h) (fun r s' => wp m is L (am_pu r S) s' Q) := r_CALL (m' := 26) (As := [aP v0, aI v1, aI v2, aI v3, aI v4, aI v5]) rfl rfl rfl h8 (by show (true && (false || (true && am_is (sT h) v0 11))) = true; rw [show am_is (sT h) v0 11 = true from kd_is hk (by decide) h]; rfl)
theorem cl_27 {v0 v1 : Int} (hk : kd v0 = 2) (h8 : am_w8 S = true) : wp m (CALL 27 2 x y z :: is) L (aI v1 :: aP v0 :: S) (sT h) Q ↔ wp 27 (am_ju 27 0) [aP v0, aI v1] [] (sT h) (fun r s' => wp m is L (am_pu r S) s' Q) := r_CALL (m' := 27) (As := [aP v0, aI v1]) rfl rfl rfl h8 (by show (true && (false || (true && am_is (sT h) v0 2))) = true; rw [show am_is (sT h) v0 2 = true from kd_is hk (by decide) h]; rfl)
theorem cl_28 {v0 v1 : Int} (hk : kd v0 = 2) (h8 : am_w8 S = true) : wp m (CALL 28 2 x y z :: is) L (aI v1 :: aP v0 :: S) (sT h) Q ↔ wp 28 (am_ju 28 0) [aP v0, aI v1] [] (sT h) (fun r s' => wp m is L (am_pu r S) s' Q) := r_CALL (m' := 28) (As := [aP v0, aI v1]) rfl rfl rfl h8 (by show (true && (false || (true && am_is (sT h) v0 2))) = true; rw [show am_is (sT h) v0 2 = true from kd_is hk (by decide) h]; rfl)
theorem cl_29 {v0 v1 : Int} (h8 : am_w8 S = true) : wp m (CALL 29 2 x y z :: is) L (aI v1 :: aI v0 :: S) (sT h) Q ↔ wp 29 (am_ju 29 0) [aI v0, aI v1] [] (sT h) (fun r s' => wp m is L (am_pu r S) s' Q) := r_CALL (m' := 29) (As := [aI v0, aI v1]) rfl rfl rfl h8 rfl
theorem cl_30 {v0 : Int} (h8 : am_w8 S = true) : wp m (CALL 30 1 x y z :: is) L (aI v0 :: S) (sT h) Q ↔ wp 30 (am_ju 30 0) [aI v0] [] (sT h) (fun r s' => wp m is L (am_pu r S) s' Q) := r_CALL (m' := 30) (As := [aI v0]) rfl rfl rfl h8 rfl
theorem cl_31 {v0 v1 v2 : Int} (hk : kd v0 = 10) (h8 : am_w8 S = true) : wp m (CALL 31 3 x y z :: is) L (aI v2 :: aI v1 :: aP v0 :: S) (sT h) Q ↔ wp 31 (am_ju 31 0) [aP v0, aI v1, aI v2] [] (sT h) (fun r s' => wp m is L (am_pu r S) s' Q) := r_CALL (m' := 31) (As := [aP v0, aI v1, aI v2]) rfl rfl rfl h8 (by show (true && (false || (true && am_is (sT h) v0 10))) = true; rw [show am_is (sT h) v0 10 = true from kd_is hk (by decide) h]; rfl)
theorem cl_32 {v0 v1 : Int} (hk : kd v0 = 11) (h8 : am_w8 S = true) : wp m (CALL 32 2 x y z :: is) L (aI v1 :: aP v0 :: S) (sT h) Q ↔ wp 32 (am_ju 32 0) [aP v0, aI v1] [] (sT h) (fun r s' => wp m is L (am_pu r S) s' Q) := r_CALL (m' := 32) (As := [aP v0, aI v1]) rfl rfl rfl h8 (by show (true && (false || (true && am_is (sT h) v0 11))) = true; rw [show am_is (sT h) v0 11 = true from kd_is hk (by decide) h]; rfl)
theorem cl_33 {v0 v1 : Int} (hk : kd v0 = 11) (h8 : am_w8 S = true) : wp m (CALL 33 2 x y z :: is) L (aI v1 :: aP v0 :: S) (sT h) Q ↔ wp 33 (am_ju 33 0) [aP v0, aI v1] [] (sT h) (fun r s' => wp m is L (am_pu r S) s' Q) := r_CALL (m' := 33) (As := [aP v0, aI v1]) rfl rfl rfl h8 (by show (true && (false || (true && am_is (sT h) v0 11))) = true; rw [show am_is (sT h) v0 11 = true from kd_is hk (by decide) h]; rfl)
theorem cl_34 {v0 v1 : Int} (h8 : am_w8 S = true) : wp m (CALL 34 2 x y z :: is) L (aI v1 :: aI v0 :: S) (sT h) Q ↔ wp 34 (am_ju 34 0) [aI v0, aI v1] [] (sT h) (fun r s' => wp m is L (am_pu r S) s' Q) := r_CALL (m' := 34) (As := [aI v0, aI v1]) rfl rfl rfl h8 rfl
theorem cl_35 {v0 v1 : Int} (hk : kd v0 = 11) (h8 : am_w8 S = true) : wp m (CALL 35 2 x y z :: is) L (aI v1 :: aP v0 :: S) (sT h) Q ↔ wp 35 (am_ju 35 0) [aP v0, aI v1, aX] [] (sT h) (fun r s' => wp m is L (am_pu r S) s' Q) := r_CALL (m' := 35) (As := [aP v0, aI v1]) rfl rfl rfl h8 (by show (true && (false || (true && am_is (sT h) v0 11))) = true; rw [show am_is (sT h) v0 11 = true from kd_is hk (by decide) h]; rfl)
theorem cl_36 {v0 v1 v2 : Int} (hk : kd v0 = 11) (h8 : am_w8 S = true) : wp m (CALL 36 3 x y z :: is) L (aI v2 :: aI v1 :: aP v0 :: S) (sT h) Q ↔ wp 36 (am_ju 36 0) [aP v0, aI v1, aI v2, aX] [] (sT h) (fun r s' => wp m is L (am_pu r S) s' Q) := r_CALL (m' := 36) (As := [aP v0, aI v1, aI v2]) rfl rfl rfl h8 (by show (true && (false || (true && am_is (sT h) v0 11))) = true; rw [show am_is (sT h) v0 11 = true from kd_is hk (by decide) h]; rfl)
theorem cl_37 {v0 v1 : Int} (hk : kd v0 = 10) (h8 : am_w8 S = true) : wp m (CALL 37 2 x y z :: is) L (aI v1 :: aP v0 :: S) (sT h) Q ↔ wp 37 (am_ju 37 0) [aP v0, aI v1] [] (sT h) (fun r s' => wp m is L (am_pu r S) s' Q) := r_CALL (m' := 37) (As := [aP v0, aI v1]) rfl rfl rfl h8 (by show (true && (false || (true && am_is (sT h) v0 10))) = true; rw [show am_is (sT h) v0 10 = true from kd_is hk (by decide) h]; rfl)
theorem cl_38 {v0 v1 : Int} (hk : kd v0 = 11) (h8 : am_w8 S = true) : wp m (CALL 38 2 x y z :: is) L (aI v1 :: aP v0 :: S) (sT h) Q ↔ wp 38 (am_ju 38 0) [aP v0, aI v1, aX] [] (sT h) (fun r s' => wp m is L (am_pu r S) s' Q) := r_CALL (m' := 38) (As := [aP v0, aI v1]) rfl rfl rfl h8 (by show (true && (false || (true && am_is (sT h) v0 11))) = true; rw [show am_is (sT h) v0 11 = true from kd_is hk (by decide) h]; rfl)
theorem cl_39 {v0 v1 : Int} (hk : kd v0 = 9) (h8 : am_w8 S = true) : wp m (CALL 39 2 x y z :: is) L (aI v1 :: aP v0 :: S) (sT h) Q ↔ wp 39 (am_ju 39 0) [aP v0, aI v1, aX, aX] [] (sT h) (fun r s' => wp m is L (am_pu r S) s' Q) := r_CALL (m' := 39) (As := [aP v0, aI v1]) rfl rfl rfl h8 (by show (true && (false || (true && am_is (sT h) v0 9))) = true; rw [show am_is (sT h) v0 9 = true from kd_is hk (by decide) h]; rfl)
theorem cl_40 {v0 v1 : Int} (h8 : am_w8 S = true) : wp m (CALL 40 2 x y z :: is) L (aI v1 :: aP v0 :: S) (sT h) Q ↔ wp 40 (am_ju 40 0) [aP v0, aI v1, aX, aX] [] (sT h) (fun r s' => wp m is L (am_pu r S) s' Q) := r_CALL (m' := 40) (As := [aP v0, aI v1]) rfl rfl rfl h8 rfl
theorem cl_41 {v0 v1 v2 : Int} (hk : kd v0 = 0) (h8 : am_w8 S = true) : wp m (CALL 41 3 x y z :: is) L (aI v2 :: aP v1 :: aP v0 :: S) (sT h) Q ↔ wp 41 (am_ju 41 0) [aP v0, aP v1, aI v2] [] (sT h) (fun r s' => wp m is L (am_pu r S) s' Q) := r_CALL (m' := 41) (As := [aP v0, aP v1, aI v2]) rfl rfl rfl h8 (by show (true && (false || (true && am_is (sT h) v0 0))) = true; rw [show am_is (sT h) v0 0 = true from kd_is hk (by decide) h]; rfl)
theorem cl_42 {v0 v1 v2 v3 : Int} (hk : kd v0 = 9) (h8 : am_w8 S = true) : wp m (CALL 42 4 x y z :: is) L (aI v3 :: aI v2 :: aP v1 :: aP v0 :: S) (sT h) Q ↔ wp 42 (am_ju 42 0) [aP v0, aP v1, aI v2, aI v3] [] (sT h) (fun r s' => wp m is L (am_pu r S) s' Q) := r_CALL (m' := 42) (As := [aP v0, aP v1, aI v2, aI v3]) rfl rfl rfl h8 (by show (true && (false || (true && am_is (sT h) v0 9))) = true; rw [show am_is (sT h) v0 9 = true from kd_is hk (by decide) h]; rfl)
theorem cl_43 {v0 : Int} (hk : kd v0 = 0) (h8 : am_w8 S = true) : wp m (CALL 43 1 x y z :: is) L (aP v0 :: S) (sT h) Q ↔ wp 43 (am_ju 43 0) [aP v0] [] (sT h) (fun r s' => wp m is L (am_pu r S) s' Q) := r_CALL (m' := 43) (As := [aP v0]) rfl rfl rfl h8 (by show (true && (false || (true && am_is (sT h) v0 0))) = true; rw [show am_is (sT h) v0 0 = true from kd_is hk (by decide) h]; rfl)
theorem cl_44 {v0 v1 v2 : Int} (hk : kd v0 = 10) (h8 : am_w8 S = true) : wp m (CALL 44 3 x y z :: is) L (aI v2 :: aI v1 :: aP v0 :: S) (sT h) Q ↔ wp 44 (am_ju 44 0) [aP v0, aI v1, aI v2] [] (sT h) (fun r s' => wp m is L (am_pu r S) s' Q) := r_CALL (m' := 44) (As := [aP v0, aI v1, aI v2]) rfl rfl rfl h8 (by show (true && (false || (true && am_is (sT h) v0 10))) = true; rw [show am_is (sT h) v0 10 = true from kd_is hk (by decide) h]; rfl)
theorem cl_45 {v0 v1 : Int} (h8 : am_w8 S = true) : wp m (CALL 45 2 x y z :: is) L (aI v1 :: aP v0 :: S) (sT h) Q ↔ wp 45 (am_ju 45 0) [aP v0, aI v1, aX, aX] [] (sT h) (fun r s' => wp m is L (am_pu r S) s' Q) := r_CALL (m' := 45) (As := [aP v0, aI v1]) rfl rfl rfl h8 rfl
theorem cl_46 {v0 v1 v2 : Int} (h8 : am_w8 S = true) : wp m (CALL 46 3 x y z :: is) L (aI v2 :: aI v1 :: aP v0 :: S) (sT h) Q ↔ wp 46 (am_ju 46 0) [aP v0, aI v1, aI v2, aX, aX] [] (sT h) (fun r s' => wp m is L (am_pu r S) s' Q) := r_CALL (m' := 46) (As := [aP v0, aI v1, aI v2]) rfl rfl rfl h8 rfl
theorem cl_47 {v0 v1 : Int} (h8 : am_w8 S = true) : wp m (CALL 47 2 x y z :: is) L (aI v1 :: aP v0 :: S) (sT h) Q ↔ wp 47 (am_ju 47 0) [aP v0, aI v1] [] (sT h) (fun r s' => wp m is L (am_pu r S) s' Q) := r_CALL (m' := 47) (As := [aP v0, aI v1]) rfl rfl rfl h8 rfl
theorem cl_48 {v0 v1 v2 : Int} (hk : kd v0 = 11) (h8 : am_w8 S = true) : wp m (CALL 48 3 x y z :: is) L (aI v2 :: aI v1 :: aP v0 :: S) (sT h) Q ↔ wp 48 (am_ju 48 0) [aP v0, aI v1, aI v2] [] (sT h) (fun r s' => wp m is L (am_pu r S) s' Q) := r_CALL (m' := 48) (As := [aP v0, aI v1, aI v2]) rfl rfl rfl h8 (by show (true && (false || (true && am_is (sT h) v0 11))) = true; rw [show am_is (sT h) v0 11 = true from kd_is hk (by decide) h]; rfl)
theorem cl_49 {v0 v1 : Int} (hk : kd v0 = 0) (h8 : am_w8 S = true) : wp m (CALL 49 2 x y z :: is) L (aI v1 :: aP v0 :: S) (sT h) Q ↔ wp 49 (am_ju 49 0) [aP v0, aI v1] [] (sT h) (fun r s' => wp m is L (am_pu r S) s' Q) := r_CALL (m' := 49) (As := [aP v0, aI v1]) rfl rfl rfl h8 (by show (true && (false || (true && am_is (sT h) v0 0))) = true; rw [show am_is (sT h) v0 0 = true from kd_is hk (by decide) h]; rfl)
theorem cl_50 {v0 v1 : Int} (hk : kd v0 = 0) (h8 : am_w8 S = true) : wp m (CALL 50 2 x y z :: is) L (aI v1 :: aP v0 :: S) (sT h) Q ↔ wp 50 (am_ju 50 0) [aP v0, aI v1] [] (sT h) (fun r s' => wp m is L (am_pu r S) s' Q) := r_CALL (m' := 50) (As := [aP v0, aI v1]) rfl rfl rfl h8 (by show (true && (false || (true && am_is (sT h) v0 0))) = true; rw [show am_is (sT h) v0 0 = true from kd_is hk (by decide) h]; rfl)
theorem cl_51 {v0 v1 : Int} (hk : kd v0 = 0) (h8 : am_w8 S = true) : wp m (CALL 51 2 x y z :: is) L (aI v1 :: aP v0 :: S) (sT h) Q ↔ wp 51 (am_ju 51 0) [aP v0, aI v1] [] (sT h) (fun r s' => wp m is L (am_pu r S) s' Q) := r_CALL (m' := 51) (As := [aP v0, aI v1]) rfl rfl rfl h8 (by show (true && (false || (true && am_is (sT h) v0 0))) = true; rw [show am_is (sT h) v0 0 = true from kd_is hk (by decide) h]; rfl)
theorem cl_52 {v0 v1 v2 : Int} (hk : kd v0 = 10) (h8 : am_w8 S = true) : wp m (CALL 52 3 x y z :: is) L (aI v2 :: aI v1 :: aP v0 :: S) (sT h) Q ↔ wp 52 (am_ju 52 0) [aP v0, aI v1, aI v2] [] (sT h) (fun r s' => wp m is L (am_pu r S) s' Q) := r_CALL (m' := 52) (As := [aP v0, aI v1, aI v2]) rfl rfl rfl h8 (by show (true && (false || (true && am_is (sT h) v0 10))) = true; rw [show am_is (sT h) v0 10 = true from kd_is hk (by decide) h]; rfl)
theorem cl_53 {v0 v1 v2 : Int} (h8 : am_w8 S = true) : wp m (CALL 53 3 x y z :: is) L (aI v2 :: aI v1 :: aP v0 :: S) (sT h) Q ↔ wp 53 (am_ju 53 0) [aP v0, aI v1, aI v2, aX, aX, aX] [] (sT h) (fun r s' => wp m is L (am_pu r S) s' Q) := r_CALL (m' := 53) (As := [aP v0, aI v1, aI v2]) rfl rfl rfl h8 rfl
theorem cl_54 {v0 v1 v2 : Int} (hk : kd v0 = 11) (h8 : am_w8 S = true) : wp m (CALL 54 3 x y z :: is) L (aI v2 :: aI v1 :: aP v0 :: S) (sT h) Q ↔ wp 54 (am_ju 54 0) [aP v0, aI v1, aI v2] [] (sT h) (fun r s' => wp m is L (am_pu r S) s' Q) := r_CALL (m' := 54) (As := [aP v0, aI v1, aI v2]) rfl rfl rfl h8 (by show (true && (false || (true && am_is (sT h) v0 11))) = true; rw [show am_is (sT h) v0 11 = true from kd_is hk (by decide) h]; rfl)
theorem cl_55 {v0 : Int} (h8 : am_w8 S = true) : wp m (CALL 55 1 x y z :: is) L (aI v0 :: S) (sT h) Q ↔ wp 55 (am_ju 55 0) [aI v0] [] (sT h) (fun r s' => wp m is L (am_pu r S) s' Q) := r_CALL (m' := 55) (As := [aI v0]) rfl rfl rfl h8 rfl
theorem cl_56 {v0 v1 v2 : Int} (hk : kd v0 = 0) (h8 : am_w8 S = true) : wp m (CALL 56 3 x y z :: is) L (aI v2 :: aI v1 :: aP v0 :: S) (sT h) Q ↔ wp 56 (am_ju 56 0) [aP v0, aI v1, aI v2, aX, aX] [] (sT h) (fun r s' => wp m is L (am_pu r S) s' Q) := r_CALL (m' := 56) (As := [aP v0, aI v1, aI v2]) rfl rfl rfl h8 (by show (true && (false || (true && am_is (sT h) v0 0))) = true; rw [show am_is (sT h) v0 0 = true from kd_is hk (by decide) h]; rfl)
theorem cl_57 {v0 v1 v2 v3 : Int} (hk : kd v0 = 10) (h8 : am_w8 S = true) : wp m (CALL 57 4 x y z :: is) L (aI v3 :: aI v2 :: aI v1 :: aP v0 :: S) (sT h) Q ↔ wp 57 (am_ju 57 0) [aP v0, aI v1, aI v2, aI v3] [] (sT h) (fun r s' => wp m is L (am_pu r S) s' Q) := r_CALL (m' := 57) (As := [aP v0, aI v1, aI v2, aI v3]) rfl rfl rfl h8 (by show (true && (false || (true && am_is (sT h) v0 10))) = true; rw [show am_is (sT h) v0 10 = true from kd_is hk (by decide) h]; rfl)
theorem cl_58 {v0 v1 v2 v3 : Int} (h8 : am_w8 S = true) : wp m (CALL 58 4 x y z :: is) L (aI v3 :: aI v2 :: aI v1 :: aP v0 :: S) (sT h) Q ↔ wp 58 (am_ju 58 0) [aP v0, aI v1, aI v2, aI v3, aX, aX, aX] [] (sT h) (fun r s' => wp m is L (am_pu r S) s' Q) := r_CALL (m' := 58) (As := [aP v0, aI v1, aI v2, aI v3]) rfl rfl rfl h8 rfl
theorem cl_59 {v0 v1 v2 v3 : Int} (hk : kd v0 = 11) (h8 : am_w8 S = true) : wp m (CALL 59 4 x y z :: is) L (aI v3 :: aI v2 :: aI v1 :: aP v0 :: S) (sT h) Q ↔ wp 59 (am_ju 59 0) [aP v0, aI v1, aI v2, aI v3] [] (sT h) (fun r s' => wp m is L (am_pu r S) s' Q) := r_CALL (m' := 59) (As := [aP v0, aI v1, aI v2, aI v3]) rfl rfl rfl h8 (by show (true && (false || (true && am_is (sT h) v0 11))) = true; rw [show am_is (sT h) v0 11 = true from kd_is hk (by decide) h]; rfl)
theorem cl_60 {v0 v1 v2 : Int} (hk : kd v0 = 10) (h8 : am_w8 S = true) : wp m (CALL 60 3 x y z :: is) L (aI v2 :: aI v1 :: aP v0 :: S) (sT h) Q ↔ wp 60 (am_ju 60 0) [aP v0, aI v1, aI v2, aX] [] (sT h) (fun r s' => wp m is L (am_pu r S) s' Q) := r_CALL (m' := 60) (As := [aP v0, aI v1, aI v2]) rfl rfl rfl h8 (by show (true && (false || (true && am_is (sT h) v0 10))) = true; rw [show am_is (sT h) v0 10 = true from kd_is hk (by decide) h]; rfl)
theorem cl_61 {v0 v1 v2 : Int} (hk : kd v0 = 11) (h8 : am_w8 S = true) : wp m (CALL 61 3 x y z :: is) L (aI v2 :: aI v1 :: aP v0 :: S) (sT h) Q ↔ wp 61 (am_ju 61 0) [aP v0, aI v1, aI v2] [] (sT h) (fun r s' => wp m is L (am_pu r S) s' Q) := r_CALL (m' := 61) (As := [aP v0, aI v1, aI v2]) rfl rfl rfl h8 (by show (true && (false || (true && am_is (sT h) v0 11))) = true; rw [show am_is (sT h) v0 11 = true from kd_is hk (by decide) h]; rfl)
theorem cl_62 {v0 v1 v2 v3 : Int} (hk : kd v0 = 10) (h8 : am_w8 S = true) : wp m (CALL 62 4 x y z :: is) L (aI v3 :: aI v2 :: aI v1 :: aP v0 :: S) (sT h) Q ↔ wp 62 (am_ju 62 0) [aP v0, aI v1, aI v2, aI v3, aX, aX] [] (sT h) (fun r s' => wp m is L (am_pu r S) s' Q) := r_CALL (m' := 62) (As := [aP v0, aI v1, aI v2, aI v3]) rfl rfl rfl h8 (by show (true && (false || (true && am_is (sT h) v0 10))) = true; rw [show am_is (sT h) v0 10 = true from kd_is hk (by decide) h]; rfl)
theorem cl_63 {v0 v1 v2 v3 : Int} (hk : kd v0 = 11) (h8 : am_w8 S = true) : wp m (CALL 63 4 x y z :: is) L (aI v3 :: aI v2 :: aI v1 :: aP v0 :: S) (sT h) Q ↔ wp 63 (am_ju 63 0) [aP v0, aI v1, aI v2, aI v3, aX] [] (sT h) (fun r s' => wp m is L (am_pu r S) s' Q) := r_CALL (m' := 63) (As := [aP v0, aI v1, aI v2, aI v3]) rfl rfl rfl h8 (by show (true && (false || (true && am_is (sT h) v0 11))) = true; rw [show am_is (sT h) v0 11 = true from kd_is hk (by decide) h]; rfl)
theorem cl_64 {v0 v1 : Int} (hk : kd v0 = 7) (h8 : am_w8 S = true) : wp m (CALL 64 2 x y z :: is) L (aI v1 :: aP v0 :: S) (sT h) Q ↔ wp 64 (am_ju 64 0) [aP v0, aI v1] [] (sT h) (fun r s' => wp m is L (am_pu r S) s' Q) := r_CALL (m' := 64) (As := [aP v0, aI v1]) rfl rfl rfl h8 (by show (true && (false || (true && am_is (sT h) v0 7))) = true; rw [show am_is (sT h) v0 7 = true from kd_is hk (by decide) h]; rfl)
theorem cl_65 {v0 v1 : Int} (hk : kd v0 = 10) (h8 : am_w8 S = true) : wp m (CALL 65 2 x y z :: is) L (aI v1 :: aP v0 :: S) (sT h) Q ↔ wp 65 (am_ju 65 0) [aP v0, aI v1] [] (sT h) (fun r s' => wp m is L (am_pu r S) s' Q) := r_CALL (m' := 65) (As := [aP v0, aI v1]) rfl rfl rfl h8 (by show (true && (false || (true && am_is (sT h) v0 10))) = true; rw [show am_is (sT h) v0 10 = true from kd_is hk (by decide) h]; rfl)
theorem cl_66 {v0 v1 : Int} (hk : kd v0 = 11) (h8 : am_w8 S = true) : wp m (CALL 66 2 x y z :: is) L (aI v1 :: aP v0 :: S) (sT h) Q ↔ wp 66 (am_ju 66 0) [aP v0, aI v1] [] (sT h) (fun r s' => wp m is L (am_pu r S) s' Q) := r_CALL (m' := 66) (As := [aP v0, aI v1]) rfl rfl rfl h8 (by show (true && (false || (true && am_is (sT h) v0 11))) = true; rw [show am_is (sT h) v0 11 = true from kd_is hk (by decide) h]; rfl)
theorem cl_67 {v0 : Int} (hk : kd v0 = 7) (h8 : am_w8 S = true) : wp m (CALL 67 1 x y z :: is) L (aP v0 :: S) (sT h) Q ↔ wp 67 (am_ju 67 0) [aP v0] [] (sT h) (fun r s' => wp m is L (am_pu r S) s' Q) := r_CALL (m' := 67) (As := [aP v0]) rfl rfl rfl h8 (by show (true && (false || (true && am_is (sT h) v0 7))) = true; rw [show am_is (sT h) v0 7 = true from kd_is hk (by decide) h]; rfl)
theorem cl_68 {v0 : Int} (h8 : am_w8 S = true) : wp m (CALL 68 1 x y z :: is) L (aI v0 :: S) (sT h) Q ↔ wp 68 (am_ju 68 0) [aI v0] [] (sT h) (fun r s' => wp m is L (am_pu r S) s' Q) := r_CALL (m' := 68) (As := [aI v0]) rfl rfl rfl h8 rfl
theorem cl_69 {v0 : Int} (hk : kd v0 = 7) (h8 : am_w8 S = true) : wp m (CALL 69 1 x y z :: is) L (aP v0 :: S) (sT h) Q ↔ wp 69 (am_ju 69 0) [aP v0] [] (sT h) (fun r s' => wp m is L (am_pu r S) s' Q) := r_CALL (m' := 69) (As := [aP v0]) rfl rfl rfl h8 (by show (true && (false || (true && am_is (sT h) v0 7))) = true; rw [show am_is (sT h) v0 7 = true from kd_is hk (by decide) h]; rfl)
theorem cl_70 {v0 v1 : Int} (hk : kd v0 = 7) (h8 : am_w8 S = true) : wp m (CALL 70 2 x y z :: is) L (aP v1 :: aP v0 :: S) (sT h) Q ↔ wp 70 (am_ju 70 0) [aP v0, aP v1, aX, aX] [] (sT h) (fun r s' => wp m is L (am_pu r S) s' Q) := r_CALL (m' := 70) (As := [aP v0, aP v1]) rfl rfl rfl h8 (by show (true && (false || (true && am_is (sT h) v0 7))) = true; rw [show am_is (sT h) v0 7 = true from kd_is hk (by decide) h]; rfl)
theorem cl_71 {v0 v1 : Int} (h8 : am_w8 S = true) : wp m (CALL 71 2 x y z :: is) L (aP v1 :: aP v0 :: S) (sT h) Q ↔ wp 71 (am_ju 71 0) [aP v0, aP v1] [] (sT h) (fun r s' => wp m is L (am_pu r S) s' Q) := r_CALL (m' := 71) (As := [aP v0, aP v1]) rfl rfl rfl h8 rfl
theorem cl_72 {v0 v1 : Int} (hk : kd v0 = 8) (h8 : am_w8 S = true) : wp m (CALL 72 2 x y z :: is) L (aP v1 :: aP v0 :: S) (sT h) Q ↔ wp 72 (am_ju 72 0) [aP v0, aP v1] [] (sT h) (fun r s' => wp m is L (am_pu r S) s' Q) := r_CALL (m' := 72) (As := [aP v0, aP v1]) rfl rfl rfl h8 (by show (true && (false || (true && am_is (sT h) v0 8))) = true; rw [show am_is (sT h) v0 8 = true from kd_is hk (by decide) h]; rfl)
theorem cl_73 {v0 v1 : Int} (hk : kd v0 = 9) (h8 : am_w8 S = true) : wp m (CALL 73 2 x y z :: is) L (aP v1 :: aP v0 :: S) (sT h) Q ↔ wp 73 (am_ju 73 0) [aP v0, aP v1] [] (sT h) (fun r s' => wp m is L (am_pu r S) s' Q) := r_CALL (m' := 73) (As := [aP v0, aP v1]) rfl rfl rfl h8 (by show (true && (false || (true && am_is (sT h) v0 9))) = true; rw [show am_is (sT h) v0 9 = true from kd_is hk (by decide) h]; rfl)
theorem cl_74 {v0 : Int} (hk : kd v0 = 10) (h8 : am_w8 S = true) : wp m (CALL 74 1 x y z :: is) L (aP v0 :: S) (sT h) Q ↔ wp 74 (am_ju 74 0) [aP v0, aX] [] (sT h) (fun r s' => wp m is L (am_pu r S) s' Q) := r_CALL (m' := 74) (As := [aP v0]) rfl rfl rfl h8 (by show (true && (false || (true && am_is (sT h) v0 10))) = true; rw [show am_is (sT h) v0 10 = true from kd_is hk (by decide) h]; rfl)
theorem cl_75 {v0 : Int} (hk : kd v0 = 11) (h8 : am_w8 S = true) : wp m (CALL 75 1 x y z :: is) L (aP v0 :: S) (sT h) Q ↔ wp 75 (am_ju 75 0) [aP v0] [] (sT h) (fun r s' => wp m is L (am_pu r S) s' Q) := r_CALL (m' := 75) (As := [aP v0]) rfl rfl rfl h8 (by show (true && (false || (true && am_is (sT h) v0 11))) = true; rw [show am_is (sT h) v0 11 = true from kd_is hk (by decide) h]; rfl)
theorem cl_76 {v0 : Int} (h8 : am_w8 S = true) : wp m (CALL 76 1 x y z :: is) L (aI v0 :: S) (sT h) Q ↔ wp 76 (am_ju 76 0) [aI v0] [] (sT h) (fun r s' => wp m is L (am_pu r S) s' Q) := r_CALL (m' := 76) (As := [aI v0]) rfl rfl rfl h8 rfl
theorem cl_77 {v0 v1 : Int} (hk : kd v0 = 11) (h8 : am_w8 S = true) : wp m (CALL 77 2 x y z :: is) L (aI v1 :: aP v0 :: S) (sT h) Q ↔ wp 77 (am_ju 77 0) [aP v0, aI v1] [] (sT h) (fun r s' => wp m is L (am_pu r S) s' Q) := r_CALL (m' := 77) (As := [aP v0, aI v1]) rfl rfl rfl h8 (by show (true && (false || (true && am_is (sT h) v0 11))) = true; rw [show am_is (sT h) v0 11 = true from kd_is hk (by decide) h]; rfl)
theorem cl_78 {v0 : Int} (hk : kd v0 = 11) (h8 : am_w8 S = true) : wp m (CALL 78 1 x y z :: is) L (aP v0 :: S) (sT h) Q ↔ wp 78 (am_ju 78 0) [aP v0, aX, aX, aX] [] (sT h) (fun r s' => wp m is L (am_pu r S) s' Q) := r_CALL (m' := 78) (As := [aP v0]) rfl rfl rfl h8 (by show (true && (false || (true && am_is (sT h) v0 11))) = true; rw [show am_is (sT h) v0 11 = true from kd_is hk (by decide) h]; rfl)
theorem cl_79 {v0 v1 : Int} (h8 : am_w8 S = true) : wp m (CALL 79 2 x y z :: is) L (aI v1 :: aP v0 :: S) (sT h) Q ↔ wp 79 (am_ju 79 0) [aP v0, aI v1, aX, aX] [] (sT h) (fun r s' => wp m is L (am_pu r S) s' Q) := r_CALL (m' := 79) (As := [aP v0, aI v1]) rfl rfl rfl h8 rfl
theorem cl_80 {v0 : Int} (h8 : am_w8 S = true) : wp m (CALL 80 1 x y z :: is) L (aI v0 :: S) (sT h) Q ↔ wp 80 (am_ju 80 0) [aI v0] [] (sT h) (fun r s' => wp m is L (am_pu r S) s' Q) := r_CALL (m' := 80) (As := [aI v0]) rfl rfl rfl h8 rfl
theorem cl_81 {v0 v1 : Int} (hk : kd v0 = 7) (h8 : am_w8 S = true) : wp m (CALL 81 2 x y z :: is) L (aP v1 :: aP v0 :: S) (sT h) Q ↔ wp 81 (am_ju 81 0) [aP v0, aP v1, aX, aX, aX] [] (sT h) (fun r s' => wp m is L (am_pu r S) s' Q) := r_CALL (m' := 81) (As := [aP v0, aP v1]) rfl rfl rfl h8 (by show (true && (false || (true && am_is (sT h) v0 7))) = true; rw [show am_is (sT h) v0 7 = true from kd_is hk (by decide) h]; rfl)
theorem cl_82 {v0 : Int} (hk : kd v0 = 7) (h8 : am_w8 S = true) : wp m (CALL 82 1 x y z :: is) L (aP v0 :: S) (sT h) Q ↔ wp 82 (am_ju 82 0) [aP v0, aX, aX] [] (sT h) (fun r s' => wp m is L (am_pu r S) s' Q) := r_CALL (m' := 82) (As := [aP v0]) rfl rfl rfl h8 (by show (true && (false || (true && am_is (sT h) v0 7))) = true; rw [show am_is (sT h) v0 7 = true from kd_is hk (by decide) h]; rfl)
theorem cl_83 {v0 v1 v2 v3 : Int} (hk : kd v0 = 7) (h8 : am_w8 S = true) : wp m (CALL 83 4 x y z :: is) L (aI v3 :: aI v2 :: aI v1 :: aP v0 :: S) (sT h) Q ↔ wp 83 (am_ju 83 0) [aP v0, aI v1, aI v2, aI v3, aX] [] (sT h) (fun r s' => wp m is L (am_pu r S) s' Q) := r_CALL (m' := 83) (As := [aP v0, aI v1, aI v2, aI v3]) rfl rfl rfl h8 (by show (true && (false || (true && am_is (sT h) v0 7))) = true; rw [show am_is (sT h) v0 7 = true from kd_is hk (by decide) h]; rfl)
theorem cl_84 {v0 v1 : Int} (hk : kd v0 = 7) (h8 : am_w8 S = true) : wp m (CALL 84 2 x y z :: is) L (aP v1 :: aP v0 :: S) (sT h) Q ↔ wp 84 (am_ju 84 0) [aP v0, aP v1, aX, aX, aX, aX, aX] [] (sT h) (fun r s' => wp m is L (am_pu r S) s' Q) := r_CALL (m' := 84) (As := [aP v0, aP v1]) rfl rfl rfl h8 (by show (true && (false || (true && am_is (sT h) v0 7))) = true; rw [show am_is (sT h) v0 7 = true from kd_is hk (by decide) h]; rfl)
theorem cl_85 {v0 v1 v2 : Int} (hk : kd v0 = 7) (h8 : am_w8 S = true) : wp m (CALL 85 3 x y z :: is) L (aP v2 :: aP v1 :: aP v0 :: S) (sT h) Q ↔ wp 85 (am_ju 85 0) [aP v0, aP v1, aP v2, aX, aX] [] (sT h) (fun r s' => wp m is L (am_pu r S) s' Q) := r_CALL (m' := 85) (As := [aP v0, aP v1, aP v2]) rfl rfl rfl h8 (by show (true && (false || (true && am_is (sT h) v0 7))) = true; rw [show am_is (sT h) v0 7 = true from kd_is hk (by decide) h]; rfl)
theorem cl_86 {v0 v1 v2 : Int} (hk : kd v0 = 7) (h8 : am_w8 S = true) : wp m (CALL 86 3 x y z :: is) L (aP v2 :: aP v1 :: aP v0 :: S) (sT h) Q ↔ wp 86 (am_ju 86 0) [aP v0, aP v1, aP v2] [] (sT h) (fun r s' => wp m is L (am_pu r S) s' Q) := r_CALL (m' := 86) (As := [aP v0, aP v1, aP v2]) rfl rfl rfl h8 (by show (true && (false || (true && am_is (sT h) v0 7))) = true; rw [show am_is (sT h) v0 7 = true from kd_is hk (by decide) h]; rfl)
theorem cl_87 {v0 v1 : Int} (hk : kd v0 = 2) (h8 : am_w8 S = true) : wp m (CALL 87 2 x y z :: is) L (aP v1 :: aP v0 :: S) (sT h) Q ↔ wp 87 (am_ju 87 0) [aP v0, aP v1] [] (sT h) (fun r s' => wp m is L (am_pu r S) s' Q) := r_CALL (m' := 87) (As := [aP v0, aP v1]) rfl rfl rfl h8 (by show (true && (false || (true && am_is (sT h) v0 2))) = true; rw [show am_is (sT h) v0 2 = true from kd_is hk (by decide) h]; rfl)
theorem cl_88 {v0 v1 v2 : Int} (hk : kd v0 = 9) (h8 : am_w8 S = true) : wp m (CALL 88 3 x y z :: is) L (aP v2 :: aP v1 :: aP v0 :: S) (sT h) Q ↔ wp 88 (am_ju 88 0) [aP v0, aP v1, aP v2, aX] [] (sT h) (fun r s' => wp m is L (am_pu r S) s' Q) := r_CALL (m' := 88) (As := [aP v0, aP v1, aP v2]) rfl rfl rfl h8 (by show (true && (false || (true && am_is (sT h) v0 9))) = true; rw [show am_is (sT h) v0 9 = true from kd_is hk (by decide) h]; rfl)
theorem cl_89 {v0 : Int} (hk : kd v0 = 10) (h8 : am_w8 S = true) : wp m (CALL 89 1 x y z :: is) L (aP v0 :: S) (sT h) Q ↔ wp 89 (am_ju 89 0) [aP v0, aX] [] (sT h) (fun r s' => wp m is L (am_pu r S) s' Q) := r_CALL (m' := 89) (As := [aP v0]) rfl rfl rfl h8 (by show (true && (false || (true && am_is (sT h) v0 10))) = true; rw [show am_is (sT h) v0 10 = true from kd_is hk (by decide) h]; rfl)
theorem cl_90 {v0 v1 : Int} (h8 : am_w8 S = true) : wp m (CALL 90 2 x y z :: is) L (aP v1 :: aP v0 :: S) (sT h) Q ↔ wp 90 (am_ju 90 0) [aP v0, aP v1, aX] [] (sT h) (fun r s' => wp m is L (am_pu r S) s' Q) := r_CALL (m' := 90) (As := [aP v0, aP v1]) rfl rfl rfl h8 rfl
theorem cl_91 {v0 : Int} (h8 : am_w8 S = true) : wp m (CALL 91 1 x y z :: is) L (aI v0 :: S) (sT h) Q ↔ wp 91 (am_ju 91 0) [aI v0] [] (sT h) (fun r s' => wp m is L (am_pu r S) s' Q) := r_CALL (m' := 91) (As := [aI v0]) rfl rfl rfl h8 rfl
theorem cl_92 {v0 : Int} (hk : kd v0 = 11) (h8 : am_w8 S = true) : wp m (CALL 92 1 x y z :: is) L (aP v0 :: S) (sT h) Q ↔ wp 92 (am_ju 92 0) [aP v0, aX] [] (sT h) (fun r s' => wp m is L (am_pu r S) s' Q) := r_CALL (m' := 92) (As := [aP v0]) rfl rfl rfl h8 (by show (true && (false || (true && am_is (sT h) v0 11))) = true; rw [show am_is (sT h) v0 11 = true from kd_is hk (by decide) h]; rfl)
theorem cl_93 {v0 v1 : Int} (hk : kd v0 = 11) (h8 : am_w8 S = true) : wp m (CALL 93 2 x y z :: is) L (aI v1 :: aP v0 :: S) (sT h) Q ↔ wp 93 (am_ju 93 0) [aP v0, aI v1] [] (sT h) (fun r s' => wp m is L (am_pu r S) s' Q) := r_CALL (m' := 93) (As := [aP v0, aI v1]) rfl rfl rfl h8 (by show (true && (false || (true && am_is (sT h) v0 11))) = true; rw [show am_is (sT h) v0 11 = true from kd_is hk (by decide) h]; rfl)
theorem cl_94 {v0 : Int} (hk : kd v0 = 11) (h8 : am_w8 S = true) : wp m (CALL 94 1 x y z :: is) L (aP v0 :: S) (sT h) Q ↔ wp 94 (am_ju 94 0) [aP v0, aX, aX] [] (sT h) (fun r s' => wp m is L (am_pu r S) s' Q) := r_CALL (m' := 94) (As := [aP v0]) rfl rfl rfl h8 (by show (true && (false || (true && am_is (sT h) v0 11))) = true; rw [show am_is (sT h) v0 11 = true from kd_is hk (by decide) h]; rfl)
theorem cl_95 {v0 v1 : Int} (hk : kd v0 = 11) (h8 : am_w8 S = true) : wp m (CALL 95 2 x y z :: is) L (aI v1 :: aP v0 :: S) (sT h) Q ↔ wp 95 (am_ju 95 0) [aP v0, aI v1, aX] [] (sT h) (fun r s' => wp m is L (am_pu r S) s' Q) := r_CALL (m' := 95) (As := [aP v0, aI v1]) rfl rfl rfl h8 (by show (true && (false || (true && am_is (sT h) v0 11))) = true; rw [show am_is (sT h) v0 11 = true from kd_is hk (by decide) h]; rfl)
theorem cl_96 {v0 v1 v2 : Int} (hk : kd v0 = 11) (h8 : am_w8 S = true) : wp m (CALL 96 3 x y z :: is) L (aI v2 :: aI v1 :: aP v0 :: S) (sT h) Q ↔ wp 96 (am_ju 96 0) [aP v0, aI v1, aI v2] [] (sT h) (fun r s' => wp m is L (am_pu r S) s' Q) := r_CALL (m' := 96) (As := [aP v0, aI v1, aI v2]) rfl rfl rfl h8 (by show (true && (false || (true && am_is (sT h) v0 11))) = true; rw [show am_is (sT h) v0 11 = true from kd_is hk (by decide) h]; rfl)
theorem cl_97 {v0 : Int} (hk : kd v0 = 11) (h8 : am_w8 S = true) : wp m (CALL 97 1 x y z :: is) L (aP v0 :: S) (sT h) Q ↔ wp 97 (am_ju 97 0) [aP v0, aX, aX, aX, aX, aX] [] (sT h) (fun r s' => wp m is L (am_pu r S) s' Q) := r_CALL (m' := 97) (As := [aP v0]) rfl rfl rfl h8 (by show (true && (false || (true && am_is (sT h) v0 11))) = true; rw [show am_is (sT h) v0 11 = true from kd_is hk (by decide) h]; rfl)
theorem cl_98 {v0 : Int} (hk : kd v0 = 11) (h8 : am_w8 S = true) : wp m (CALL 98 1 x y z :: is) L (aP v0 :: S) (sT h) Q ↔ wp 98 (am_ju 98 0) [aP v0] [] (sT h) (fun r s' => wp m is L (am_pu r S) s' Q) := r_CALL (m' := 98) (As := [aP v0]) rfl rfl rfl h8 (by show (true && (false || (true && am_is (sT h) v0 11))) = true; rw [show am_is (sT h) v0 11 = true from kd_is hk (by decide) h]; rfl)
theorem cl_99 {v0 : Int} (hk : kd v0 = 11) (h8 : am_w8 S = true) : wp m (CALL 99 1 x y z :: is) L (aP v0 :: S) (sT h) Q ↔ wp 99 (am_ju 99 0) [aP v0] [] (sT h) (fun r s' => wp m is L (am_pu r S) s' Q) := r_CALL (m' := 99) (As := [aP v0]) rfl rfl rfl h8 (by show (true && (false || (true && am_is (sT h) v0 11))) = true; rw [show am_is (sT h) v0 11 = true from kd_is hk (by decide) h]; rfl)
theorem cl_100 {v0 v1 : Int} (hk : kd v0 = 8) (h8 : am_w8 S = true) : wp m (CALL 100 2 x y z :: is) L (aI v1 :: aP v0 :: S) (sT h) Q ↔ wp 100 (am_ju 100 0) [aP v0, aI v1] [] (sT h) (fun r s' => wp m is L (am_pu r S) s' Q) := r_CALL (m' := 100) (As := [aP v0, aI v1]) rfl rfl rfl h8 (by show (true && (false || (true && am_is (sT h) v0 8))) = true; rw [show am_is (sT h) v0 8 = true from kd_is hk (by decide) h]; rfl)
theorem cl_101 {v0 v1 : Int} (hk : kd v0 = 10) (h8 : am_w8 S = true) : wp m (CALL 101 2 x y z :: is) L (aI v1 :: aP v0 :: S) (sT h) Q ↔ wp 101 (am_ju 101 0) [aP v0, aI v1] [] (sT h) (fun r s' => wp m is L (am_pu r S) s' Q) := r_CALL (m' := 101) (As := [aP v0, aI v1]) rfl rfl rfl h8 (by show (true && (false || (true && am_is (sT h) v0 10))) = true; rw [show am_is (sT h) v0 10 = true from kd_is hk (by decide) h]; rfl)
theorem cl_102 {v0 v1 : Int} (hk : kd v0 = 11) (h8 : am_w8 S = true) : wp m (CALL 102 2 x y z :: is) L (aI v1 :: aP v0 :: S) (sT h) Q ↔ wp 102 (am_ju 102 0) [aP v0, aI v1] [] (sT h) (fun r s' => wp m is L (am_pu r S) s' Q) := r_CALL (m' := 102) (As := [aP v0, aI v1]) rfl rfl rfl h8 (by show (true && (false || (true && am_is (sT h) v0 11))) = true; rw [show am_is (sT h) v0 11 = true from kd_is hk (by decide) h]; rfl)
theorem cl_103 {v0 : Int} (hk : kd v0 = 9) (h8 : am_w8 S = true) : wp m (CALL 103 1 x y z :: is) L (aP v0 :: S) (sT h) Q ↔ wp 103 (am_ju 103 0) [aP v0, aX, aX] [] (sT h) (fun r s' => wp m is L (am_pu r S) s' Q) := r_CALL (m' := 103) (As := [aP v0]) rfl rfl rfl h8 (by show (true && (false || (true && am_is (sT h) v0 9))) = true; rw [show am_is (sT h) v0 9 = true from kd_is hk (by decide) h]; rfl)
theorem cl_104 {v0 v1 : Int} (hk : kd v0 = 8) (h8 : am_w8 S = true) : wp m (CALL 104 2 x y z :: is) L (aI v1 :: aP v0 :: S) (sT h) Q ↔ wp 104 (am_ju 104 0) [aP v0, aI v1, aX, aX] [] (sT h) (fun r s' => wp m is L (am_pu r S) s' Q) := r_CALL (m' := 104) (As := [aP v0, aI v1]) rfl rfl rfl h8 (by show (true && (false || (true && am_is (sT h) v0 8))) = true; rw [show am_is (sT h) v0 8 = true from kd_is hk (by decide) h]; rfl)
theorem cl_105 {v0 v1 : Int} (hk : kd v0 = 10) (h8 : am_w8 S = true) : wp m (CALL 105 2 x y z :: is) L (aI v1 :: aP v0 :: S) (sT h) Q ↔ wp 105 (am_ju 105 0) [aP v0, aI v1] [] (sT h) (fun r s' => wp m is L (am_pu r S) s' Q) := r_CALL (m' := 105) (As := [aP v0, aI v1]) rfl rfl rfl h8 (by show (true && (false || (true && am_is (sT h) v0 10))) = true; rw [show am_is (sT h) v0 10 = true from kd_is hk (by decide) h]; rfl)
theorem cl_106 {v0 : Int} (hk : kd v0 = 11) (h8 : am_w8 S = true) : wp m (CALL 106 1 x y z :: is) L (aP v0 :: S) (sT h) Q ↔ wp 106 (am_ju 106 0) [aP v0, aX, aX] [] (sT h) (fun r s' => wp m is L (am_pu r S) s' Q) := r_CALL (m' := 106) (As := [aP v0]) rfl rfl rfl h8 (by show (true && (false || (true && am_is (sT h) v0 11))) = true; rw [show am_is (sT h) v0 11 = true from kd_is hk (by decide) h]; rfl)
theorem cl_107 {v0 : Int} (hk : kd v0 = 11) (h8 : am_w8 S = true) : wp m (CALL 107 1 x y z :: is) L (aP v0 :: S) (sT h) Q ↔ wp 107 (am_ju 107 0) [aP v0, aX, aX] [] (sT h) (fun r s' => wp m is L (am_pu r S) s' Q) := r_CALL (m' := 107) (As := [aP v0]) rfl rfl rfl h8 (by show (true && (false || (true && am_is (sT h) v0 11))) = true; rw [show am_is (sT h) v0 11 = true from kd_is hk (by decide) h]; rfl)
theorem cl_108 {v0 v1 : Int} (hk : kd v0 = 11) (h8 : am_w8 S = true) : wp m (CALL 108 2 x y z :: is) L (aI v1 :: aP v0 :: S) (sT h) Q ↔ wp 108 (am_ju 108 0) [aP v0, aI v1] [] (sT h) (fun r s' => wp m is L (am_pu r S) s' Q) := r_CALL (m' := 108) (As := [aP v0, aI v1]) rfl rfl rfl h8 (by show (true && (false || (true && am_is (sT h) v0 11))) = true; rw [show am_is (sT h) v0 11 = true from kd_is hk (by decide) h]; rfl)
theorem cl_109 {v0 : Int} (hk : kd v0 = 9) (h8 : am_w8 S = true) : wp m (CALL 109 1 x y z :: is) L (aP v0 :: S) (sT h) Q ↔ wp 109 (am_ju 109 0) [aP v0] [] (sT h) (fun r s' => wp m is L (am_pu r S) s' Q) := r_CALL (m' := 109) (As := [aP v0]) rfl rfl rfl h8 (by show (true && (false || (true && am_is (sT h) v0 9))) = true; rw [show am_is (sT h) v0 9 = true from kd_is hk (by decide) h]; rfl)
theorem cl_110 {v0 v1 : Int} (hk : kd v0 = 3) (h8 : am_w8 S = true) : wp m (CALL 110 2 x y z :: is) L (aP v1 :: aP v0 :: S) (sT h) Q ↔ wp 110 (am_ju 110 0) [aP v0, aP v1] [] (sT h) (fun r s' => wp m is L (am_pu r S) s' Q) := r_CALL (m' := 110) (As := [aP v0, aP v1]) rfl rfl rfl h8 (by show (true && (false || (true && am_is (sT h) v0 3))) = true; rw [show am_is (sT h) v0 3 = true from kd_is hk (by decide) h]; rfl)
theorem cl_111 {v0 v1 : Int} (hk : kd v0 = 5) (h8 : am_w8 S = true) : wp m (CALL 111 2 x y z :: is) L (aP v1 :: aP v0 :: S) (sT h) Q ↔ wp 111 (am_ju 111 0) [aP v0, aP v1] [] (sT h) (fun r s' => wp m is L (am_pu r S) s' Q) := r_CALL (m' := 111) (As := [aP v0, aP v1]) rfl rfl rfl h8 (by show (true && (false || (true && am_is (sT h) v0 5))) = true; rw [show am_is (sT h) v0 5 = true from kd_is hk (by decide) h]; rfl)
theorem cl_112 {v0 : Int} (hk : kd v0 = 3) (h8 : am_w8 S = true) : wp m (CALL 112 1 x y z :: is) L (aP v0 :: S) (sT h) Q ↔ wp 112 (am_ju 112 0) [aP v0] [] (sT h) (fun r s' => wp m is L (am_pu r S) s' Q) := r_CALL (m' := 112) (As := [aP v0]) rfl rfl rfl h8 (by show (true && (false || (true && am_is (sT h) v0 3))) = true; rw [show am_is (sT h) v0 3 = true from kd_is hk (by decide) h]; rfl)
theorem cl_113 {v0 v1 v2 : Int} (hk : kd v0 = 8) (h8 : am_w8 S = true) : wp m (CALL 113 3 x y z :: is) L (aI v2 :: aI v1 :: aP v0 :: S) (sT h) Q ↔ wp 113 (am_ju 113 0) [aP v0, aI v1, aI v2] [] (sT h) (fun r s' => wp m is L (am_pu r S) s' Q) := r_CALL (m' := 113) (As := [aP v0, aI v1, aI v2]) rfl rfl rfl h8 (by show (true && (false || (true && am_is (sT h) v0 8))) = true; rw [show am_is (sT h) v0 8 = true from kd_is hk (by decide) h]; rfl)
theorem cl_114 {v0 v1 : Int} (hk : kd v0 = 0) (h8 : am_w8 S = true) : wp m (CALL 114 2 x y z :: is) L (aI v1 :: aP v0 :: S) (sT h) Q ↔ wp 114 (am_ju 114 0) [aP v0, aI v1] [] (sT h) (fun r s' => wp m is L (am_pu r S) s' Q) := r_CALL (m' := 114) (As := [aP v0, aI v1]) rfl rfl rfl h8 (by show (true && (false || (true && am_is (sT h) v0 0))) = true; rw [show am_is (sT h) v0 0 = true from kd_is hk (by decide) h]; rfl)
theorem cl_115 {v0 v1 v2 : Int} (hk : kd v0 = 0) (h8 : am_w8 S = true) : wp m (CALL 115 3 x y z :: is) L (aI v2 :: aI v1 :: aP v0 :: S) (sT h) Q ↔ wp 115 (am_ju 115 0) [aP v0, aI v1, aI v2, aX] [] (sT h) (fun r s' => wp m is L (am_pu r S) s' Q) := r_CALL (m' := 115) (As := [aP v0, aI v1, aI v2]) rfl rfl rfl h8 (by show (true && (false || (true && am_is (sT h) v0 0))) = true; rw [show am_is (sT h) v0 0 = true from kd_is hk (by decide) h]; rfl)
theorem cl_116 {v0 v1 : Int} (hk : kd v0 = 0) (h8 : am_w8 S = true) : wp m (CALL 116 2 x y z :: is) L (aI v1 :: aP v0 :: S) (sT h) Q ↔ wp 116 (am_ju 116 0) [aP v0, aI v1] [] (sT h) (fun r s' => wp m is L (am_pu r S) s' Q) := r_CALL (m' := 116) (As := [aP v0, aI v1]) rfl rfl rfl h8 (by show (true && (false || (true && am_is (sT h) v0 0))) = true; rw [show am_is (sT h) v0 0 = true from kd_is hk (by decide) h]; rfl)
theorem cl_117 {v0 v1 v2 v3 : Int} (hk : kd v0 = 0) (h8 : am_w8 S = true) : wp m (CALL 117 4 x y z :: is) L (aI v3 :: aI v2 :: aP v1 :: aP v0 :: S) (sT h) Q ↔ wp 117 (am_ju 117 0) [aP v0, aP v1, aI v2, aI v3, aX, aX] [] (sT h) (fun r s' => wp m is L (am_pu r S) s' Q) := r_CALL (m' := 117) (As := [aP v0, aP v1, aI v2, aI v3]) rfl rfl rfl h8 (by show (true && (false || (true && am_is (sT h) v0 0))) = true; rw [show am_is (sT h) v0 0 = true from kd_is hk (by decide) h]; rfl)
theorem cl_118 {v0 v1 : Int} (hk : kd v0 = 9) (h8 : am_w8 S = true) : wp m (CALL 118 2 x y z :: is) L (aP v1 :: aP v0 :: S) (sT h) Q ↔ wp 118 (am_ju 118 0) [aP v0, aP v1, aX, aX, aX, aX] [] (sT h) (fun r s' => wp m is L (am_pu r S) s' Q) := r_CALL (m' := 118) (As := [aP v0, aP v1]) rfl rfl rfl h8 (by show (true && (false || (true && am_is (sT h) v0 9))) = true; rw [show am_is (sT h) v0 9 = true from kd_is hk (by decide) h]; rfl)
theorem cl_119 {v0 : Int} (hk : kd v0 = 10) (h8 : am_w8 S = true) : wp m (CALL 119 1 x y z :: is) L (aP v0 :: S) (sT h) Q ↔ wp 119 (am_ju 119 0) [aP v0] [] (sT h) (fun r s' => wp m is L (am_pu r S) s' Q) := r_CALL (m' := 119) (As := [aP v0]) rfl rfl rfl h8 (by show (true && (false || (true && am_is (sT h) v0 10))) = true; rw [show am_is (sT h) v0 10 = true from kd_is hk (by decide) h]; rfl)
theorem cl_120 {v0 : Int} (hk : kd v0 = 11) (h8 : am_w8 S = true) : wp m (CALL 120 1 x y z :: is) L (aP v0 :: S) (sT h) Q ↔ wp 120 (am_ju 120 0) [aP v0, aX, aX] [] (sT h) (fun r s' => wp m is L (am_pu r S) s' Q) := r_CALL (m' := 120) (As := [aP v0]) rfl rfl rfl h8 (by show (true && (false || (true && am_is (sT h) v0 11))) = true; rw [show am_is (sT h) v0 11 = true from kd_is hk (by decide) h]; rfl)
theorem cl_121 {v0 v1 : Int} (h8 : am_w8 S = true) : wp m (CALL 121 2 x y z :: is) L (aI v1 :: aI v0 :: S) (sT h) Q ↔ wp 121 (am_ju 121 0) [aI v0, aI v1] [] (sT h) (fun r s' => wp m is L (am_pu r S) s' Q) := r_CALL (m' := 121) (As := [aI v0, aI v1]) rfl rfl rfl h8 rfl
theorem cl_122 {v0 v1 v2 : Int} (h8 : am_w8 S = true) : wp m (CALL 122 3 x y z :: is) L (aI v2 :: aI v1 :: aP v0 :: S) (sT h) Q ↔ wp 122 (am_ju 122 0) [aP v0, aI v1, aI v2, aX] [] (sT h) (fun r s' => wp m is L (am_pu r S) s' Q) := r_CALL (m' := 122) (As := [aP v0, aI v1, aI v2]) rfl rfl rfl h8 rfl
theorem cl_123 {v0 v1 v2 : Int} (h8 : am_w8 S = true) : wp m (CALL 123 3 x y z :: is) L (aI v2 :: aI v1 :: aP v0 :: S) (sT h) Q ↔ wp 123 (am_ju 123 0) [aP v0, aI v1, aI v2, aX, aX] [] (sT h) (fun r s' => wp m is L (am_pu r S) s' Q) := r_CALL (m' := 123) (As := [aP v0, aI v1, aI v2]) rfl rfl rfl h8 rfl
theorem cl_124 {v0 v1 v2 : Int} (h8 : am_w8 S = true) : wp m (CALL 124 3 x y z :: is) L (aI v2 :: aI v1 :: aP v0 :: S) (sT h) Q ↔ wp 124 (am_ju 124 0) [aP v0, aI v1, aI v2, aX, aX] [] (sT h) (fun r s' => wp m is L (am_pu r S) s' Q) := r_CALL (m' := 124) (As := [aP v0, aI v1, aI v2]) rfl rfl rfl h8 rfl
theorem cl_125 {v0 v1 v2 : Int} (hk : kd v0 = 11) (h8 : am_w8 S = true) : wp m (CALL 125 3 x y z :: is) L (aI v2 :: aP v1 :: aP v0 :: S) (sT h) Q ↔ wp 125 (am_ju 125 0) [aP v0, aP v1, aI v2, aX, aX, aX, aX, aX, aX, aX] [] (sT h) (fun r s' => wp m is L (am_pu r S) s' Q) := r_CALL (m' := 125) (As := [aP v0, aP v1, aI v2]) rfl rfl rfl h8 (by show (true && (false || (true && am_is (sT h) v0 11))) = true; rw [show am_is (sT h) v0 11 = true from kd_is hk (by decide) h]; rfl)
theorem cl_126 {v0 : Int} (hk : kd v0 = 11) (h8 : am_w8 S = true) : wp m (CALL 126 1 x y z :: is) L (aP v0 :: S) (sT h) Q ↔ wp 126 (am_ju 126 0) [aP v0, aX] [] (sT h) (fun r s' => wp m is L (am_pu r S) s' Q) := r_CALL (m' := 126) (As := [aP v0]) rfl rfl rfl h8 (by show (true && (false || (true && am_is (sT h) v0 11))) = true; rw [show am_is (sT h) v0 11 = true from kd_is hk (by decide) h]; rfl)
theorem cl_127 {v0 v1 : Int} (hk : kd v0 = 5) (h8 : am_w8 S = true) : wp m (CALL 127 2 x y z :: is) L (aP v1 :: aP v0 :: S) (sT h) Q ↔ wp 127 (am_ju 127 0) [aP v0, aP v1] [] (sT h) (fun r s' => wp m is L (am_pu r S) s' Q) := r_CALL (m' := 127) (As := [aP v0, aP v1]) rfl rfl rfl h8 (by show (true && (false || (true && am_is (sT h) v0 5))) = true; rw [show am_is (sT h) v0 5 = true from kd_is hk (by decide) h]; rfl)
theorem cl_128 {v0 : Int} (hk : kd v0 = 10) (h8 : am_w8 S = true) : wp m (CALL 128 1 x y z :: is) L (aP v0 :: S) (sT h) Q ↔ wp 128 (am_ju 128 0) [aP v0] [] (sT h) (fun r s' => wp m is L (am_pu r S) s' Q) := r_CALL (m' := 128) (As := [aP v0]) rfl rfl rfl h8 (by show (true && (false || (true && am_is (sT h) v0 10))) = true; rw [show am_is (sT h) v0 10 = true from kd_is hk (by decide) h]; rfl)
theorem cl_129 {v0 : Int} (hk : kd v0 = 11) (h8 : am_w8 S = true) : wp m (CALL 129 1 x y z :: is) L (aP v0 :: S) (sT h) Q ↔ wp 129 (am_ju 129 0) [aP v0, aX, aX] [] (sT h) (fun r s' => wp m is L (am_pu r S) s' Q) := r_CALL (m' := 129) (As := [aP v0]) rfl rfl rfl h8 (by show (true && (false || (true && am_is (sT h) v0 11))) = true; rw [show am_is (sT h) v0 11 = true from kd_is hk (by decide) h]; rfl)
theorem cl_130 {v0 : Int} (hk : kd v0 = 10) (h8 : am_w8 S = true) : wp m (CALL 130 1 x y z :: is) L (aP v0 :: S) (sT h) Q ↔ wp 130 (am_ju 130 0) [aP v0, aX] [] (sT h) (fun r s' => wp m is L (am_pu r S) s' Q) := r_CALL (m' := 130) (As := [aP v0]) rfl rfl rfl h8 (by show (true && (false || (true && am_is (sT h) v0 10))) = true; rw [show am_is (sT h) v0 10 = true from kd_is hk (by decide) h]; rfl)
theorem cl_131 {v0 : Int} (hk : kd v0 = 11) (h8 : am_w8 S = true) : wp m (CALL 131 1 x y z :: is) L (aP v0 :: S) (sT h) Q ↔ wp 131 (am_ju 131 0) [aP v0, aX] [] (sT h) (fun r s' => wp m is L (am_pu r S) s' Q) := r_CALL (m' := 131) (As := [aP v0]) rfl rfl rfl h8 (by show (true && (false || (true && am_is (sT h) v0 11))) = true; rw [show am_is (sT h) v0 11 = true from kd_is hk (by decide) h]; rfl)
theorem cl_132 {v0 v1 : Int} (hk : kd v0 = 10) (h8 : am_w8 S = true) : wp m (CALL 132 2 x y z :: is) L (aI v1 :: aP v0 :: S) (sT h) Q ↔ wp 132 (am_ju 132 0) [aP v0, aI v1, aX] [] (sT h) (fun r s' => wp m is L (am_pu r S) s' Q) := r_CALL (m' := 132) (As := [aP v0, aI v1]) rfl rfl rfl h8 (by show (true && (false || (true && am_is (sT h) v0 10))) = true; rw [show am_is (sT h) v0 10 = true from kd_is hk (by decide) h]; rfl)
theorem cl_133 {v0 v1 : Int} (hk : kd v0 = 11) (h8 : am_w8 S = true) : wp m (CALL 133 2 x y z :: is) L (aI v1 :: aP v0 :: S) (sT h) Q ↔ wp 133 (am_ju 133 0) [aP v0, aI v1, aX] [] (sT h) (fun r s' => wp m is L (am_pu r S) s' Q) := r_CALL (m' := 133) (As := [aP v0, aI v1]) rfl rfl rfl h8 (by show (true && (false || (true && am_is (sT h) v0 11))) = true; rw [show am_is (sT h) v0 11 = true from kd_is hk (by decide) h]; rfl)
theorem cl_134 {v0 v1 v2 v3 : Int} (hk : kd v0 = 0) (h8 : am_w8 S = true) : wp m (CALL 134 4 x y z :: is) L (aI v3 :: aI v2 :: aP v1 :: aP v0 :: S) (sT h) Q ↔ wp 134 (am_ju 134 0) [aP v0, aP v1, aI v2, aI v3, aX, aX] [] (sT h) (fun r s' => wp m is L (am_pu r S) s' Q) := r_CALL (m' := 134) (As := [aP v0, aP v1, aI v2, aI v3]) rfl rfl rfl h8 (by show (true && (false || (true && am_is (sT h) v0 0))) = true; rw [show am_is (sT h) v0 0 = true from kd_is hk (by decide) h]; rfl)
theorem cl_135 {v0 v1 v2 : Int} (hk : kd v0 = 4) (h8 : am_w8 S = true) : wp m (CALL 135 3 x y z :: is) L (aI v2 :: aI v1 :: aP v0 :: S) (sT h) Q ↔ wp 135 (am_ju 135 0) [aP v0, aI v1, aI v2, aX, aX] [] (sT h) (fun r s' => wp m is L (am_pu r S) s' Q) := r_CALL (m' := 135) (As := [aP v0, aI v1, aI v2]) rfl rfl rfl h8 (by show (true && (false || (true && am_is (sT h) v0 4))) = true; rw [show am_is (sT h) v0 4 = true from kd_is hk (by decide) h]; rfl)
theorem cl_136 {v0 : Int} (h8 : am_w8 S = true) : wp m (CALL 136 1 x y z :: is) L (aI v0 :: S) (sT h) Q ↔ wp 136 (am_ju 136 0) [aI v0] [] (sT h) (fun r s' => wp m is L (am_pu r S) s' Q) := r_CALL (m' := 136) (As := [aI v0]) rfl rfl rfl h8 rfl
theorem cl_137 {v0 v1 : Int} (hk : kd v0 = 10) (h8 : am_w8 S = true) : wp m (CALL 137 2 x y z :: is) L (aI v1 :: aP v0 :: S) (sT h) Q ↔ wp 137 (am_ju 137 0) [aP v0, aI v1] [] (sT h) (fun r s' => wp m is L (am_pu r S) s' Q) := r_CALL (m' := 137) (As := [aP v0, aI v1]) rfl rfl rfl h8 (by show (true && (false || (true && am_is (sT h) v0 10))) = true; rw [show am_is (sT h) v0 10 = true from kd_is hk (by decide) h]; rfl)
theorem cl_138 {v0 v1 : Int} (hk : kd v0 = 11) (h8 : am_w8 S = true) : wp m (CALL 138 2 x y z :: is) L (aI v1 :: aP v0 :: S) (sT h) Q ↔ wp 138 (am_ju 138 0) [aP v0, aI v1] [] (sT h) (fun r s' => wp m is L (am_pu r S) s' Q) := r_CALL (m' := 138) (As := [aP v0, aI v1]) rfl rfl rfl h8 (by show (true && (false || (true && am_is (sT h) v0 11))) = true; rw [show am_is (sT h) v0 11 = true from kd_is hk (by decide) h]; rfl)
theorem cl_139 {v0 v1 : Int} (hk : kd v0 = 11) (h8 : am_w8 S = true) : wp m (CALL 139 2 x y z :: is) L (aI v1 :: aP v0 :: S) (sT h) Q ↔ wp 139 (am_ju 139 0) [aP v0, aI v1] [] (sT h) (fun r s' => wp m is L (am_pu r S) s' Q) := r_CALL (m' := 139) (As := [aP v0, aI v1]) rfl rfl rfl h8 (by show (true && (false || (true && am_is (sT h) v0 11))) = true; rw [show am_is (sT h) v0 11 = true from kd_is hk (by decide) h]; rfl)
theorem cl_140 {v0 v1 : Int} (hk : kd v0 = 11) (h8 : am_w8 S = true) : wp m (CALL 140 2 x y z :: is) L (aI v1 :: aP v0 :: S) (sT h) Q ↔ wp 140 (am_ju 140 0) [aP v0, aI v1] [] (sT h) (fun r s' => wp m is L (am_pu r S) s' Q) := r_CALL (m' := 140) (As := [aP v0, aI v1]) rfl rfl rfl h8 (by show (true && (false || (true && am_is (sT h) v0 11))) = true; rw [show am_is (sT h) v0 11 = true from kd_is hk (by decide) h]; rfl)
theorem cl_141 {v0 : Int} (hk : kd v0 = 0) (h8 : am_w8 S = true) : wp m (CALL 141 1 x y z :: is) L (aP v0 :: S) (sT h) Q ↔ wp 141 (am_ju 141 0) [aP v0, aX] [] (sT h) (fun r s' => wp m is L (am_pu r S) s' Q) := r_CALL (m' := 141) (As := [aP v0]) rfl rfl rfl h8 (by show (true && (false || (true && am_is (sT h) v0 0))) = true; rw [show am_is (sT h) v0 0 = true from kd_is hk (by decide) h]; rfl)
theorem cl_142 {v0 v1 : Int} (hk : kd v0 = 4) (h8 : am_w8 S = true) : wp m (CALL 142 2 x y z :: is) L (aI v1 :: aP v0 :: S) (sT h) Q ↔ wp 142 (am_ju 142 0) [aP v0, aI v1, aX, aX, aX] [] (sT h) (fun r s' => wp m is L (am_pu r S) s' Q) := r_CALL (m' := 142) (As := [aP v0, aI v1]) rfl rfl rfl h8 (by show (true && (false || (true && am_is (sT h) v0 4))) = true; rw [show am_is (sT h) v0 4 = true from kd_is hk (by decide) h]; rfl)
theorem cl_143 {v0 : Int} (hk : kd v0 = 4) (h8 : am_w8 S = true) : wp m (CALL 143 1 x y z :: is) L (aP v0 :: S) (sT h) Q ↔ wp 143 (am_ju 143 0) [aP v0, aX, aX, aX] [] (sT h) (fun r s' => wp m is L (am_pu r S) s' Q) := r_CALL (m' := 143) (As := [aP v0]) rfl rfl rfl h8 (by show (true && (false || (true && am_is (sT h) v0 4))) = true; rw [show am_is (sT h) v0 4 = true from kd_is hk (by decide) h]; rfl)
theorem cl_144 {v0 v1 : Int} (hk : kd v0 = 10) (h8 : am_w8 S = true) : wp m (CALL 144 2 x y z :: is) L (aI v1 :: aP v0 :: S) (sT h) Q ↔ wp 144 (am_ju 144 0) [aP v0, aI v1, aX, aX, aX] [] (sT h) (fun r s' => wp m is L (am_pu r S) s' Q) := r_CALL (m' := 144) (As := [aP v0, aI v1]) rfl rfl rfl h8 (by show (true && (false || (true && am_is (sT h) v0 10))) = true; rw [show am_is (sT h) v0 10 = true from kd_is hk (by decide) h]; rfl)
theorem cl_145 {v0 v1 : Int} (hk : kd v0 = 11) (h8 : am_w8 S = true) : wp m (CALL 145 2 x y z :: is) L (aI v1 :: aP v0 :: S) (sT h) Q ↔ wp 145 (am_ju 145 0) [aP v0, aI v1, aX, aX] [] (sT h) (fun r s' => wp m is L (am_pu r S) s' Q) := r_CALL (m' := 145) (As := [aP v0, aI v1]) rfl rfl rfl h8 (by show (true && (false || (true && am_is (sT h) v0 11))) = true; rw [show am_is (sT h) v0 11 = true from kd_is hk (by decide) h]; rfl)
theorem cl_146 {v0 v1 : Int} (hk : kd v0 = 11) (h8 : am_w8 S = true) : wp m (CALL 146 2 x y z :: is) L (aI v1 :: aP v0 :: S) (sT h) Q ↔ wp 146 (am_ju 146 0) [aP v0, aI v1, aX, aX, aX, aX, aX, aX] [] (sT h) (fun r s' => wp m is L (am_pu r S) s' Q) := r_CALL (m' := 146) (As := [aP v0, aI v1]) rfl rfl rfl h8 (by show (true && (false || (true && am_is (sT h) v0 11))) = true; rw [show am_is (sT h) v0 11 = true from kd_is hk (by decide) h]; rfl)
theorem cl_147 {v0 : Int} (hk : kd v0 = 9) (h8 : am_w8 S = true) : wp m (CALL 147 1 x y z :: is) L (aP v0 :: S) (sT h) Q ↔ wp 147 (am_ju 147 0) [aP v0, aX] [] (sT h) (fun r s' => wp m is L (am_pu r S) s' Q) := r_CALL (m' := 147) (As := [aP v0]) rfl rfl rfl h8 (by show (true && (false || (true && am_is (sT h) v0 9))) = true; rw [show am_is (sT h) v0 9 = true from kd_is hk (by decide) h]; rfl)
theorem cl_148 {v0 : Int} (hk : kd v0 = 9) (h8 : am_w8 S = true) : wp m (CALL 148 1 x y z :: is) L (aP v0 :: S) (sT h) Q ↔ wp 148 (am_ju 148 0) [aP v0] [] (sT h) (fun r s' => wp m is L (am_pu r S) s' Q) := r_CALL (m' := 148) (As := [aP v0]) rfl rfl rfl h8 (by show (true && (false || (true && am_is (sT h) v0 9))) = true; rw [show am_is (sT h) v0 9 = true from kd_is hk (by decide) h]; rfl)
theorem cl_149 {v0 : Int} (hk : kd v0 = 4) (h8 : am_w8 S = true) : wp m (CALL 149 1 x y z :: is) L (aP v0 :: S) (sT h) Q ↔ wp 149 (am_ju 149 0) [aP v0, aX, aX] [] (sT h) (fun r s' => wp m is L (am_pu r S) s' Q) := r_CALL (m' := 149) (As := [aP v0]) rfl rfl rfl h8 (by show (true && (false || (true && am_is (sT h) v0 4))) = true; rw [show am_is (sT h) v0 4 = true from kd_is hk (by decide) h]; rfl)
theorem cl_150 {v0 v1 v2 v3 : Int} (hk : kd v0 = 4) (h8 : am_w8 S = true) : wp m (CALL 150 4 x y z :: is) L (aI v3 :: aI v2 :: aI v1 :: aP v0 :: S) (sT h) Q ↔ wp 150 (am_ju 150 0) [aP v0, aI v1, aI v2, aI v3] [] (sT h) (fun r s' => wp m is L (am_pu r S) s' Q) := r_CALL (m' := 150) (As := [aP v0, aI v1, aI v2, aI v3]) rfl rfl rfl h8 (by show (true && (false || (true && am_is (sT h) v0 4))) = true; rw [show am_is (sT h) v0 4 = true from kd_is hk (by decide) h]; rfl)
theorem cl_151 {v0 : Int} (hk : kd v0 = 4) (h8 : am_w8 S = true) : wp m (CALL 151 1 x y z :: is) L (aP v0 :: S) (sT h) Q ↔ wp 151 (am_ju 151 0) [aP v0, aX, aX, aX] [] (sT h) (fun r s' => wp m is L (am_pu r S) s' Q) := r_CALL (m' := 151) (As := [aP v0]) rfl rfl rfl h8 (by show (true && (false || (true && am_is (sT h) v0 4))) = true; rw [show am_is (sT h) v0 4 = true from kd_is hk (by decide) h]; rfl)
theorem cl_152 {v0 : Int} (hk : kd v0 = 4) (h8 : am_w8 S = true) : wp m (CALL 152 1 x y z :: is) L (aP v0 :: S) (sT h) Q ↔ wp 152 (am_ju 152 0) [aP v0, aX, aX, aX, aX] [] (sT h) (fun r s' => wp m is L (am_pu r S) s' Q) := r_CALL (m' := 152) (As := [aP v0]) rfl rfl rfl h8 (by show (true && (false || (true && am_is (sT h) v0 4))) = true; rw [show am_is (sT h) v0 4 = true from kd_is hk (by decide) h]; rfl)
theorem cl_153 {v0 v1 : Int} (hk : kd v0 = 4) (h8 : am_w8 S = true) : wp m (CALL 153 2 x y z :: is) L (aI v1 :: aP v0 :: S) (sT h) Q ↔ wp 153 (am_ju 153 0) [aP v0, aI v1, aX] [] (sT h) (fun r s' => wp m is L (am_pu r S) s' Q) := r_CALL (m' := 153) (As := [aP v0, aI v1]) rfl rfl rfl h8 (by show (true && (false || (true && am_is (sT h) v0 4))) = true; rw [show am_is (sT h) v0 4 = true from kd_is hk (by decide) h]; rfl)
theorem cl_154 {v0 : Int} (hk : kd v0 = 4) (h8 : am_w8 S = true) : wp m (CALL 154 1 x y z :: is) L (aP v0 :: S) (sT h) Q ↔ wp 154 (am_ju 154 0) [aP v0, aX, aX, aX, aX] [] (sT h) (fun r s' => wp m is L (am_pu r S) s' Q) := r_CALL (m' := 154) (As := [aP v0]) rfl rfl rfl h8 (by show (true && (false || (true && am_is (sT h) v0 4))) = true; rw [show am_is (sT h) v0 4 = true from kd_is hk (by decide) h]; rfl)
theorem cl_155 {v0 v1 : Int} (hk : kd v0 = 4) (h8 : am_w8 S = true) : wp m (CALL 155 2 x y z :: is) L (aI v1 :: aP v0 :: S) (sT h) Q ↔ wp 155 (am_ju 155 0) [aP v0, aI v1, aX] [] (sT h) (fun r s' => wp m is L (am_pu r S) s' Q) := r_CALL (m' := 155) (As := [aP v0, aI v1]) rfl rfl rfl h8 (by show (true && (false || (true && am_is (sT h) v0 4))) = true; rw [show am_is (sT h) v0 4 = true from kd_is hk (by decide) h]; rfl)
theorem cl_156 {v0 v1 : Int} (hk : kd v0 = 10) (h8 : am_w8 S = true) : wp m (CALL 156 2 x y z :: is) L (aI v1 :: aP v0 :: S) (sT h) Q ↔ wp 156 (am_ju 156 0) [aP v0, aI v1] [] (sT h) (fun r s' => wp m is L (am_pu r S) s' Q) := r_CALL (m' := 156) (As := [aP v0, aI v1]) rfl rfl rfl h8 (by show (true && (false || (true && am_is (sT h) v0 10))) = true; rw [show am_is (sT h) v0 10 = true from kd_is hk (by decide) h]; rfl)
theorem cl_157 {v0 : Int} (h8 : am_w8 S = true) : wp m (CALL 157 1 x y z :: is) L (aI v0 :: S) (sT h) Q ↔ wp 157 (am_ju 157 0) [aI v0, aX, aX] [] (sT h) (fun r s' => wp m is L (am_pu r S) s' Q) := r_CALL (m' := 157) (As := [aI v0]) rfl rfl rfl h8 rfl
theorem cl_158 {v0 v1 v2 : Int} (hk : kd v0 = 11) (h8 : am_w8 S = true) : wp m (CALL 158 3 x y z :: is) L (aI v2 :: aI v1 :: aP v0 :: S) (sT h) Q ↔ wp 158 (am_ju 158 0) [aP v0, aI v1, aI v2, aX, aX] [] (sT h) (fun r s' => wp m is L (am_pu r S) s' Q) := r_CALL (m' := 158) (As := [aP v0, aI v1, aI v2]) rfl rfl rfl h8 (by show (true && (false || (true && am_is (sT h) v0 11))) = true; rw [show am_is (sT h) v0 11 = true from kd_is hk (by decide) h]; rfl)
theorem cl_159 {v0 v1 v2 : Int} (hk : kd v0 = 11) (h8 : am_w8 S = true) : wp m (CALL 159 3 x y z :: is) L (aI v2 :: aI v1 :: aP v0 :: S) (sT h) Q ↔ wp 159 (am_ju 159 0) [aP v0, aI v1, aI v2, aX, aX] [] (sT h) (fun r s' => wp m is L (am_pu r S) s' Q) := r_CALL (m' := 159) (As := [aP v0, aI v1, aI v2]) rfl rfl rfl h8 (by show (true && (false || (true && am_is (sT h) v0 11))) = true; rw [show am_is (sT h) v0 11 = true from kd_is hk (by decide) h]; rfl)
theorem cl_160 {v0 v1 : Int} (hk : kd v0 = 11) (h8 : am_w8 S = true) : wp m (CALL 160 2 x y z :: is) L (aI v1 :: aP v0 :: S) (sT h) Q ↔ wp 160 (am_ju 160 0) [aP v0, aI v1, aX, aX, aX, aX, aX, aX] [] (sT h) (fun r s' => wp m is L (am_pu r S) s' Q) := r_CALL (m' := 160) (As := [aP v0, aI v1]) rfl rfl rfl h8 (by show (true && (false || (true && am_is (sT h) v0 11))) = true; rw [show am_is (sT h) v0 11 = true from kd_is hk (by decide) h]; rfl)
theorem cl_161 {v0 : Int} (hk : kd v0 = 4) (h8 : am_w8 S = true) : wp m (CALL 161 1 x y z :: is) L (aP v0 :: S) (sT h) Q ↔ wp 161 (am_ju 161 0) [aP v0, aX, aX, aX, aX] [] (sT h) (fun r s' => wp m is L (am_pu r S) s' Q) := r_CALL (m' := 161) (As := [aP v0]) rfl rfl rfl h8 (by show (true && (false || (true && am_is (sT h) v0 4))) = true; rw [show am_is (sT h) v0 4 = true from kd_is hk (by decide) h]; rfl)
theorem cl_162 {v0 : Int} (hk : kd v0 = 10) (h8 : am_w8 S = true) : wp m (CALL 162 1 x y z :: is) L (aP v0 :: S) (sT h) Q ↔ wp 162 (am_ju 162 0) [aP v0] [] (sT h) (fun r s' => wp m is L (am_pu r S) s' Q) := r_CALL (m' := 162) (As := [aP v0]) rfl rfl rfl h8 (by show (true && (false || (true && am_is (sT h) v0 10))) = true; rw [show am_is (sT h) v0 10 = true from kd_is hk (by decide) h]; rfl)
theorem cl_163 {v0 : Int} (hk : kd v0 = 11) (h8 : am_w8 S = true) : wp m (CALL 163 1 x y z :: is) L (aP v0 :: S) (sT h) Q ↔ wp 163 (am_ju 163 0) [aP v0, aX, aX, aX, aX] [] (sT h) (fun r s' => wp m is L (am_pu r S) s' Q) := r_CALL (m' := 163) (As := [aP v0]) rfl rfl rfl h8 (by show (true && (false || (true && am_is (sT h) v0 11))) = true; rw [show am_is (sT h) v0 11 = true from kd_is hk (by decide) h]; rfl)
theorem cl_164 {v0 v1 v2 : Int} (hk : kd v0 = 4) (h8 : am_w8 S = true) : wp m (CALL 164 3 x y z :: is) L (aI v2 :: aI v1 :: aP v0 :: S) (sT h) Q ↔ wp 164 (am_ju 164 0) [aP v0, aI v1, aI v2, aX, aX] [] (sT h) (fun r s' => wp m is L (am_pu r S) s' Q) := r_CALL (m' := 164) (As := [aP v0, aI v1, aI v2]) rfl rfl rfl h8 (by show (true && (false || (true && am_is (sT h) v0 4))) = true; rw [show am_is (sT h) v0 4 = true from kd_is hk (by decide) h]; rfl)
theorem cl_165 {v0 v1 : Int} (hk : kd v0 = 4) (h8 : am_w8 S = true) : wp m (CALL 165 2 x y z :: is) L (aI v1 :: aP v0 :: S) (sT h) Q ↔ wp 165 (am_ju 165 0) [aP v0, aI v1, aX, aX, aX] [] (sT h) (fun r s' => wp m is L (am_pu r S) s' Q) := r_CALL (m' := 165) (As := [aP v0, aI v1]) rfl rfl rfl h8 (by show (true && (false || (true && am_is (sT h) v0 4))) = true; rw [show am_is (sT h) v0 4 = true from kd_is hk (by decide) h]; rfl)
theorem cl_166 {v0 : Int} (hk : kd v0 = 4) (h8 : am_w8 S = true) : wp m (CALL 166 1 x y z :: is) L (aP v0 :: S) (sT h) Q ↔ wp 166 (am_ju 166 0) [aP v0, aX, aX] [] (sT h) (fun r s' => wp m is L (am_pu r S) s' Q) := r_CALL (m' := 166) (As := [aP v0]) rfl rfl rfl h8 (by show (true && (false || (true && am_is (sT h) v0 4))) = true; rw [show am_is (sT h) v0 4 = true from kd_is hk (by decide) h]; rfl)
theorem cl_167 {v0 v1 : Int} (hk : kd v0 = 10) (h8 : am_w8 S = true) : wp m (CALL 167 2 x y z :: is) L (aI v1 :: aP v0 :: S) (sT h) Q ↔ wp 167 (am_ju 167 0) [aP v0, aI v1, aX] [] (sT h) (fun r s' => wp m is L (am_pu r S) s' Q) := r_CALL (m' := 167) (As := [aP v0, aI v1]) rfl rfl rfl h8 (by show (true && (false || (true && am_is (sT h) v0 10))) = true; rw [show am_is (sT h) v0 10 = true from kd_is hk (by decide) h]; rfl)
theorem cl_168 {v0 v1 : Int} (hk : kd v0 = 11) (h8 : am_w8 S = true) : wp m (CALL 168 2 x y z :: is) L (aI v1 :: aP v0 :: S) (sT h) Q ↔ wp 168 (am_ju 168 0) [aP v0, aI v1, aX, aX] [] (sT h) (fun r s' => wp m is L (am_pu r S) s' Q) := r_CALL (m' := 168) (As := [aP v0, aI v1]) rfl rfl rfl h8 (by show (true && (false || (true && am_is (sT h) v0 11))) = true; rw [show am_is (sT h) v0 11 = true from kd_is hk (by decide) h]; rfl)
theorem cl_169 {v0 v1 : Int} (hk : kd v0 = 11) (h8 : am_w8 S = true) : wp m (CALL 169 2 x y z :: is) L (aI v1 :: aP v0 :: S) (sT h) Q ↔ wp 169 (am_ju 169 0) [aP v0, aI v1, aX] [] (sT h) (fun r s' => wp m is L (am_pu r S) s' Q) := r_CALL (m' := 169) (As := [aP v0, aI v1]) rfl rfl rfl h8 (by show (true && (false || (true && am_is (sT h) v0 11))) = true; rw [show am_is (sT h) v0 11 = true from kd_is hk (by decide) h]; rfl)
theorem cl_170 {v0 v1 : Int} (hk : kd v0 = 11) (h8 : am_w8 S = true) : wp m (CALL 170 2 x y z :: is) L (aI v1 :: aP v0 :: S) (sT h) Q ↔ wp 170 (am_ju 170 0) [aP v0, aI v1, aX, aX, aX, aX, aX] [] (sT h) (fun r s' => wp m is L (am_pu r S) s' Q) := r_CALL (m' := 170) (As := [aP v0, aI v1]) rfl rfl rfl h8 (by show (true && (false || (true && am_is (sT h) v0 11))) = true; rw [show am_is (sT h) v0 11 = true from kd_is hk (by decide) h]; rfl)
theorem cl_171 {v0 v1 : Int} (hk : kd v0 = 9) (h8 : am_w8 S = true) : wp m (CALL 171 2 x y z :: is) L (aI v1 :: aP v0 :: S) (sT h) Q ↔ wp 171 (am_ju 171 0) [aP v0, aI v1] [] (sT h) (fun r s' => wp m is L (am_pu r S) s' Q) := r_CALL (m' := 171) (As := [aP v0, aI v1]) rfl rfl rfl h8 (by show (true && (false || (true && am_is (sT h) v0 9))) = true; rw [show am_is (sT h) v0 9 = true from kd_is hk (by decide) h]; rfl)
theorem cl_172 {v0 v1 : Int} (hk : kd v0 = 8) (h8 : am_w8 S = true) : wp m (CALL 172 2 x y z :: is) L (aI v1 :: aP v0 :: S) (sT h) Q ↔ wp 172 (am_ju 172 0) [aP v0, aI v1, aX, aX, aX] [] (sT h) (fun r s' => wp m is L (am_pu r S) s' Q) := r_CALL (m' := 172) (As := [aP v0, aI v1]) rfl rfl rfl h8 (by show (true && (false || (true && am_is (sT h) v0 8))) = true; rw [show am_is (sT h) v0 8 = true from kd_is hk (by decide) h]; rfl)
theorem cl_173 {v0 v1 : Int} (hk : kd v0 = 9) (h8 : am_w8 S = true) : wp m (CALL 173 2 x y z :: is) L (aI v1 :: aP v0 :: S) (sT h) Q ↔ wp 173 (am_ju 173 0) [aP v0, aI v1] [] (sT h) (fun r s' => wp m is L (am_pu r S) s' Q) := r_CALL (m' := 173) (As := [aP v0, aI v1]) rfl rfl rfl h8 (by show (true && (false || (true && am_is (sT h) v0 9))) = true; rw [show am_is (sT h) v0 9 = true from kd_is hk (by decide) h]; rfl)
theorem cl_174 {v0 v1 : Int} (hk : kd v0 = 10) (h8 : am_w8 S = true) : wp m (CALL 174 2 x y z :: is) L (aI v1 :: aP v0 :: S) (sT h) Q ↔ wp 174 (am_ju 174 0) [aP v0, aI v1] [] (sT h) (fun r s' => wp m is L (am_pu r S) s' Q) := r_CALL (m' := 174) (As := [aP v0, aI v1]) rfl rfl rfl h8 (by show (true && (false || (true && am_is (sT h) v0 10))) = true; rw [show am_is (sT h) v0 10 = true from kd_is hk (by decide) h]; rfl)
theorem cl_175 {v0 v1 : Int} (hk : kd v0 = 11) (h8 : am_w8 S = true) : wp m (CALL 175 2 x y z :: is) L (aI v1 :: aP v0 :: S) (sT h) Q ↔ wp 175 (am_ju 175 0) [aP v0, aI v1] [] (sT h) (fun r s' => wp m is L (am_pu r S) s' Q) := r_CALL (m' := 175) (As := [aP v0, aI v1]) rfl rfl rfl h8 (by show (true && (false || (true && am_is (sT h) v0 11))) = true; rw [show am_is (sT h) v0 11 = true from kd_is hk (by decide) h]; rfl)
theorem cl_176 {v0 v1 : Int} (hk : kd v0 = 11) (h8 : am_w8 S = true) : wp m (CALL 176 2 x y z :: is) L (aI v1 :: aP v0 :: S) (sT h) Q ↔ wp 176 (am_ju 176 0) [aP v0, aI v1, aX, aX, aX, aX] [] (sT h) (fun r s' => wp m is L (am_pu r S) s' Q) := r_CALL (m' := 176) (As := [aP v0, aI v1]) rfl rfl rfl h8 (by show (true && (false || (true && am_is (sT h) v0 11))) = true; rw [show am_is (sT h) v0 11 = true from kd_is hk (by decide) h]; rfl)
theorem cl_177 {v0 v1 : Int} (hk : kd v0 = 11) (h8 : am_w8 S = true) : wp m (CALL 177 2 x y z :: is) L (aI v1 :: aP v0 :: S) (sT h) Q ↔ wp 177 (am_ju 177 0) [aP v0, aI v1] [] (sT h) (fun r s' => wp m is L (am_pu r S) s' Q) := r_CALL (m' := 177) (As := [aP v0, aI v1]) rfl rfl rfl h8 (by show (true && (false || (true && am_is (sT h) v0 11))) = true; rw [show am_is (sT h) v0 11 = true from kd_is hk (by decide) h]; rfl)
theorem cl_178 {v0 : Int} (hk : kd v0 = 9) (h8 : am_w8 S = true) : wp m (CALL 178 1 x y z :: is) L (aP v0 :: S) (sT h) Q ↔ wp 178 (am_ju 178 0) [aP v0, aX, aX] [] (sT h) (fun r s' => wp m is L (am_pu r S) s' Q) := r_CALL (m' := 178) (As := [aP v0]) rfl rfl rfl h8 (by show (true && (false || (true && am_is (sT h) v0 9))) = true; rw [show am_is (sT h) v0 9 = true from kd_is hk (by decide) h]; rfl)
theorem cl_179 {v0 : Int} (hk : kd v0 = 1) (h8 : am_w8 S = true) : wp m (CALL 179 1 x y z :: is) L (aP v0 :: S) (sT h) Q ↔ wp 179 (am_ju 179 0) [aP v0, aX, aX] [] (sT h) (fun r s' => wp m is L (am_pu r S) s' Q) := r_CALL (m' := 179) (As := [aP v0]) rfl rfl rfl h8 (by show (true && (false || (true && am_is (sT h) v0 1))) = true; rw [show am_is (sT h) v0 1 = true from kd_is hk (by decide) h]; rfl)
theorem cl_180 {v0 v1 v2 : Int} (hk : kd v0 = 1) (h8 : am_w8 S = true) : wp m (CALL 180 3 x y z :: is) L (aI v2 :: aI v1 :: aP v0 :: S) (sT h) Q ↔ wp 180 (am_ju 180 0) [aP v0, aI v1, aI v2, aX, aX] [] (sT h) (fun r s' => wp m is L (am_pu r S) s' Q) := r_CALL (m' := 180) (As := [aP v0, aI v1, aI v2]) rfl rfl rfl h8 (by show (true && (false || (true && am_is (sT h) v0 1))) = true; rw [show am_is (sT h) v0 1 = true from kd_is hk (by decide) h]; rfl)
theorem cl_181 {v0 v1 v2 : Int} (hk : kd v0 = 1) (h8 : am_w8 S = true) : wp m (CALL 181 3 x y z :: is) L (aI v2 :: aI v1 :: aP v0 :: S) (sT h) Q ↔ wp 181 (am_ju 181 0) [aP v0, aI v1, aI v2, aX] [] (sT h) (fun r s' => wp m is L (am_pu r S) s' Q) := r_CALL (m' := 181) (As := [aP v0, aI v1, aI v2]) rfl rfl rfl h8 (by show (true && (false || (true && am_is (sT h) v0 1))) = true; rw [show am_is (sT h) v0 1 = true from kd_is hk (by decide) h]; rfl)
theorem cl_182 {v0 : Int} (hk : kd v0 = 1) (h8 : am_w8 S = true) : wp m (CALL 182 1 x y z :: is) L (aP v0 :: S) (sT h) Q ↔ wp 182 (am_ju 182 0) [aP v0, aX, aX, aX, aX] [] (sT h) (fun r s' => wp m is L (am_pu r S) s' Q) := r_CALL (m' := 182) (As := [aP v0]) rfl rfl rfl h8 (by show (true && (false || (true && am_is (sT h) v0 1))) = true; rw [show am_is (sT h) v0 1 = true from kd_is hk (by decide) h]; rfl)
theorem cl_183 {v0 v1 : Int} (hk : kd v0 = 1) (h8 : am_w8 S = true) : wp m (CALL 183 2 x y z :: is) L (aI v1 :: aP v0 :: S) (sT h) Q ↔ wp 183 (am_ju 183 0) [aP v0, aI v1, aX] [] (sT h) (fun r s' => wp m is L (am_pu r S) s' Q) := r_CALL (m' := 183) (As := [aP v0, aI v1]) rfl rfl rfl h8 (by show (true && (false || (true && am_is (sT h) v0 1))) = true; rw [show am_is (sT h) v0 1 = true from kd_is hk (by decide) h]; rfl)
theorem cl_184 {v0 v1 : Int} (hk : kd v0 = 1) (h8 : am_w8 S = true) : wp m (CALL 184 2 x y z :: is) L (aI v1 :: aP v0 :: S) (sT h) Q ↔ wp 184 (am_ju 184 0) [aP v0, aI v1, aX, aX] [] (sT h) (fun r s' => wp m is L (am_pu r S) s' Q) := r_CALL (m' := 184) (As := [aP v0, aI v1]) rfl rfl rfl h8 (by show (true && (false || (true && am_is (sT h) v0 1))) = true; rw [show am_is (sT h) v0 1 = true from kd_is hk (by decide) h]; rfl)
theorem cl_185 {v0 v1 : Int} (hk : kd v0 = 10) (h8 : am_w8 S = true) : wp m (CALL 185 2 x y z :: is) L (aI v1 :: aP v0 :: S) (sT h) Q ↔ wp 185 (am_ju 185 0) [aP v0, aI v1] [] (sT h) (fun r s' => wp m is L (am_pu r S) s' Q) := r_CALL (m' := 185) (As := [aP v0, aI v1]) rfl rfl rfl h8 (by show (true && (false || (true && am_is (sT h) v0 10))) = true; rw [show am_is (sT h) v0 10 = true from kd_is hk (by decide) h]; rfl)
theorem cl_186 {v0 v1 v2 : Int} (hk : kd v0 = 11) (h8 : am_w8 S = true) : wp m (CALL 186 3 x y z :: is) L (aI v2 :: aI v1 :: aP v0 :: S) (sT h) Q ↔ wp 186 (am_ju 186 0) [aP v0, aI v1, aI v2, aX, aX, aX] [] (sT h) (fun r s' => wp m is L (am_pu r S) s' Q) := r_CALL (m' := 186) (As := [aP v0, aI v1, aI v2]) rfl rfl rfl h8 (by show (true && (false || (true && am_is (sT h) v0 11))) = true; rw [show am_is (sT h) v0 11 = true from kd_is hk (by decide) h]; rfl)
theorem cl_187 {v0 v1 : Int} (hk : kd v0 = 11) (h8 : am_w8 S = true) : wp m (CALL 187 2 x y z :: is) L (aI v1 :: aP v0 :: S) (sT h) Q ↔ wp 187 (am_ju 187 0) [aP v0, aI v1, aX, aX, aX, aX, aX] [] (sT h) (fun r s' => wp m is L (am_pu r S) s' Q) := r_CALL (m' := 187) (As := [aP v0, aI v1]) rfl rfl rfl h8 (by show (true && (false || (true && am_is (sT h) v0 11))) = true; rw [show am_is (sT h) v0 11 = true from kd_is hk (by decide) h]; rfl)
theorem cl_188 {v0 v1 : Int} (hk : kd v0 = 11) (h8 : am_w8 S = true) : wp m (CALL 188 2 x y z :: is) L (aI v1 :: aP v0 :: S) (sT h) Q ↔ wp 188 (am_ju 188 0) [aP v0, aI v1, aX, aX, aX, aX, aX] [] (sT h) (fun r s' => wp m is L (am_pu r S) s' Q) := r_CALL (m' := 188) (As := [aP v0, aI v1]) rfl rfl rfl h8 (by show (true && (false || (true && am_is (sT h) v0 11))) = true; rw [show am_is (sT h) v0 11 = true from kd_is hk (by decide) h]; rfl)
theorem cl_189 {v0 v1 v2 v3 : Int} (hk : kd v0 = 10) (h8 : am_w8 S = true) : wp m (CALL 189 4 x y z :: is) L (aI v3 :: aI v2 :: aI v1 :: aP v0 :: S) (sT h) Q ↔ wp 189 (am_ju 189 0) [aP v0, aI v1, aI v2, aI v3, aX, aX, aX, aX, aX] [] (sT h) (fun r s' => wp m is L (am_pu r S) s' Q) := r_CALL (m' := 189) (As := [aP v0, aI v1, aI v2, aI v3]) rfl rfl rfl h8 (by show (true && (false || (true && am_is (sT h) v0 10))) = true; rw [show am_is (sT h) v0 10 = true from kd_is hk (by decide) h]; rfl)
theorem cl_190 {v0 v1 v2 v3 : Int} (hk : kd v0 = 10) (h8 : am_w8 S = true) : wp m (CALL 190 4 x y z :: is) L (aI v3 :: aI v2 :: aI v1 :: aP v0 :: S) (sT h) Q ↔ wp 190 (am_ju 190 0) [aP v0, aI v1, aI v2, aI v3, aX, aX, aX, aX, aX, aX] [] (sT h) (fun r s' => wp m is L (am_pu r S) s' Q) := r_CALL (m' := 190) (As := [aP v0, aI v1, aI v2, aI v3]) rfl rfl rfl h8 (by show (true && (false || (true && am_is (sT h) v0 10))) = true; rw [show am_is (sT h) v0 10 = true from kd_is hk (by decide) h]; rfl)
theorem cl_191 {v0 v1 v2 v3 : Int} (hk : kd v0 = 11) (h8 : am_w8 S = true) : wp m (CALL 191 4 x y z :: is) L (aI v3 :: aI v2 :: aI v1 :: aP v0 :: S) (sT h) Q ↔ wp 191 (am_ju 191 0) [aP v0, aI v1, aI v2, aI v3, aX, aX, aX, aX] [] (sT h) (fun r s' => wp m is L (am_pu r S) s' Q) := r_CALL (m' := 191) (As := [aP v0, aI v1, aI v2, aI v3]) rfl rfl rfl h8 (by show (true && (false || (true && am_is (sT h) v0 11))) = true; rw [show am_is (sT h) v0 11 = true from kd_is hk (by decide) h]; rfl)
theorem cl_192 {v0 v1 v2 v3 : Int} (hk : kd v0 = 11) (h8 : am_w8 S = true) : wp m (CALL 192 4 x y z :: is) L (aI v3 :: aI v2 :: aI v1 :: aP v0 :: S) (sT h) Q ↔ wp 192 (am_ju 192 0) [aP v0, aI v1, aI v2, aI v3, aX, aX] [] (sT h) (fun r s' => wp m is L (am_pu r S) s' Q) := r_CALL (m' := 192) (As := [aP v0, aI v1, aI v2, aI v3]) rfl rfl rfl h8 (by show (true && (false || (true && am_is (sT h) v0 11))) = true; rw [show am_is (sT h) v0 11 = true from kd_is hk (by decide) h]; rfl)
theorem cl_193 {v0 v1 v2 : Int} (hk : kd v0 = 4) (h8 : am_w8 S = true) : wp m (CALL 193 3 x y z :: is) L (aI v2 :: aI v1 :: aP v0 :: S) (sT h) Q ↔ wp 193 (am_ju 193 0) [aP v0, aI v1, aI v2, aX, aX] [] (sT h) (fun r s' => wp m is L (am_pu r S) s' Q) := r_CALL (m' := 193) (As := [aP v0, aI v1, aI v2]) rfl rfl rfl h8 (by show (true && (false || (true && am_is (sT h) v0 4))) = true; rw [show am_is (sT h) v0 4 = true from kd_is hk (by decide) h]; rfl)
theorem cl_194 {v0 v1 v2 v3 : Int} (hk : kd v0 = 4) (h8 : am_w8 S = true) : wp m (CALL 194 4 x y z :: is) L (aI v3 :: aI v2 :: aI v1 :: aP v0 :: S) (sT h) Q ↔ wp 194 (am_ju 194 0) [aP v0, aI v1, aI v2, aI v3, aX] [] (sT h) (fun r s' => wp m is L (am_pu r S) s' Q) := r_CALL (m' := 194) (As := [aP v0, aI v1, aI v2, aI v3]) rfl rfl rfl h8 (by show (true && (false || (true && am_is (sT h) v0 4))) = true; rw [show am_is (sT h) v0 4 = true from kd_is hk (by decide) h]; rfl)
theorem cl_195 {v0 v1 v2 v3 : Int} (hk : kd v0 = 10) (h8 : am_w8 S = true) : wp m (CALL 195 4 x y z :: is) L (aI v3 :: aI v2 :: aI v1 :: aP v0 :: S) (sT h) Q ↔ wp 195 (am_ju 195 0) [aP v0, aI v1, aI v2, aI v3, aX, aX, aX, aX] [] (sT h) (fun r s' => wp m is L (am_pu r S) s' Q) := r_CALL (m' := 195) (As := [aP v0, aI v1, aI v2, aI v3]) rfl rfl rfl h8 (by show (true && (false || (true && am_is (sT h) v0 10))) = true; rw [show am_is (sT h) v0 10 = true from kd_is hk (by decide) h]; rfl)
theorem cl_196 {v0 v1 v2 v3 : Int} (hk : kd v0 = 11) (h8 : am_w8 S = true) : wp m (CALL 196 4 x y z :: is) L (aI v3 :: aI v2 :: aI v1 :: aP v0 :: S) (sT h) Q ↔ wp 196 (am_ju 196 0) [aP v0, aI v1, aI v2, aI v3] [] (sT h) (fun r s' => wp m is L (am_pu r S) s' Q) := r_CALL (m' := 196) (As := [aP v0, aI v1, aI v2, aI v3]) rfl rfl rfl h8 (by show (true && (false || (true && am_is (sT h) v0 11))) = true; rw [show am_is (sT h) v0 11 = true from kd_is hk (by decide) h]; rfl)
theorem cl_197 {v0 v1 v2 v3 : Int} (hk : kd v0 = 11) (h8 : am_w8 S = true) : wp m (CALL 197 4 x y z :: is) L (aI v3 :: aI v2 :: aI v1 :: aP v0 :: S) (sT h) Q ↔ wp 197 (am_ju 197 0) [aP v0, aI v1, aI v2, aI v3, aX, aX, aX, aX] [] (sT h) (fun r s' => wp m is L (am_pu r S) s' Q) := r_CALL (m' := 197) (As := [aP v0, aI v1, aI v2, aI v3]) rfl rfl rfl h8 (by show (true && (false || (true && am_is (sT h) v0 11))) = true; rw [show am_is (sT h) v0 11 = true from kd_is hk (by decide) h]; rfl)
theorem cl_198 {v0 v1 : Int} (hk : kd v0 = 5) (h8 : am_w8 S = true) : wp m (CALL 198 2 x y z :: is) L (aP v1 :: aP v0 :: S) (sT h) Q ↔ wp 198 (am_ju 198 0) [aP v0, aP v1, aX] [] (sT h) (fun r s' => wp m is L (am_pu r S) s' Q) := r_CALL (m' := 198) (As := [aP v0, aP v1]) rfl rfl rfl h8 (by show (true && (false || (true && am_is (sT h) v0 5))) = true; rw [show am_is (sT h) v0 5 = true from kd_is hk (by decide) h]; rfl)
theorem cl_199 {v0 v1 : Int} (hk : kd v0 = 9) (h8 : am_w8 S = true) : wp m (CALL 199 2 x y z :: is) L (aP v1 :: aP v0 :: S) (sT h) Q ↔ wp 199 (am_ju 199 0) [aP v0, aP v1] [] (sT h) (fun r s' => wp m is L (am_pu r S) s' Q) := r_CALL (m' := 199) (As := [aP v0, aP v1]) rfl rfl rfl h8 (by show (true && (false || (true && am_is (sT h) v0 9))) = true; rw [show am_is (sT h) v0 9 = true from kd_is hk (by decide) h]; rfl)
theorem cl_200 {v0 : Int} (hk : kd v0 = 10) (h8 : am_w8 S = true) : wp m (CALL 200 1 x y z :: is) L (aP v0 :: S) (sT h) Q ↔ wp 200 (am_ju 200 0) [aP v0] [] (sT h) (fun r s' => wp m is L (am_pu r S) s' Q) := r_CALL (m' := 200) (As := [aP v0]) rfl rfl rfl h8 (by show (true && (false || (true && am_is (sT h) v0 10))) = true; rw [show am_is (sT h) v0 10 = true from kd_is hk (by decide) h]; rfl)
theorem cl_201 {v0 : Int} (hk : kd v0 = 11) (h8 : am_w8 S = true) : wp m (CALL 201 1 x y z :: is) L (aP v0 :: S) (sT h) Q ↔ wp 201 (am_ju 201 0) [aP v0] [] (sT h) (fun r s' => wp m is L (am_pu r S) s' Q) := r_CALL (m' := 201) (As := [aP v0]) rfl rfl rfl h8 (by show (true && (false || (true && am_is (sT h) v0 11))) = true; rw [show am_is (sT h) v0 11 = true from kd_is hk (by decide) h]; rfl)
theorem cl_202 {v0 : Int} (hk : kd v0 = 10) (h8 : am_w8 S = true) : wp m (CALL 202 1 x y z :: is) L (aP v0 :: S) (sT h) Q ↔ wp 202 (am_ju 202 0) [aP v0] [] (sT h) (fun r s' => wp m is L (am_pu r S) s' Q) := r_CALL (m' := 202) (As := [aP v0]) rfl rfl rfl h8 (by show (true && (false || (true && am_is (sT h) v0 10))) = true; rw [show am_is (sT h) v0 10 = true from kd_is hk (by decide) h]; rfl)
theorem cl_203 {v0 : Int} (hk : kd v0 = 11) (h8 : am_w8 S = true) : wp m (CALL 203 1 x y z :: is) L (aP v0 :: S) (sT h) Q ↔ wp 203 (am_ju 203 0) [aP v0] [] (sT h) (fun r s' => wp m is L (am_pu r S) s' Q) := r_CALL (m' := 203) (As := [aP v0]) rfl rfl rfl h8 (by show (true && (false || (true && am_is (sT h) v0 11))) = true; rw [show am_is (sT h) v0 11 = true from kd_is hk (by decide) h]; rfl)
theorem cl_204 {v0 v1 : Int} (h8 : am_w8 S = true) : wp m (CALL 204 2 x y z :: is) L (aI v1 :: aI v0 :: S) (sT h) Q ↔ wp 204 (am_ju 204 0) [aI v0, aI v1] [] (sT h) (fun r s' => wp m is L (am_pu r S) s' Q) := r_CALL (m' := 204) (As := [aI v0, aI v1]) rfl rfl rfl h8 rfl
theorem cl_205 {v0 v1 v2 : Int} (hk : kd v0 = 6) (h8 : am_w8 S = true) : wp m (CALL 205 3 x y z :: is) L (aI v2 :: aI v1 :: aP v0 :: S) (sT h) Q ↔ wp 205 (am_ju 205 0) [aP v0, aI v1, aI v2] [] (sT h) (fun r s' => wp m is L (am_pu r S) s' Q) := r_CALL (m' := 205) (As := [aP v0, aI v1, aI v2]) rfl rfl rfl h8 (by show (true && (false || (true && am_is (sT h) v0 6))) = true; rw [show am_is (sT h) v0 6 = true from kd_is hk (by decide) h]; rfl)
theorem cl_206 {v0 v1 v2 v3 : Int} (hk : kd v0 = 6) (h8 : am_w8 S = true) : wp m (CALL 206 4 x y z :: is) L (aI v3 :: aI v2 :: aI v1 :: aP v0 :: S) (sT h) Q ↔ wp 206 (am_ju 206 0) [aP v0, aI v1, aI v2, aI v3] [] (sT h) (fun r s' => wp m is L (am_pu r S) s' Q) := r_CALL (m' := 206) (As := [aP v0, aI v1, aI v2, aI v3]) rfl rfl rfl h8 (by show (true && (false || (true && am_is (sT h) v0 6))) = true; rw [show am_is (sT h) v0 6 = true from kd_is hk (by decide) h]; rfl)
theorem cl_207 {v0 v1 : Int} (hk : kd v0 = 6) (h8 : am_w8 S = true) : wp m (CALL 207 2 x y z :: is) L (aI v1 :: aP v0 :: S) (sT h) Q ↔ wp 207 (am_ju 207 0) [aP v0, aI v1] [] (sT h) (fun r s' => wp m is L (am_pu r S) s' Q) := r_CALL (m' := 207) (As := [aP v0, aI v1]) rfl rfl rfl h8 (by show (true && (false || (true && am_is (sT h) v0 6))) = true; rw [show am_is (sT h) v0 6 = true from kd_is hk (by decide) h]; rfl)
theorem cl_208 {v0 v1 v2 v3 v4 v5 : Int} (hk : kd v0 = 4) (h8 : am_w8 S = true) : wp m (CALL 208 6 x y z :: is) L (aI v5 :: aI v4 :: aP v3 :: aI v2 :: aI v1 :: aP v0 :: S) (sT h) Q ↔ wp 208 (am_ju 208 0) [aP v0, aI v1, aI v2, aP v3, aI v4, aI v5, aX] [] (sT h) (fun r s' => wp m is L (am_pu r S) s' Q) := r_CALL (m' := 208) (As := [aP v0, aI v1, aI v2, aP v3, aI v4, aI v5]) rfl rfl rfl h8 (by show (true && (false || (true && am_is (sT h) v0 4))) = true; rw [show am_is (sT h) v0 4 = true from kd_is hk (by decide) h]; rfl)
theorem cl_209 {v0 v1 v2 v3 v4 v5 v6 : Int} (hk : kd v0 = 10) (h8 : am_w8 S = true) : wp m (CALL 209 7 x y z :: is) L (aI v6 :: aI v5 :: aI v4 :: aI v3 :: aI v2 :: aI v1 :: aP v0 :: S) (sT h) Q ↔ wp 209 (am_ju 209 0) [aP v0, aI v1, aI v2, aI v3, aI v4, aI v5, aI v6, aX, aX, aX, aX] [] (sT h) (fun r s' => wp m is L (am_pu r S) s' Q) := r_CALL (m' := 209) (As := [aP v0, aI v1, aI v2, aI v3, aI v4, aI v5, aI v6]) rfl rfl rfl h8 (by show (true && (false || (true && am_is (sT h) v0 10))) = true; rw [show am_is (sT h) v0 10 = true from kd_is hk (by decide) h]; rfl)
theorem cl_210 {v0 : Int} (h8 : am_w8 S = true) : wp m (CALL 210 1 x y z :: is) L (aI v0 :: S) (sT h) Q ↔ wp 210 (am_ju 210 0) [aI v0] [] (sT h) (fun r s' => wp m is L (am_pu r S) s' Q) := r_CALL (m' := 210) (As := [aI v0]) rfl rfl rfl h8 rfl
theorem cl_211 {v0 : Int} (h8 : am_w8 S = true) : wp m (CALL 211 1 x y z :: is) L (aI v0 :: S) (sT h) Q ↔ wp 211 (am_ju 211 0) [aI v0] [] (sT h) (fun r s' => wp m is L (am_pu r S) s' Q) := r_CALL (m' := 211) (As := [aI v0]) rfl rfl rfl h8 rfl
theorem cl_212 {v0 v1 v2 v3 v4 : Int} (hk : kd v0 = 11) (h8 : am_w8 S = true) : wp m (CALL 212 5 x y z :: is) L (aI v4 :: aI v3 :: aI v2 :: aI v1 :: aP v0 :: S) (sT h) Q ↔ wp 212 (am_ju 212 0) [aP v0, aI v1, aI v2, aI v3, aI v4] [] (sT h) (fun r s' => wp m is L (am_pu r S) s' Q) := r_CALL (m' := 212) (As := [aP v0, aI v1, aI v2, aI v3, aI v4]) rfl rfl rfl h8 (by show (true && (false || (true && am_is (sT h) v0 11))) = true; rw [show am_is (sT h) v0 11 = true from kd_is hk (by decide) h]; rfl)
theorem cl_213 {v0 v1 v2 v3 v4 : Int} (hk : kd v0 = 11) (h8 : am_w8 S = true) : wp m (CALL 213 5 x y z :: is) L (aI v4 :: aI v3 :: aI v2 :: aI v1 :: aP v0 :: S) (sT h) Q ↔ wp 213 (am_ju 213 0) [aP v0, aI v1, aI v2, aI v3, aI v4, aX, aX] [] (sT h) (fun r s' => wp m is L (am_pu r S) s' Q) := r_CALL (m' := 213) (As := [aP v0, aI v1, aI v2, aI v3, aI v4]) rfl rfl rfl h8 (by show (true && (false || (true && am_is (sT h) v0 11))) = true; rw [show am_is (sT h) v0 11 = true from kd_is hk (by decide) h]; rfl)
theorem cl_214 {v0 v1 v2 v3 v4 v5 v6 : Int} (hk : kd v0 = 11) (h8 : am_w8 S = true) : wp m (CALL 214 7 x y z :: is) L (aI v6 :: aI v5 :: aI v4 :: aI v3 :: aI v2 :: aI v1 :: aP v0 :: S) (sT h) Q ↔ wp 214 (am_ju 214 0) [aP v0, aI v1, aI v2, aI v3, aI v4, aI v5, aI v6, aX, aX, aX, aX, aX] [] (sT h) (fun r s' => wp m is L (am_pu r S) s' Q) := r_CALL (m' := 214) (As := [aP v0, aI v1, aI v2, aI v3, aI v4, aI v5, aI v6]) rfl rfl rfl h8 (by show (true && (false || (true && am_is (sT h) v0 11))) = true; rw [show am_is (sT h) v0 11 = true from kd_is hk (by decide) h]; rfl)
theorem cl_215 {v0 v1 : Int} (hk : kd v0 = 4) (h8 : am_w8 S = true) : wp m (CALL 215 2 x y z :: is) L (aI v1 :: aP v0 :: S) (sT h) Q ↔ wp 215 (am_ju 215 0) [aP v0, aI v1, aX] [] (sT h) (fun r s' => wp m is L (am_pu r S) s' Q) := r_CALL (m' := 215) (As := [aP v0, aI v1]) rfl rfl rfl h8 (by show (true && (false || (true && am_is (sT h) v0 4))) = true; rw [show am_is (sT h) v0 4 = true from kd_is hk (by decide) h]; rfl)
theorem cl_216 {v0 v1 : Int} (hk : kd v0 = 6) (h8 : am_w8 S = true) : wp m (CALL 216 2 x y z :: is) L (aJ v1 :: aP v0 :: S) (sT h) Q ↔ wp 216 (am_ju 216 0) [aP v0, aJ v1, aX] [] (sT h) (fun r s' => wp m is L (am_pu r S) s' Q) := r_CALL (m' := 216) (As := [aP v0, aJ v1]) rfl rfl rfl h8 (by show (true && (false || (true && am_is (sT h) v0 6))) = true; rw [show am_is (sT h) v0 6 = true from kd_is hk (by decide) h]; rfl)
theorem cl_217 {v0 v1 v2 : Int} (hk : kd v0 = 6) (h8 : am_w8 S = true) : wp m (CALL 217 3 x y z :: is) L (aJ v2 :: aI v1 :: aP v0 :: S) (sT h) Q ↔ wp 217 (am_ju 217 0) [aP v0, aI v1, aJ v2, aX] [] (sT h) (fun r s' => wp m is L (am_pu r S) s' Q) := r_CALL (m' := 217) (As := [aP v0, aI v1, aJ v2]) rfl rfl rfl h8 (by show (true && (false || (true && am_is (sT h) v0 6))) = true; rw [show am_is (sT h) v0 6 = true from kd_is hk (by decide) h]; rfl)
theorem cl_218 {v0 v1 v2 v3 v4 : Int} (hk : kd v0 = 10) (h8 : am_w8 S = true) : wp m (CALL 218 5 x y z :: is) L (aI v4 :: aI v3 :: aI v2 :: aI v1 :: aP v0 :: S) (sT h) Q ↔ wp 218 (am_ju 218 0) [aP v0, aI v1, aI v2, aI v3, aI v4, aX, aX, aX] [] (sT h) (fun r s' => wp m is L (am_pu r S) s' Q) := r_CALL (m' := 218) (As := [aP v0, aI v1, aI v2, aI v3, aI v4]) rfl rfl rfl h8 (by show (true && (false || (true && am_is (sT h) v0 10))) = true; rw [show am_is (sT h) v0 10 = true from kd_is hk (by decide) h]; rfl)
theorem cl_219 {v0 v1 : Int} (h8 : am_w8 S = true) : wp m (CALL 219 2 x y z :: is) L (aJ v1 :: aI v0 :: S) (sT h) Q ↔ wp 219 (am_ju 219 0) [aI v0, aJ v1, aX, aX] [] (sT h) (fun r s' => wp m is L (am_pu r S) s' Q) := r_CALL (m' := 219) (As := [aI v0, aJ v1]) rfl rfl rfl h8 rfl
theorem cl_220 {v0 v1 v2 v3 v4 : Int} (hk : kd v0 = 11) (h8 : am_w8 S = true) : wp m (CALL 220 5 x y z :: is) L (aI v4 :: aI v3 :: aI v2 :: aI v1 :: aP v0 :: S) (sT h) Q ↔ wp 220 (am_ju 220 0) [aP v0, aI v1, aI v2, aI v3, aI v4, aX, aX, aX] [] (sT h) (fun r s' => wp m is L (am_pu r S) s' Q) := r_CALL (m' := 220) (As := [aP v0, aI v1, aI v2, aI v3, aI v4]) rfl rfl rfl h8 (by show (true && (false || (true && am_is (sT h) v0 11))) = true; rw [show am_is (sT h) v0 11 = true from kd_is hk (by decide) h]; rfl)
theorem cl_221 {v0 v1 : Int} (h8 : am_w8 S = true) : wp m (CALL 221 2 x y z :: is) L (aJ v1 :: aP v0 :: S) (sT h) Q ↔ wp 221 (am_ju 221 0) [aP v0, aJ v1, aX, aX, aX] [] (sT h) (fun r s' => wp m is L (am_pu r S) s' Q) := r_CALL (m' := 221) (As := [aP v0, aJ v1]) rfl rfl rfl h8 rfl
theorem cl_222 {v0 v1 v2 : Int} (hk : kd v0 = 6) (h8 : am_w8 S = true) : wp m (CALL 222 3 x y z :: is) L (aI v2 :: aI v1 :: aP v0 :: S) (sT h) Q ↔ wp 222 (am_ju 222 0) [aP v0, aI v1, aI v2] [] (sT h) (fun r s' => wp m is L (am_pu r S) s' Q) := r_CALL (m' := 222) (As := [aP v0, aI v1, aI v2]) rfl rfl rfl h8 (by show (true && (false || (true && am_is (sT h) v0 6))) = true; rw [show am_is (sT h) v0 6 = true from kd_is hk (by decide) h]; rfl)
theorem cl_223 {v0 v1 v2 v3 : Int} (hk : kd v0 = 10) (h8 : am_w8 S = true) : wp m (CALL 223 4 x y z :: is) L (aI v3 :: aI v2 :: aI v1 :: aP v0 :: S) (sT h) Q ↔ wp 223 (am_ju 223 0) [aP v0, aI v1, aI v2, aI v3] [] (sT h) (fun r s' => wp m is L (am_pu r S) s' Q) := r_CALL (m' := 223) (As := [aP v0, aI v1, aI v2, aI v3]) rfl rfl rfl h8 (by show (true && (false || (true && am_is (sT h) v0 10))) = true; rw [show am_is (sT h) v0 10 = true from kd_is hk (by decide) h]; rfl)
theorem cl_224 {v0 v1 v2 v3 : Int} (hk : kd v0 = 11) (h8 : am_w8 S = true) : wp m (CALL 224 4 x y z :: is) L (aI v3 :: aI v2 :: aI v1 :: aP v0 :: S) (sT h) Q ↔ wp 224 (am_ju 224 0) [aP v0, aI v1, aI v2, aI v3, aX] [] (sT h) (fun r s' => wp m is L (am_pu r S) s' Q) := r_CALL (m' := 224) (As := [aP v0, aI v1, aI v2, aI v3]) rfl rfl rfl h8 (by show (true && (false || (true && am_is (sT h) v0 11))) = true; rw [show am_is (sT h) v0 11 = true from kd_is hk (by decide) h]; rfl)
theorem cl_225 {v0 v1 : Int} (hk : kd v0 = 10) (h8 : am_w8 S = true) : wp m (CALL 225 2 x y z :: is) L (aI v1 :: aP v0 :: S) (sT h) Q ↔ wp 225 (am_ju 225 0) [aP v0, aI v1] [] (sT h) (fun r s' => wp m is L (am_pu r S) s' Q) := r_CALL (m' := 225) (As := [aP v0, aI v1]) rfl rfl rfl h8 (by show (true && (false || (true && am_is (sT h) v0 10))) = true; rw [show am_is (sT h) v0 10 = true from kd_is hk (by decide) h]; rfl)
theorem cl_226 {v0 v1 : Int} (hk : kd v0 = 11) (h8 : am_w8 S = true) : wp m (CALL 226 2 x y z :: is) L (aI v1 :: aP v0 :: S) (sT h) Q ↔ wp 226 (am_ju 226 0) [aP v0, aI v1] [] (sT h) (fun r s' => wp m is L (am_pu r S) s' Q) := r_CALL (m' := 226) (As := [aP v0, aI v1]) rfl rfl rfl h8 (by show (true && (false || (true && am_is (sT h) v0 11))) = true; rw [show am_is (sT h) v0 11 = true from kd_is hk (by decide) h]; rfl)
theorem cl_227 {v0 v1 v2 v3 v4 : Int} (hk : kd v0 = 10) (h8 : am_w8 S = true) : wp m (CALL 227 5 x y z :: is) L (aJ v4 :: aI v3 :: aI v2 :: aI v1 :: aP v0 :: S) (sT h) Q ↔ wp 227 (am_ju 227 0) [aP v0, aI v1, aI v2, aI v3, aJ v4, aX, aX] [] (sT h) (fun r s' => wp m is L (am_pu r S) s' Q) := r_CALL (m' := 227) (As := [aP v0, aI v1, aI v2, aI v3, aJ v4]) rfl rfl rfl h8 (by show (true && (false || (true && am_is (sT h) v0 10))) = true; rw [show am_is (sT h) v0 10 = true from kd_is hk (by decide) h]; rfl)
theorem cl_228 {v0 v1 v2 v3 v4 : Int} (hk : kd v0 = 11) (h8 : am_w8 S = true) : wp m (CALL 228 5 x y z :: is) L (aJ v4 :: aI v3 :: aI v2 :: aI v1 :: aP v0 :: S) (sT h) Q ↔ wp 228 (am_ju 228 0) [aP v0, aI v1, aI v2, aI v3, aJ v4, aX, aX] [] (sT h) (fun r s' => wp m is L (am_pu r S) s' Q) := r_CALL (m' := 228) (As := [aP v0, aI v1, aI v2, aI v3, aJ v4]) rfl rfl rfl h8 (by show (true && (false || (true && am_is (sT h) v0 11))) = true; rw [show am_is (sT h) v0 11 = true from kd_is hk (by decide) h]; rfl)
theorem cl_229 {v0 v1 v2 v3 v4 v5 : Int} (hk : kd v0 = 10) (h8 : am_w8 S = true) : wp m (CALL 229 6 x y z :: is) L (aI v5 :: aI v4 :: aI v3 :: aI v2 :: aI v1 :: aP v0 :: S) (sT h) Q ↔ wp 229 (am_ju 229 0) [aP v0, aI v1, aI v2, aI v3, aI v4, aI v5, aX, aX] [] (sT h) (fun r s' => wp m is L (am_pu r S) s' Q) := r_CALL (m' := 229) (As := [aP v0, aI v1, aI v2, aI v3, aI v4, aI v5]) rfl rfl rfl h8 (by show (true && (false || (true && am_is (sT h) v0 10))) = true; rw [show am_is (sT h) v0 10 = true from kd_is hk (by decide) h]; rfl)
theorem cl_230 {v0 v1 v2 v3 v4 v5 : Int} (hk : kd v0 = 11) (h8 : am_w8 S = true) : wp m (CALL 230 6 x y z :: is) L (aI v5 :: aI v4 :: aI v3 :: aI v2 :: aI v1 :: aP v0 :: S) (sT h) Q ↔ wp 230 (am_ju 230 0) [aP v0, aI v1, aI v2, aI v3, aI v4, aI v5, aX] [] (sT h) (fun r s' => wp m is L (am_pu r S) s' Q) := r_CALL (m' := 230) (As := [aP v0, aI v1, aI v2, aI v3, aI v4, aI v5]) rfl rfl rfl h8 (by show (true && (false || (true && am_is (sT h) v0 11))) = true; rw [show am_is (sT h) v0 11 = true from kd_is hk (by decide) h]; rfl)
end CLS
theorem kd_0 : kd 0 = 10 := by decide +kernel
theorem ln_0 : ln 0 = 11 := by decide +kernel
theorem kd_1 : kd 1 = 9 := by decide +kernel
theorem ln_1 : ln 1 = 4 := by decide +kernel
theorem kd_2 : kd 2 = 2 := by decide +kernel
theorem ln_2 : ln 2 = 8 := by decide +kernel
theorem kd_3 : kd 3 = 20 := by decide +kernel
theorem ln_3 : ln 3 = 3 := by decide +kernel
theorem kd_4 : kd 4 = 20 := by decide +kernel
theorem ln_4 : ln 4 = 8 := by decide +kernel
theorem kd_5 : kd 5 = 20 := by decide +kernel
theorem ln_5 : ln 5 = 8 := by decide +kernel
theorem kd_6 : kd 6 = 20 := by decide +kernel
theorem ln_6 : ln 6 = 8 := by decide +kernel
theorem kd_7 : kd 7 = 20 := by decide +kernel
theorem ln_7 : ln 7 = 8 := by decide +kernel
theorem kd_8 : kd 8 = 20 := by decide +kernel
theorem ln_8 : ln 8 = 8 := by decide +kernel
theorem kd_9 : kd 9 = 8 := by decide +kernel
theorem ln_9 : ln 9 = 2 := by decide +kernel
theorem kd_10 : kd 10 = 20 := by decide +kernel
theorem ln_10 : ln 10 = 20 := by decide +kernel
theorem kd_11 : kd 11 = 3 := by decide +kernel
theorem ln_11 : ln 11 = 6 := by decide +kernel
theorem kd_12 : kd 12 = 20 := by decide +kernel
theorem ln_12 : ln 12 = 3 := by decide +kernel
theorem kd_13 : kd 13 = 20 := by decide +kernel
theorem ln_13 : ln 13 = 3 := by decide +kernel
theorem kd_14 : kd 14 = 20 := by decide +kernel
theorem ln_14 : ln 14 = 3 := by decide +kernel
theorem kd_15 : kd 15 = 20 := by decide +kernel
theorem ln_15 : ln 15 = 8 := by decide +kernel
theorem kd_16 : kd 16 = 5 := by decide +kernel
theorem ln_16 : ln 16 = 3 := by decide +kernel
theorem kd_17 : kd 17 = 22 := by decide +kernel
theorem ln_17 : ln 17 = 8 := by decide +kernel
theorem kd_18 : kd 18 = 3 := by decide +kernel
theorem ln_18 : ln 18 = 6 := by decide +kernel
theorem kd_19 : kd 19 = 20 := by decide +kernel
theorem ln_19 : ln 19 = 3 := by decide +kernel
theorem kd_20 : kd 20 = 20 := by decide +kernel
theorem ln_20 : ln 20 = 3 := by decide +kernel
theorem kd_21 : kd 21 = 20 := by decide +kernel
theorem ln_21 : ln 21 = 3 := by decide +kernel
theorem kd_22 : kd 22 = 20 := by decide +kernel
theorem ln_22 : ln 22 = 8 := by decide +kernel
theorem kd_23 : kd 23 = 3 := by decide +kernel
theorem ln_23 : ln 23 = 6 := by decide +kernel
theorem kd_24 : kd 24 = 20 := by decide +kernel
theorem ln_24 : ln 24 = 3 := by decide +kernel
theorem kd_25 : kd 25 = 20 := by decide +kernel
theorem ln_25 : ln 25 = 3 := by decide +kernel
theorem kd_26 : kd 26 = 20 := by decide +kernel
theorem ln_26 : ln 26 = 3 := by decide +kernel
theorem kd_27 : kd 27 = 20 := by decide +kernel
theorem ln_27 : ln 27 = 8 := by decide +kernel
theorem kd_28 : kd 28 = 3 := by decide +kernel
theorem ln_28 : ln 28 = 6 := by decide +kernel
theorem kd_29 : kd 29 = 20 := by decide +kernel
theorem ln_29 : ln 29 = 3 := by decide +kernel
theorem kd_30 : kd 30 = 20 := by decide +kernel
theorem ln_30 : ln 30 = 3 := by decide +kernel
theorem kd_31 : kd 31 = 20 := by decide +kernel
theorem ln_31 : ln 31 = 3 := by decide +kernel
theorem kd_32 : kd 32 = 20 := by decide +kernel
theorem ln_32 : ln 32 = 8 := by decide +kernel
theorem kd_33 : kd 33 = 3 := by decide +kernel
theorem ln_33 : ln 33 = 6 := by decide +kernel
theorem kd_34 : kd 34 = 20 := by decide +kernel
theorem ln_34 : ln 34 = 3 := by decide +kernel
theorem kd_35 : kd 35 = 20 := by decide +kernel
theorem ln_35 : ln 35 = 3 := by decide +kernel
theorem kd_36 : kd 36 = 20 := by decide +kernel
theorem ln_36 : ln 36 = 3 := by decide +kernel
theorem kd_37 : kd 37 = 20 := by decide +kernel
theorem ln_37 : ln 37 = 8 := by decide +kernel
theorem kd_38 : kd 38 = 3 := by decide +kernel
theorem ln_38 : ln 38 = 6 := by decide +kernel
theorem kd_39 : kd 39 = 20 := by decide +kernel
theorem ln_39 : ln 39 = 3 := by decide +kernel
theorem kd_40 : kd 40 = 20 := by decide +kernel
theorem ln_40 : ln 40 = 3 := by decide +kernel
theorem kd_41 : kd 41 = 20 := by decide +kernel
theorem ln_41 : ln 41 = 3 := by decide +kernel
theorem kd_42 : kd 42 = 20 := by decide +kernel
theorem ln_42 : ln 42 = 8 := by decide +kernel
theorem kd_43 : kd 43 = 3 := by decide +kernel
theorem ln_43 : ln 43 = 6 := by decide +kernel
theorem kd_44 : kd 44 = 20 := by decide +kernel
theorem ln_44 : ln 44 = 3 := by decide +kernel
theorem kd_45 : kd 45 = 20 := by decide +kernel
theorem ln_45 : ln 45 = 3 := by decide +kernel
theorem kd_46 : kd 46 = 20 := by decide +kernel
theorem ln_46 : ln 46 = 3 := by decide +kernel
theorem kd_47 : kd 47 = 20 := by decide +kernel
theorem ln_47 : ln 47 = 8 := by decide +kernel
theorem kd_48 : kd 48 = 3 := by decide +kernel
theorem ln_48 : ln 48 = 6 := by decide +kernel
theorem kd_49 : kd 49 = 20 := by decide +kernel
theorem ln_49 : ln 49 = 3 := by decide +kernel
theorem kd_50 : kd 50 = 20 := by decide +kernel
theorem ln_50 : ln 50 = 3 := by decide +kernel
theorem kd_51 : kd 51 = 20 := by decide +kernel
theorem ln_51 : ln 51 = 3 := by decide +kernel
theorem kd_52 : kd 52 = 20 := by decide +kernel
theorem ln_52 : ln 52 = 8 := by decide +kernel
theorem kd_53 : kd 53 = 3 := by decide +kernel
theorem ln_53 : ln 53 = 6 := by decide +kernel
theorem kd_54 : kd 54 = 20 := by decide +kernel
theorem ln_54 : ln 54 = 3 := by decide +kernel
theorem kd_55 : kd 55 = 20 := by decide +kernel
theorem ln_55 : ln 55 = 3 := by decide +kernel
theorem kd_56 : kd 56 = 20 := by decide +kernel
theorem ln_56 : ln 56 = 3 := by decide +kernel
theorem kd_57 : kd 57 = 20 := by decide +kernel
theorem ln_57 : ln 57 = 8 := by decide +kernel
theorem kd_58 : kd 58 = 0 := by decide +kernel
theorem ln_58 : ln 58 = 8 := by decide +kernel
theorem kd_59 : kd 59 = 7 := by decide +kernel
theorem ln_59 : ln 59 = 3 := by decide +kernel
theorem kd_60 : kd 60 = 20 := by decide +kernel
theorem ln_60 : ln 60 = 100 := by decide +kernel
theorem kd_61 : kd 61 = 8 := by decide +kernel
theorem ln_61 : ln 61 = 2 := by decide +kernel
theorem kd_62 : kd 62 = 20 := by decide +kernel
theorem ln_62 : ln 62 = 20 := by decide +kernel
theorem kd_63 : kd 63 = 2 := by decide +kernel
theorem ln_63 : ln 63 = 8 := by decide +kernel
theorem kd_64 : kd 64 = 20 := by decide +kernel
theorem ln_64 : ln 64 = 3 := by decide +kernel
theorem kd_65 : kd 65 = 20 := by decide +kernel
theorem ln_65 : ln 65 = 8 := by decide +kernel
theorem kd_66 : kd 66 = 20 := by decide +kernel
theorem ln_66 : ln 66 = 8 := by decide +kernel
theorem kd_67 : kd 67 = 20 := by decide +kernel
theorem ln_67 : ln 67 = 8 := by decide +kernel
theorem kd_68 : kd 68 = 20 := by decide +kernel
theorem ln_68 : ln 68 = 8 := by decide +kernel
theorem kd_69 : kd 69 = 20 := by decide +kernel
theorem ln_69 : ln 69 = 8 := by decide +kernel
theorem kd_70 : kd 70 = 20 := by decide +kernel
theorem ln_70 : ln 70 = 8 := by decide +kernel
theorem kd_71 : kd 71 = 23 := by decide +kernel
theorem ln_71 : ln 71 = 4 := by decide +kernel
theorem kd_72 : kd 72 = 6 := by decide +kernel
theorem ln_72 : ln 72 = 4 := by decide +kernel
theorem kd_73 : kd 73 = 21 := by decide +kernel
theorem ln_73 : ln 73 = 24 := by decide +kernel
theorem kd_74 : kd 74 = 6 := by decide +kernel
theorem ln_74 : ln 74 = 4 := by decide +kernel
theorem kd_75 : kd 75 = 21 := by decide +kernel
theorem ln_75 : ln 75 = 24 := by decide +kernel
theorem kd_76 : kd 76 = 6 := by decide +kernel
theorem ln_76 : ln 76 = 4 := by decide +kernel
theorem kd_77 : kd 77 = 21 := by decide +kernel
theorem ln_77 : ln 77 = 24 := by decide +kernel
theorem kd_78 : kd 78 = 6 := by decide +kernel
theorem ln_78 : ln 78 = 4 := by decide +kernel
theorem kd_79 : kd 79 = 21 := by decide +kernel
theorem ln_79 : ln 79 = 24 := by decide +kernel
theorem kd_80 : kd 80 = 9 := by decide +kernel
theorem ln_80 : ln 80 = 4 := by decide +kernel
theorem kd_81 : kd 81 = 2 := by decide +kernel
theorem ln_81 : ln 81 = 8 := by decide +kernel
theorem kd_82 : kd 82 = 20 := by decide +kernel
theorem ln_82 : ln 82 = 3 := by decide +kernel
theorem kd_83 : kd 83 = 20 := by decide +kernel
theorem ln_83 : ln 83 = 8 := by decide +kernel
theorem kd_84 : kd 84 = 20 := by decide +kernel
theorem ln_84 : ln 84 = 8 := by decide +kernel
theorem kd_85 : kd 85 = 20 := by decide +kernel
theorem ln_85 : ln 85 = 8 := by decide +kernel
theorem kd_86 : kd 86 = 20 := by decide +kernel
theorem ln_86 : ln 86 = 8 := by decide +kernel
theorem kd_87 : kd 87 = 20 := by decide +kernel
theorem ln_87 : ln 87 = 8 := by decide +kernel
theorem kd_88 : kd 88 = 8 := by decide +kernel
theorem ln_88 : ln 88 = 2 := by decide +kernel
theorem kd_89 : kd 89 = 20 := by decide +kernel
theorem ln_89 : ln 89 = 20 := by decide +kernel
theorem kd_90 : kd 90 = 3 := by decide +kernel
theorem ln_90 : ln 90 = 6 := by decide +kernel
theorem kd_91 : kd 91 = 20 := by decide +kernel
theorem ln_91 : ln 91 = 3 := by decide +kernel
theorem kd_92 : kd 92 = 20 := by decide +kernel
theorem ln_92 : ln 92 = 3 := by decide +kernel
theorem kd_93 : kd 93 = 20 := by decide +kernel
theorem ln_93 : ln 93 = 3 := by decide +kernel
theorem kd_94 : kd 94 = 20 := by decide +kernel
theorem ln_94 : ln 94 = 8 := by decide +kernel
theorem kd_95 : kd 95 = 5 := by decide +kernel
theorem ln_95 : ln 95 = 3 := by decide +kernel
theorem kd_96 : kd 96 = 22 := by decide +kernel
theorem ln_96 : ln 96 = 8 := by decide +kernel
theorem kd_97 : kd 97 = 3 := by decide +kernel
theorem ln_97 : ln 97 = 6 := by decide +kernel
theorem kd_98 : kd 98 = 20 := by decide +kernel
theorem ln_98 : ln 98 = 3 := by decide +kernel
theorem kd_99 : kd 99 = 20 := by decide +kernel
theorem ln_99 : ln 99 = 3 := by decide +kernel
theorem kd_100 : kd 100 = 20 := by decide +kernel
theorem ln_100 : ln 100 = 3 := by decide +kernel
theorem kd_101 : kd 101 = 20 := by decide +kernel
theorem ln_101 : ln 101 = 8 := by decide +kernel
theorem kd_102 : kd 102 = 3 := by decide +kernel
theorem ln_102 : ln 102 = 6 := by decide +kernel
theorem kd_103 : kd 103 = 20 := by decide +kernel
theorem ln_103 : ln 103 = 3 := by decide +kernel
theorem kd_104 : kd 104 = 20 := by decide +kernel
theorem ln_104 : ln 104 = 3 := by decide +kernel
theorem kd_105 : kd 105 = 20 := by decide +kernel
theorem ln_105 : ln 105 = 3 := by decide +kernel
theorem kd_106 : kd 106 = 20 := by decide +kernel
theorem ln_106 : ln 106 = 8 := by decide +kernel
theorem kd_107 : kd 107 = 3 := by decide +kernel
theorem ln_107 : ln 107 = 6 := by decide +kernel
theorem kd_108 : kd 108 = 20 := by decide +kernel
theorem ln_108 : ln 108 = 3 := by decide +kernel
theorem kd_109 : kd 109 = 20 := by decide +kernel
theorem ln_109 : ln 109 = 3 := by decide +kernel
theorem kd_110 : kd 110 = 20 := by decide +kernel
theorem ln_110 : ln 110 = 3 := by decide +kernel
theorem kd_111 : kd 111 = 20 := by decide +kernel
theorem ln_111 : ln 111 = 8 := by decide +kernel
theorem kd_112 : kd 112 = 3 := by decide +kernel
theorem ln_112 : ln 112 = 6 := by decide +kernel
theorem kd_113 : kd 113 = 20 := by decide +kernel
theorem ln_113 : ln 113 = 3 := by decide +kernel
theorem kd_114 : kd 114 = 20 := by decide +kernel
theorem ln_114 : ln 114 = 3 := by decide +kernel
theorem kd_115 : kd 115 = 20 := by decide +kernel
theorem ln_115 : ln 115 = 3 := by decide +kernel
theorem kd_116 : kd 116 = 20 := by decide +kernel
theorem ln_116 : ln 116 = 8 := by decide +kernel
theorem kd_117 : kd 117 = 3 := by decide +kernel
theorem ln_117 : ln 117 = 6 := by decide +kernel
theorem kd_118 : kd 118 = 20 := by decide +kernel
theorem ln_118 : ln 118 = 3 := by decide +kernel
theorem kd_119 : kd 119 = 20 := by decide +kernel
theorem ln_119 : ln 119 = 3 := by decide +kernel
theorem kd_120 : kd 120 = 20 := by decide +kernel
theorem ln_120 : ln 120 = 3 := by decide +kernel
theorem kd_121 : kd 121 = 20 := by decide +kernel
theorem ln_121 : ln 121 = 8 := by decide +kernel
theorem kd_122 : kd 122 = 3 := by decide +kernel
theorem ln_122 : ln 122 = 6 := by decide +kernel
theorem kd_123 : kd 123 = 20 := by decide +kernel
theorem ln_123 : ln 123 = 3 := by decide +kernel
theorem kd_124 : kd 124 = 20 := by decide +kernel
theorem ln_124 : ln 124 = 3 := by decide +kernel
theorem kd_125 : kd 125 = 20 := by decide +kernel
theorem ln_125 : ln 125 = 3 := by decide +kernel
theorem kd_126 : kd 126 = 20 := by decide +kernel
theorem ln_126 : ln 126 = 8 := by decide +kernel
theorem kd_127 : kd 127 = 3 := by decide +kernel
theorem ln_127 : ln 127 = 6 := by decide +kernel
theorem kd_128 : kd 128 = 20 := by decide +kernel
theorem ln_128 : ln 128 = 3 := by decide +kernel
theorem kd_129 : kd 129 = 20 := by decide +kernel
theorem ln_129 : ln 129 = 3 := by decide +kernel
theorem kd_130 : kd 130 = 20 := by decide +kernel
theorem ln_130 : ln 130 = 3 := by decide +kernel
theorem kd_131 : kd 131 = 20 := by decide +kernel
theorem ln_131 : ln 131 = 8 := by decide +kernel
theorem kd_132 : kd 132 = 3 := by decide +kernel
theorem ln_132 : ln 132 = 6 := by decide +kernel
theorem kd_133 : kd 133 = 20 := by decide +kernel
theorem ln_133 : ln 133 = 3 := by decide +kernel
theorem kd_134 : kd 134 = 20 := by decide +kernel
theorem ln_134 : ln 134 = 3 := by decide +kernel
theorem kd_135 : kd 135 = 20 := by decide +kernel
theorem ln_135 : ln 135 = 3 := by decide +kernel
theorem kd_136 : kd 136 = 20 := by decide +kernel
theorem ln_136 : ln 136 = 8 := by decide +kernel
theorem kd_137 : kd 137 = 4 := by decide +kernel
theorem ln_137 : ln 137 = 10 := by decide +kernel
theorem kd_138 : kd 138 = 0 := by decide +kernel
theorem ln_138 : ln 138 = 8 := by decide +kernel
theorem kd_139 : kd 139 = 20 := by decide +kernel
theorem ln_139 : ln 139 = 20 := by decide +kernel
theorem kd_140 : kd 140 = 20 := by decide +kernel
theorem ln_140 : ln 140 = 20 := by decide +kernel
theorem kd_141 : kd 141 = 20 := by decide +kernel
theorem ln_141 : ln 141 = 6 := by decide +kernel
theorem kd_142 : kd 142 = 20 := by decide +kernel
theorem ln_142 : ln 142 = 192 := by decide +kernel
theorem kd_143 : kd 143 = 20 := by decide +kernel
theorem ln_143 : ln 143 = 6 := by decide +kernel
theorem kd_144 : kd 144 = 20 := by decide +kernel
theorem ln_144 : ln 144 = 6 := by decide +kernel
theorem kd_145 : kd 145 = 1 := by decide +kernel
theorem ln_145 : ln 145 = 5 := by decide +kernel
theorem kd_146 : kd 146 = 20 := by decide +kernel
theorem ln_146 : ln 146 = 6 := by decide +kernel
theorem kd_147 : kd 147 = 20 := by decide +kernel
theorem ln_147 : ln 147 = 6 := by decide +kernel
theorem kd_148 : kd 148 = 20 := by decide +kernel
theorem ln_148 : ln 148 = 64 := by decide +kernel
theorem kd_149 : kd 149 = 11 := by decide +kernel
theorem ln_149 : ln 149 = 19 := by decide +kernel
theorem kd_150 : kd 150 = 20 := by decide +kernel
theorem ln_150 : ln 150 = 238 := by decide +kernel
theorem kd_151 : kd 151 = 20 := by decide +kernel
theorem ln_151 : ln 151 = 238 := by decide +kernel
theorem kd_152 : kd 152 = 20 := by decide +kernel
theorem ln_152 : ln 152 = 238 := by decide +kernel
theorem kd_153 : kd 153 = 20 := by decide +kernel
theorem ln_153 : ln 153 = 238 := by decide +kernel
theorem kd_154 : kd 154 = 20 := by decide +kernel
theorem ln_154 : ln 154 = 100 := by decide +kernel
theorem kd_155 : kd 155 = 20 := by decide +kernel
theorem ln_155 : ln 155 = 4 := by decide +kernel
theorem kd_156 : kd 156 = 20 := by decide +kernel
theorem ln_156 : ln 156 = 4 := by decide +kernel
theorem kd_157 : kd 157 = 21 := by decide +kernel
theorem ln_157 : ln 157 = 96 := by decide +kernel
theorem kd_158 : kd 158 = 21 := by decide +kernel
theorem ln_158 : ln 158 = 24 := by decide +kernel
theorem kd_159 : kd 159 = 20 := by decide +kernel
theorem ln_159 : ln 159 = 6 := by decide +kernel
theorem kd_160 : kd 160 = 20 := by decide +kernel
theorem ln_160 : ln 160 = 6 := by decide +kernel
theorem kd_161 : kd 161 = 20 := by decide +kernel
theorem ln_161 : ln 161 = 6 := by decide +kernel
theorem rR_0_0 : rR 0 0 = 80 := by decide +kernel
theorem rR_0_1 : rR 0 1 = 1 := by decide +kernel
theorem rR_0_3 : rR 0 3 = 137 := by decide +kernel
theorem rR_0_4 : rR 0 4 = 145 := by decide +kernel
theorem rR_0_5 : rR 0 5 = 58 := by decide +kernel
theorem rR_0_6 : rR 0 6 = 59 := by decide +kernel
theorem rR_0_7 : rR 0 7 = 61 := by decide +kernel
theorem rR_0_8 : rR 0 8 = 63 := by decide +kernel
theorem rR_0_9 : rR 0 9 = 70 := by decide +kernel
theorem rR_0_10 : rR 0 10 = 71 := by decide +kernel
theorem rR_1_0 : rR 1 0 = 2 := by decide +kernel
theorem rR_1_1 : rR 1 1 = 9 := by decide +kernel
theorem rR_1_2 : rR 1 2 = 11 := by decide +kernel
theorem rR_1_3 : rR 1 3 = 16 := by decide +kernel
theorem rR_2_0 : rR 2 0 = 3 := by decide +kernel
theorem rR_2_1 : rR 2 1 = 4 := by decide +kernel
theorem rR_2_2 : rR 2 2 = 5 := by decide +kernel
theorem rR_2_3 : rR 2 3 = 6 := by decide +kernel
theorem rR_2_4 : rR 2 4 = 7 := by decide +kernel
theorem rR_2_5 : rR 2 5 = 8 := by decide +kernel
theorem rR_9_0 : rR 9 0 = 10 := by decide +kernel
theorem rR_11_0 : rR 11 0 = 12 := by decide +kernel
theorem rR_11_1 : rR 11 1 = 13 := by decide +kernel
theorem rR_11_2 : rR 11 2 = 14 := by decide +kernel
theorem rR_11_3 : rR 11 3 = 15 := by decide +kernel
theorem rR_16_0 : rR 16 0 = 17 := by decide +kernel
theorem rR_17_0 : rR 17 0 = 18 := by decide +kernel
theorem rR_17_1 : rR 17 1 = 23 := by decide +kernel
theorem rR_17_2 : rR 17 2 = 28 := by decide +kernel
theorem rR_17_3 : rR 17 3 = 33 := by decide +kernel
theorem rR_17_4 : rR 17 4 = 38 := by decide +kernel
theorem rR_17_5 : rR 17 5 = 43 := by decide +kernel
theorem rR_17_6 : rR 17 6 = 48 := by decide +kernel
theorem rR_17_7 : rR 17 7 = 53 := by decide +kernel
theorem rR_18_0 : rR 18 0 = 19 := by decide +kernel
theorem rR_18_1 : rR 18 1 = 20 := by decide +kernel
theorem rR_18_2 : rR 18 2 = 21 := by decide +kernel
theorem rR_18_3 : rR 18 3 = 22 := by decide +kernel
theorem rR_23_0 : rR 23 0 = 24 := by decide +kernel
theorem rR_23_1 : rR 23 1 = 25 := by decide +kernel
theorem rR_23_2 : rR 23 2 = 26 := by decide +kernel
theorem rR_23_3 : rR 23 3 = 27 := by decide +kernel
theorem rR_28_0 : rR 28 0 = 29 := by decide +kernel
theorem rR_28_1 : rR 28 1 = 30 := by decide +kernel
theorem rR_28_2 : rR 28 2 = 31 := by decide +kernel
theorem rR_28_3 : rR 28 3 = 32 := by decide +kernel
theorem rR_33_0 : rR 33 0 = 34 := by decide +kernel
theorem rR_33_1 : rR 33 1 = 35 := by decide +kernel
theorem rR_33_2 : rR 33 2 = 36 := by decide +kernel
theorem rR_33_3 : rR 33 3 = 37 := by decide +kernel
theorem rR_38_0 : rR 38 0 = 39 := by decide +kernel
theorem rR_38_1 : rR 38 1 = 40 := by decide +kernel
theorem rR_38_2 : rR 38 2 = 41 := by decide +kernel
theorem rR_38_3 : rR 38 3 = 42 := by decide +kernel
theorem rR_43_0 : rR 43 0 = 44 := by decide +kernel
theorem rR_43_1 : rR 43 1 = 45 := by decide +kernel
theorem rR_43_2 : rR 43 2 = 46 := by decide +kernel
theorem rR_43_3 : rR 43 3 = 47 := by decide +kernel
theorem rR_48_0 : rR 48 0 = 49 := by decide +kernel
theorem rR_48_1 : rR 48 1 = 50 := by decide +kernel
theorem rR_48_2 : rR 48 2 = 51 := by decide +kernel
theorem rR_48_3 : rR 48 3 = 52 := by decide +kernel
theorem rR_53_0 : rR 53 0 = 54 := by decide +kernel
theorem rR_53_1 : rR 53 1 = 55 := by decide +kernel
theorem rR_53_2 : rR 53 2 = 56 := by decide +kernel
theorem rR_53_3 : rR 53 3 = 57 := by decide +kernel
theorem rR_59_0 : rR 59 0 = 60 := by decide +kernel
theorem rR_61_0 : rR 61 0 = 62 := by decide +kernel
theorem rR_63_0 : rR 63 0 = 64 := by decide +kernel
theorem rR_63_1 : rR 63 1 = 65 := by decide +kernel
theorem rR_63_2 : rR 63 2 = 66 := by decide +kernel
theorem rR_63_3 : rR 63 3 = 67 := by decide +kernel
theorem rR_63_4 : rR 63 4 = 68 := by decide +kernel
theorem rR_63_5 : rR 63 5 = 69 := by decide +kernel
theorem rR_71_0 : rR 71 0 = 72 := by decide +kernel
theorem rR_71_1 : rR 71 1 = 74 := by decide +kernel
theorem rR_71_2 : rR 71 2 = 76 := by decide +kernel
theorem rR_71_3 : rR 71 3 = 78 := by decide +kernel
theorem rR_72_0 : rR 72 0 = 73 := by decide +kernel
theorem rR_74_0 : rR 74 0 = 75 := by decide +kernel
theorem rR_76_0 : rR 76 0 = 77 := by decide +kernel
theorem rR_78_0 : rR 78 0 = 79 := by decide +kernel
theorem rR_80_0 : rR 80 0 = 81 := by decide +kernel
theorem rR_80_1 : rR 80 1 = 88 := by decide +kernel
theorem rR_80_2 : rR 80 2 = 90 := by decide +kernel
theorem rR_80_3 : rR 80 3 = 95 := by decide +kernel
theorem rR_81_0 : rR 81 0 = 82 := by decide +kernel
theorem rR_81_1 : rR 81 1 = 83 := by decide +kernel
theorem rR_81_2 : rR 81 2 = 84 := by decide +kernel
theorem rR_81_3 : rR 81 3 = 85 := by decide +kernel
theorem rR_81_4 : rR 81 4 = 86 := by decide +kernel
theorem rR_81_5 : rR 81 5 = 87 := by decide +kernel
theorem rR_88_0 : rR 88 0 = 89 := by decide +kernel
theorem rR_90_0 : rR 90 0 = 91 := by decide +kernel
theorem rR_90_1 : rR 90 1 = 92 := by decide +kernel
theorem rR_90_2 : rR 90 2 = 93 := by decide +kernel
theorem rR_90_3 : rR 90 3 = 94 := by decide +kernel
theorem rR_95_0 : rR 95 0 = 96 := by decide +kernel
theorem rR_96_0 : rR 96 0 = 97 := by decide +kernel
theorem rR_96_1 : rR 96 1 = 102 := by decide +kernel
theorem rR_96_2 : rR 96 2 = 107 := by decide +kernel
theorem rR_96_3 : rR 96 3 = 112 := by decide +kernel
theorem rR_96_4 : rR 96 4 = 117 := by decide +kernel
theorem rR_96_5 : rR 96 5 = 122 := by decide +kernel
theorem rR_96_6 : rR 96 6 = 127 := by decide +kernel
theorem rR_96_7 : rR 96 7 = 132 := by decide +kernel
theorem rR_97_0 : rR 97 0 = 98 := by decide +kernel
theorem rR_97_1 : rR 97 1 = 99 := by decide +kernel
theorem rR_97_2 : rR 97 2 = 100 := by decide +kernel
theorem rR_97_3 : rR 97 3 = 101 := by decide +kernel
theorem rR_102_0 : rR 102 0 = 103 := by decide +kernel
theorem rR_102_1 : rR 102 1 = 104 := by decide +kernel
theorem rR_102_2 : rR 102 2 = 105 := by decide +kernel
theorem rR_102_3 : rR 102 3 = 106 := by decide +kernel
theorem rR_107_0 : rR 107 0 = 108 := by decide +kernel
theorem rR_107_1 : rR 107 1 = 109 := by decide +kernel
theorem rR_107_2 : rR 107 2 = 110 := by decide +kernel
theorem rR_107_3 : rR 107 3 = 111 := by decide +kernel
theorem rR_112_0 : rR 112 0 = 113 := by decide +kernel
theorem rR_112_1 : rR 112 1 = 114 := by decide +kernel
theorem rR_112_2 : rR 112 2 = 115 := by decide +kernel
theorem rR_112_3 : rR 112 3 = 116 := by decide +kernel
theorem rR_117_0 : rR 117 0 = 118 := by decide +kernel
theorem rR_117_1 : rR 117 1 = 119 := by decide +kernel
theorem rR_117_2 : rR 117 2 = 120 := by decide +kernel
theorem rR_117_3 : rR 117 3 = 121 := by decide +kernel
theorem rR_122_0 : rR 122 0 = 123 := by decide +kernel
theorem rR_122_1 : rR 122 1 = 124 := by decide +kernel
theorem rR_122_2 : rR 122 2 = 125 := by decide +kernel
theorem rR_122_3 : rR 122 3 = 126 := by decide +kernel
theorem rR_127_0 : rR 127 0 = 128 := by decide +kernel
theorem rR_127_1 : rR 127 1 = 129 := by decide +kernel
theorem rR_127_2 : rR 127 2 = 130 := by decide +kernel
theorem rR_127_3 : rR 127 3 = 131 := by decide +kernel
theorem rR_132_0 : rR 132 0 = 133 := by decide +kernel
theorem rR_132_1 : rR 132 1 = 134 := by decide +kernel
theorem rR_132_2 : rR 132 2 = 135 := by decide +kernel
theorem rR_132_3 : rR 132 3 = 136 := by decide +kernel
theorem rR_137_0 : rR 137 0 = 80 := by decide +kernel
theorem rR_137_1 : rR 137 1 = 138 := by decide +kernel
theorem rR_137_2 : rR 137 2 = 139 := by decide +kernel
theorem rR_137_3 : rR 137 3 = 140 := by decide +kernel
theorem rR_137_4 : rR 137 4 = 141 := by decide +kernel
theorem rR_137_6 : rR 137 6 = 142 := by decide +kernel
theorem rR_137_7 : rR 137 7 = 143 := by decide +kernel
theorem rR_137_8 : rR 137 8 = 144 := by decide +kernel
theorem rR_145_0 : rR 145 0 = 80 := by decide +kernel
theorem rR_145_1 : rR 145 1 = 146 := by decide +kernel
theorem rR_145_2 : rR 145 2 = 147 := by decide +kernel
theorem rR_145_4 : rR 145 4 = 148 := by decide +kernel
theorem rR_149_0 : rR 149 0 = 150 := by decide +kernel
theorem rR_149_1 : rR 149 1 = 151 := by decide +kernel
theorem rR_149_2 : rR 149 2 = 152 := by decide +kernel
theorem rR_149_3 : rR 149 3 = 153 := by decide +kernel
theorem rR_149_5 : rR 149 5 = 154 := by decide +kernel
theorem rR_149_7 : rR 149 7 = 155 := by decide +kernel
theorem rR_149_8 : rR 149 8 = 156 := by decide +kernel
theorem rR_149_9 : rR 149 9 = 157 := by decide +kernel
theorem rR_149_10 : rR 149 10 = 158 := by decide +kernel
theorem rR_149_16 : rR 149 16 = 159 := by decide +kernel
theorem rR_149_17 : rR 149 17 = 160 := by decide +kernel
theorem rR_149_18 : rR 149 18 = 161 := by decide +kernel
theorem kc_0 {c : Int} (hk : kd c = 0) : c ∈ ([58, 138] : List Int) := by
  obtain ⟨h1, h2, h3⟩ := am_is_iff.mp (kd_is hk (by decide) (fun _ _ => 0))
  obtain ⟨n, rfl⟩ := Int.eq_ofNat_of_zero_le h3
  have h1 : n < 162 := h1
  have hall : ∀ n : Nat, n < 162 → (am_lay (n : Int)).1 = 0 → (n : Int) ∈ ([58, 138] : List Int) := by decide +kernel
  exact hall n h1 h2
theorem kc_1 {c : Int} (hk : kd c = 1) : c ∈ ([145] : List Int) := by
  obtain ⟨h1, h2, h3⟩ := am_is_iff.mp (kd_is hk (by decide) (fun _ _ => 0))
  obtain ⟨n, rfl⟩ := Int.eq_ofNat_of_zero_le h3
  have h1 : n < 162 := h1
  have hall : ∀ n : Nat, n < 162 → (am_lay (n : Int)).1 = 1 → (n : Int) ∈ ([145] : List Int) := by decide +kernel
  exact hall n h1 h2
theorem kc_2 {c : Int} (hk : kd c = 2) : c ∈ ([2, 63, 81] : List Int) := by
  obtain ⟨h1, h2, h3⟩ := am_is_iff.mp (kd_is hk (by decide) (fun _ _ => 0))
  obtain ⟨n, rfl⟩ := Int.eq_ofNat_of_zero_le h3
  have h1 : n < 162 := h1
  have hall : ∀ n : Nat, n < 162 → (am_lay (n : Int)).1 = 2 → (n : Int) ∈ ([2, 63, 81] : List Int) := by decide +kernel
  exact hall n h1 h2
theorem kc_3 {c : Int} (hk : kd c = 3) : c ∈ ([11, 18, 23, 28, 33, 38, 43, 48, 53, 90, 97, 102, 107, 112, 117, 122, 127, 132] : List Int) := by
  obtain ⟨h1, h2, h3⟩ := am_is_iff.mp (kd_is hk (by decide) (fun _ _ => 0))
  obtain ⟨n, rfl⟩ := Int.eq_ofNat_of_zero_le h3
  have h1 : n < 162 := h1
  have hall : ∀ n : Nat, n < 162 → (am_lay (n : Int)).1 = 3 → (n : Int) ∈ ([11, 18, 23, 28, 33, 38, 43, 48, 53, 90, 97, 102, 107, 112, 117, 122, 127, 132] : List Int) := by decide +kernel
  exact hall n h1 h2
theorem kc_4 {c : Int} (hk : kd c = 4) : c ∈ ([137] : List Int) := by
  obtain ⟨h1, h2, h3⟩ := am_is_iff.mp (kd_is hk (by decide) (fun _ _ => 0))
  obtain ⟨n, rfl⟩ := Int.eq_ofNat_of_zero_le h3
  have h1 : n < 162 := h1
  have hall : ∀ n : Nat, n < 162 → (am_lay (n : Int)).1 = 4 → (n : Int) ∈ ([137] : List Int) := by decide +kernel
  exact hall n h1 h2
theorem kc_5 {c : Int} (hk : kd c = 5) : c ∈ ([16, 95] : List Int) := by
  obtain ⟨h1, h2, h3⟩ := am_is_iff.mp (kd_is hk (by decide) (fun _ _ => 0))
  obtain ⟨n, rfl⟩ := Int.eq_ofNat_of_zero_le h3
  have h1 : n < 162 := h1
  have hall : ∀ n : Nat, n < 162 → (am_lay (n : Int)).1 = 5 → (n : Int) ∈ ([16, 95] : List Int) := by decide +kernel
  exact hall n h1 h2
theorem kc_6 {c : Int} (hk : kd c = 6) : c ∈ ([72, 74, 76, 78] : List Int) := by
  obtain ⟨h1, h2, h3⟩ := am_is_iff.mp (kd_is hk (by decide) (fun _ _ => 0))
  obtain ⟨n, rfl⟩ := Int.eq_ofNat_of_zero_le h3
  have h1 : n < 162 := h1
  have hall : ∀ n : Nat, n < 162 → (am_lay (n : Int)).1 = 6 → (n : Int) ∈ ([72, 74, 76, 78] : List Int) := by decide +kernel
  exact hall n h1 h2
theorem kc_7 {c : Int} (hk : kd c = 7) : c ∈ ([59] : List Int) := by
  obtain ⟨h1, h2, h3⟩ := am_is_iff.mp (kd_is hk (by decide) (fun _ _ => 0))
  obtain ⟨n, rfl⟩ := Int.eq_ofNat_of_zero_le h3
  have h1 : n < 162 := h1
  have hall : ∀ n : Nat, n < 162 → (am_lay (n : Int)).1 = 7 → (n : Int) ∈ ([59] : List Int) := by decide +kernel
  exact hall n h1 h2
theorem kc_8 {c : Int} (hk : kd c = 8) : c ∈ ([9, 61, 88] : List Int) := by
  obtain ⟨h1, h2, h3⟩ := am_is_iff.mp (kd_is hk (by decide) (fun _ _ => 0))
  obtain ⟨n, rfl⟩ := Int.eq_ofNat_of_zero_le h3
  have h1 : n < 162 := h1
  have hall : ∀ n : Nat, n < 162 → (am_lay (n : Int)).1 = 8 → (n : Int) ∈ ([9, 61, 88] : List Int) := by decide +kernel
  exact hall n h1 h2
theorem kc_9 {c : Int} (hk : kd c = 9) : c ∈ ([1, 80] : List Int) := by
  obtain ⟨h1, h2, h3⟩ := am_is_iff.mp (kd_is hk (by decide) (fun _ _ => 0))
  obtain ⟨n, rfl⟩ := Int.eq_ofNat_of_zero_le h3
  have h1 : n < 162 := h1
  have hall : ∀ n : Nat, n < 162 → (am_lay (n : Int)).1 = 9 → (n : Int) ∈ ([1, 80] : List Int) := by decide +kernel
  exact hall n h1 h2
theorem kc_10 {c : Int} (hk : kd c = 10) : c ∈ ([0] : List Int) := by
  obtain ⟨h1, h2, h3⟩ := am_is_iff.mp (kd_is hk (by decide) (fun _ _ => 0))
  obtain ⟨n, rfl⟩ := Int.eq_ofNat_of_zero_le h3
  have h1 : n < 162 := h1
  have hall : ∀ n : Nat, n < 162 → (am_lay (n : Int)).1 = 10 → (n : Int) ∈ ([0] : List Int) := by decide +kernel
  exact hall n h1 h2
theorem kc_11 {c : Int} (hk : kd c = 11) : c ∈ ([149] : List Int) := by
  obtain ⟨h1, h2, h3⟩ := am_is_iff.mp (kd_is hk (by decide) (fun _ _ => 0))
  obtain ⟨n, rfl⟩ := Int.eq_ofNat_of_zero_le h3
  have h1 : n < 162 := h1
  have hall : ∀ n : Nat, n < 162 → (am_lay (n : Int)).1 = 11 → (n : Int) ∈ ([149] : List Int) := by decide +kernel
  exact hall n h1 h2

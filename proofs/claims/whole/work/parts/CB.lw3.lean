theorem law_wp {h : am_F} (hz : ∀ c k, 0 ≤ c → h c k = 0) (hr : ∀ k, h (-1) k < 2147483648) (c0 : 0 ≤ h (-1) (-1)) (c4 : h (-1) (-1) ≤ 448) : wp 231 (am_ju 231 0) [aP (-1), aX, aX, aX] [] (0, [], h) (fun r st => r = aI 1 ∧ st.1 = 162) := by
  rw [ju_231_0]
  refine (wp_nx (t := 0) (L' := [aP (-1), aX, aX, aX]) (S' := [aP 0]) (st' := (1, [], h)) rfl).2 ?_
  refine (wp_nx (t := 0) (L' := [aP (-1), aX, aX, aX]) (S' := [aP 0, aP 0]) (st' := (1, [], h)) rfl).2 ?_
  refine (wp_ca (m' := 10) (As := [aP 0]) (S' := [aP 0]) (st' := (1, [], h)) rfl).2 (in_10_0 ?_)
  refine (wp_nx (t := 0) (L' := [aP (-1), aP 0, aX, aX]) (S' := []) (st' := (149, lq_10_0 [], hq_10_0 h)) rfl).2 ?_
  refine (wp_nx (t := 0) (L' := [aP (-1), aP 0, aX, aX]) (S' := [aP 149]) (st' := (150, lq_10_0 [], hq_10_0 h)) rfl).2 ?_
  refine (wp_nx (t := 0) (L' := [aP (-1), aP 0, aX, aX]) (S' := [aP 149, aP 149]) (st' := (150, lq_10_0 [], hq_10_0 h)) rfl).2 ?_
  refine (wp_ca (m' := 11) (As := [aP 149]) (S' := [aP 149]) (st' := (150, lq_10_0 [], hq_10_0 h)) rfl).2 (in_11_149 ?_)
  refine (wp_nx (t := 0) (L' := [aP (-1), aP 0, aP 149, aX]) (S' := []) (st' := sT (hq_11_149 (hq_10_0 h))) rfl).2 ?_
  refine (wp_nx (t := 0) (L' := [aP (-1), aP 0, aP 149, aX]) (S' := [aI 0]) (st' := sT (hq_11_149 (hq_10_0 h))) rfl).2 ?_
  refine (wp_nx (t := 0) (L' := [aP (-1), aP 0, aP 149, aI 0]) (S' := []) (st' := sT (hq_11_149 (hq_10_0 h))) rfl).2 ?_
  exact lw_loop (c1 := h (-1)) hr c0 c4 (fun h' => ⟨rfl, rfl⟩) 65 0 _ (by decide) (by decide) (by decide) (ini_INV hz) im_1

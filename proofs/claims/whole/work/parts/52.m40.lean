/-! joint steps: sheets -/
theorem INV.sh {m im2 : zMem} (h : INV m) (hr : ∀ r, ¬ r = 0 → ¬ (41 ≤ r ∧ r ≤ 46) → im2 r = m r) (h43 : ∀ j, ¬ j = 1 → im2 43 0 j = m 43 0 j) (h0 : im2 0 0 10 = im2 43 0 1) (h11 : im2 0 0 11 = m 0 0 11) (g2' : G2 im2) : INV im2 := by
  obtain ⟨g1, g2, g3, g4, g5⟩ := h
  refine ⟨g1.fr (fun r q => hr r (by omega) (by omega)) (h43 7 (by decide)) (h43 8 (by decide)) (h43 10 (by decide)), g2', g3.fr (h43 17 (by decide)) (hr 55 (by decide) (by decide)) (by rw [hr 16 (by decide) (by decide)]) (hr 17 (by decide) (by decide)), g4.fr (h43 41 (by decide)) (by rw [hr 39 (by decide) (by decide)]) (hr 40 (by decide) (by decide)) (hr 67 (by decide) (by decide)), h0, ?_, ?_⟩
  · rw [h11, h43 18 (by decide)]; exact g5.2.1
  · rw [h43 0 (by decide)]; exact g5.2.2
theorem INV.fnd' {m : zMem} (h : INV m) {k : Int32} : INV (zwr (zwr m 0 0 10 k) 43 0 1 k) := h.fnd (im1 := zwr m 0 0 10 k) Fc.refl rfl
theorem zset_r {im : zMem} {r i r' : Nat} {f : Nat → Int32} (h : ¬ r' = r) : zset im r i f r' = im r' := by unfold zset; rw [if_neg h]
theorem zset_i {im : zMem} {r i i' : Nat} {f : Nat → Int32} (h : ¬ i' = i) : zset im r i f r i' = im r i' := zset_ne (fun z => h z.2)
theorem J_sheet {l : Launch} {w : zWd} {m : zMem} {lv : Int64} (h : INV m) (a b c : Int32) : JS l w 4 zyX11_sheet [vR 0 0, vI a, vI b, vI c] 4 zyX12_sheet [vR 43 0, vI a, vI b, vI c] m lv := by
  refine ⟨_, C_X11_sheet _ _ _ a b c, ?_⟩
  rintro v1 im1 lv1 ⟨h1, rfl⟩
  by_cases hc : (0 ≤ a ∧ a < nI 8) ∧ (0 ≤ b ∧ b < nI 3) ∧ c ≤ nI 48
  · rw [if_pos hc] at h1
    by_cases h5 : 0 ≤ c
    · rw [if_pos h5] at h1
      obtain ⟨rfl, k1, k2, k3, k4, k5, k6⟩ := h1
      have e43 : im1 43 = m 43 := k1 43 (by decide) (by decide) (by decide)
      refine ⟨_, C_X12_sheet _ _ _ (by rw [e43]; exact h.2.2.2.2.2.2) a b v1, ?_⟩
      rintro v2 im2 lv2 ⟨h2, rfl⟩
      rw [if_pos hc, if_pos h5] at h2
      obtain ⟨rfl, rfl⟩ := h2
      refine ⟨rfl, ?_⟩
      obtain ⟨s, hs, rfl⟩ := zrx (N := 8) (by decide) hc.1
      rw [cNn (by omega)] at *
      obtain ⟨ln, hln, rfl⟩ := zrx (N := 3) (by decide) hc.2.1
      obtain ⟨n, hn31, rfl⟩ := nI_of (nn0.mpr h5)
      have hn48 : n ≤ 48 := by have := hc.2.2; rw [nI_leI hn31 (by decide)] at this; exact this
      have r44 : ∀ k, shM im1 s (nI ln) (nI n) 44 0 k = if k = s then nI ln else m 44 0 k := fun k => by
        unfold shM
        rw [zset_r (by decide), zwr_r (by decide), zwr_app, zwr_r (by decide), k1 44 (by decide) (by decide) (by decide)]
        simp only [true_and]
      have r45 : ∀ k, shM im1 s (nI ln) (nI n) 45 0 k = if k = s then nI n else m 45 0 k := fun k => by
        unfold shM
        rw [zset_r (by decide), zwr_app, zwr_r (by decide), zwr_r (by decide), k1 45 (by decide) (by decide) (by decide)]
        simp only [true_and]
      have r46 : ∀ k, shM im1 s (nI ln) (nI n) 46 0 k = if 48 * s ≤ k ∧ k < 48 * s + 48 then 0 else m 46 0 k := fun k => by
        unfold shM
        rw [zset_eq, k1 46 (by decide) (by decide) (by decide)]
        by_cases hk : 48 * s ≤ k ∧ k < 48 * s + 48
        · rw [pk_cpy_in hk.1 hk.2, if_pos hk]
        · rw [pk_cpy_out (by omega), if_neg hk]
      have rO : ∀ r, ¬ r = 43 → ¬ r = 44 → ¬ r = 45 → ¬ r = 46 → shM im1 s (nI ln) (nI n) r = im1 r := fun r q1 q2 q3 q4 => by
        unfold shM
        rw [zset_r q4, zwr_r q3, zwr_r q2, zwr_r q1]
      have r43 : ∀ k, shM im1 s (nI ln) (nI n) 43 0 k = if k = 1 then 0 else m 43 0 k := fun k => by
        unfold shM
        rw [zset_r (by decide), zwr_r (by decide), zwr_r (by decide), zwr_app, e43]
        simp only [true_and]
      refine h.sh (fun r q1 q2 => ?_) (fun j hj => by rw [r43, if_neg hj]) ?_ ?_ ⟨fun t ht => ?_, fun t ht => ?_⟩
      · rw [rO r (by omega) (by omega) (by omega) (by omega)]; exact k1 r q1 (by omega) (by omega)
      · rw [rO 0 (by decide) (by decide) (by decide) (by decide), k2, zwr_eq, r43, if_pos rfl]
      · rw [rO 0 (by decide) (by decide) (by decide) (by decide), k2, zwr_k (by decide)]
      · unfold mny
        rw [r44, r45]
        by_cases hts : t = s
        · rw [if_pos hts, if_pos hts, cNn hn31]
          exact ⟨Or.inr ⟨ln, hln, rfl⟩, rfl, hn48⟩
        · rw [if_neg hts, if_neg hts]
          exact h.2.1.1 t ht
      · rw [rO 41 (by decide) (by decide) (by decide) (by decide), rO 42 (by decide) (by decide) (by decide) (by decide), r44, r45]
        by_cases hts : t = s
        · subst hts
          rw [if_pos rfl, if_pos rfl]
          refine ⟨k4, k5, fun k hk => ?_⟩
          rw [r46, if_pos (by omega)]
          exact k6 k hk
        · rw [if_neg hts, if_neg hts, (k3 t hts).1, (k3 t hts).2]
          obtain ⟨d1, d2, d3⟩ := h.2.1.2 t ht
          refine ⟨d1, d2, fun k hk => ?_⟩
          rw [r46, if_neg (by omega)]
          exact d3 k hk
    · rw [if_neg h5] at h1
      obtain ⟨rfl, rfl⟩ := h1
      refine ⟨_, C_X12_sheet _ _ _ (by rw [zwr_r (by decide)]; exact h.2.2.2.2.2.2) a b c, ?_⟩
      rintro v2 im2 lv2 ⟨h2, rfl⟩
      rw [if_pos hc, if_neg h5] at h2
      obtain ⟨rfl, rfl⟩ := h2
      exact ⟨rfl, h.fnd'⟩
  · rw [if_neg hc] at h1
    obtain ⟨rfl, rfl⟩ := h1
    refine ⟨_, C_X12_sheet _ _ _ h.2.2.2.2.2.2 a b c, ?_⟩
    rintro v2 im2 lv2 ⟨h2, rfl⟩
    rw [if_neg hc] at h2
    obtain ⟨rfl, rfl⟩ := h2
    exact ⟨rfl, h⟩
theorem WS.fr {m im : zMem} (h : WS m) (h44 : im 44 = m 44) (h45 : im 45 = m 45) : WS im := by
  unfold WS mny at *
  rw [h44, h45]
  exact h
theorem J_set {l : Launch} {w : zWd} {m : zMem} {lv : Int64} (h : INV m) (a b c : Int32) : JS l w 4 zyX11_set [vR 0 0, vI a, vI b, vI c] 4 zyX12_set [vR 43 0, vI a, vI b, vI c] m lv := by
  refine ⟨_, C_X11_set _ _ _ h.2.1.1 h.2.1.2 a b c, ?_⟩
  rintro v1 im1 lv1 ⟨h1, rfl⟩
  have hcl : ∀ r, ¬ r = 0 → ¬ r = 42 → im1 r = m r := by
    split at h1
    · split at h1
      · rw [h1.2]; exact fun r q _ => zwr_r q
      · split at h1
        · rw [h1.2]; exact fun r q q2 => by rw [zwr_r q, zwr_r q2]
        · rw [h1.2]; exact fun r q _ => zwr_r q
    · rw [h1.2]; exact fun _ _ _ => rfl
  have e43 := hcl 43 (by decide) (by decide)
  have e44 := hcl 44 (by decide) (by decide)
  have e45 := hcl 45 (by decide) (by decide)
  refine ⟨_, C_X12_set _ _ _ (h.2.1.1.fr e44 e45) (by rw [e43]; exact h.2.2.2.2.2.2) a b c, ?_⟩
  rintro v2 im2 lv2 ⟨h2, rfl⟩
  have em : mny im1 = mny m := by unfold mny; rw [e45]
  rw [e44, em] at h2
  by_cases hc : 0 ≤ a ∧ a < nI 8
  · rw [if_pos hc] at h1 h2
    by_cases hm : m 44 0 (cN a) = -1
    · rw [if_pos hm] at h1 h2
      obtain ⟨rfl, rfl⟩ := h1
      obtain ⟨rfl, rfl⟩ := h2
      exact ⟨rfl, h.fnd'⟩
    · rw [if_neg hm] at h1 h2
      by_cases hp : 0 ≤ b ∧ b < nI (mny m (cN a))
      · rw [if_pos hp] at h1 h2
        obtain ⟨rfl, rfl⟩ := h1
        obtain ⟨rfl, rfl⟩ := h2
        refine ⟨rfl, ?_⟩
        obtain ⟨s, hs, rfl⟩ := zrx (N := 8) (by decide) hc
        rw [cNn (by omega)] at *
        have hmy := (h.2.1.1 s hs).2.2
        obtain ⟨i, hi, rfl⟩ := zrx (by omega) hp
        rw [cNn (n := i) (by omega)]
        generalize nar (m 44 0 s) c = z
        refine h.sh (fun r q1 q2 => by rw [zwr_r (by omega), zwr_r (by omega), zwr_r q1, zwr_r (by omega)]) (fun j hj => by rw [zwr_r (by decide), zwr_k hj, zwr_r (by decide), zwr_r (by decide)]) (by rw [zwr_r (by decide), zwr_r (by decide), zwr_eq, zwr_r (by decide), zwr_eq]) (by rw [zwr_r (by decide), zwr_r (by decide), zwr_k (by decide), zwr_r (by decide)]) ⟨h.2.1.1.fr (by rw [zwr_r (by decide), zwr_r (by decide), zwr_r (by decide), zwr_r (by decide)]) (by rw [zwr_r (by decide), zwr_r (by decide), zwr_r (by decide), zwr_r (by decide)]), fun t ht => ?_⟩
        obtain ⟨d1, d2, d3⟩ := h.2.1.2 t ht
        refine ⟨?_, ?_, fun k hk => ?_⟩
        · rw [zwr_r (by decide), zwr_r (by decide), zwr_r (by decide), zwr_r (by decide), zwr_r (by decide), zwr_r (by decide), zwr_r (by decide), zwr_r (by decide)]; exact d1
        · rw [zwr_r (by decide), zwr_r (by decide), zwr_r (by decide), zwr_r (by decide), zwr_r (by decide), zwr_r (by decide), zwr_r (by decide), zwr_r (by decide)]; exact d2
        · have e1 : (zwr (zwr (zwr (zwr m 42 s i z) 0 0 10 0) 43 0 1 0) 46 0 (48 * s + i) z) 42 t k = if t = s ∧ k = i then z else m 42 t k := by
            rw [zwr_r (by decide), zwr_r (by decide), zwr_r (by decide), zwr_app]
            simp only [true_and]
          have e2 : (zwr (zwr (zwr (zwr m 42 s i z) 0 0 10 0) 43 0 1 0) 46 0 (48 * s + i) z) 46 0 (48 * t + k) = if 48 * t + k = 48 * s + i then z else m 46 0 (48 * t + k) := by
            rw [zwr_app, zwr_r (by decide), zwr_r (by decide), zwr_r (by decide)]
            simp only [true_and]
          rw [e1, e2]
          by_cases hts : t = s ∧ k = i
          · rw [if_pos hts, if_pos (by omega)]
          · rw [if_neg hts, if_neg (by omega)]
            exact d3 k hk
      · rw [if_neg hp] at h1 h2
        obtain ⟨rfl, rfl⟩ := h1
        obtain ⟨rfl, rfl⟩ := h2
        exact ⟨rfl, h.fnd'⟩
  · rw [if_neg hc] at h1 h2
    obtain ⟨rfl, rfl⟩ := h1
    obtain ⟨rfl, rfl⟩ := h2
    exact ⟨rfl, h⟩
theorem J_drop {l : Launch} {w : zWd} {m : zMem} {lv : Int64} (h : INV m) (a : Int32) : JS l w 3 zyX11_drop [vR 0 0, vI a] 4 zyX12_drop [vR 43 0, vI a] m lv := by
  refine ⟨_, C_X11_drop _ _ _ h.2.1.2 a, ?_⟩
  rintro v1 im1 lv1 ⟨h1, rfl⟩
  have hcl : ∀ r, ¬ r = 0 → ¬ r = 41 → im1 r = m r := by
    split at h1
    · split at h1
      · rw [h1.2]; exact fun r q _ => zwr_r q
      · rw [h1.2]; exact fun r q q2 => by rw [zwr_r q, zwr_r q2]
    · rw [h1.2]; exact fun _ _ _ => rfl
  have e43 := hcl 43 (by decide) (by decide)
  have e44 := hcl 44 (by decide) (by decide)
  have e45 := hcl 45 (by decide) (by decide)
  refine ⟨_, C_X12_drop _ _ _ (h.2.1.1.fr e44 e45) (by rw [e43]; exact h.2.2.2.2.2.2) a, ?_⟩
  rintro v2 im2 lv2 ⟨h2, rfl⟩
  rw [e44, e45] at h2
  by_cases hc : 0 ≤ a ∧ a < nI 8
  · rw [if_pos hc] at h1 h2
    by_cases hm : m 44 0 (cN a) = -1
    · rw [if_pos hm] at h1 h2
      obtain ⟨rfl, rfl⟩ := h1
      obtain ⟨rfl, rfl⟩ := h2
      exact ⟨rfl, h.fnd'⟩
    · rw [if_neg hm] at h1 h2
      obtain ⟨rfl, rfl⟩ := h1
      obtain ⟨rfl, rfl⟩ := h2
      refine ⟨rfl, ?_⟩
      obtain ⟨s, hs, rfl⟩ := zrx (N := 8) (by decide) hc
      rw [cNn (by omega)] at *
      have e1 : ∀ k, (zwr (zwr (zwr (zwr m 41 s 0 (-1)) 0 0 10 0) 43 0 1 0) 44 0 s (-1)) 44 0 k = if k = s then -1 else m 44 0 k := fun k => by
        rw [zwr_app, zwr_r (by decide), zwr_r (by decide), zwr_r (by decide)]
        simp only [true_and]
      have e2 : (zwr (zwr (zwr (zwr m 41 s 0 (-1)) 0 0 10 0) 43 0 1 0) 44 0 s (-1)) 45 = m 45 := by rw [zwr_r (by decide), zwr_r (by decide), zwr_r (by decide), zwr_r (by decide)]
      have e3 : ∀ t k, (zwr (zwr (zwr (zwr m 41 s 0 (-1)) 0 0 10 0) 43 0 1 0) 44 0 s (-1)) 41 t k = if t = s ∧ k = 0 then -1 else m 41 t k := fun t k => by
        rw [zwr_r (by decide), zwr_r (by decide), zwr_r (by decide), zwr_app]
        simp only [true_and]
      refine h.sh (fun r q1 q2 => by rw [zwr_r (by omega), zwr_r (by omega), zwr_r q1, zwr_r (by omega)]) (fun j hj => by rw [zwr_r (by decide), zwr_k hj, zwr_r (by decide), zwr_r (by decide)]) (by rw [zwr_r (by decide), zwr_r (by decide), zwr_eq, zwr_r (by decide), zwr_eq]) (by rw [zwr_r (by decide), zwr_r (by decide), zwr_k (by decide), zwr_r (by decide)]) ⟨fun t ht => ?_, fun t ht => ?_⟩
      · unfold mny
        rw [e1, e2]
        obtain ⟨d1, d2⟩ := h.2.1.1 t ht
        refine ⟨?_, d2⟩
        by_cases hts : t = s
        · rw [if_pos hts]; exact Or.inl rfl
        · rw [if_neg hts]; exact d1
      · obtain ⟨d1, d2, d3⟩ := h.2.1.2 t ht
        rw [e1, e2, e3, e3]
        refine ⟨?_, by rw [if_neg (by omega)]; exact d2, fun k hk => ?_⟩
        · by_cases hts : t = s
          · rw [if_pos hts, if_pos ⟨hts, rfl⟩]
          · rw [if_neg hts, if_neg (fun z => hts z.1)]; exact d1
        · rw [zwr_r (by decide), zwr_r (by decide), zwr_r (by decide), zwr_r (by decide), zwr_r (by decide), zwr_r (by decide), zwr_r (by decide), zwr_r (by decide)]; exact d3 k hk
  · rw [if_neg hc] at h1 h2
    obtain ⟨rfl, rfl⟩ := h1
    obtain ⟨rfl, rfl⟩ := h2
    exact ⟨rfl, h⟩

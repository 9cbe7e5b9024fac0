/-! the class's land, flights, paths, sky -/
def RCw (m im : zMem) (f w : Nat) : Prop := ∃ c, c ≤ 5 ∧ im 13 f w = nI c ∧ (∀ k, k < c → 1 ≤ lsl m f w k ∧ im 14 f (w * 5 + k) = nI (lrm m f w k) ∧ im 15 f (w * 5 + k) = nI (lsl m f w k)) ∧ ∀ k, c ≤ k → k < 5 → lsl m f w k = 0
def RCf (m im : zMem) (f : Nat) : Prop := im 12 f 0 = nI (own m f) ∧ im 12 f 1 = nI (wgt m f) ∧ im 12 f 2 = nI (sta m f) ∧ im 12 f 3 = nI (rat m f) ∧ im 12 f 4 = nI (wys m f) ∧ im 12 f 8 = nI (way m f) ∧ im 12 f 9 = nI (dly m f) ∧ ∀ w, w < wys m f → RCw m im f w
def RCs (m im : zMem) (k : Nat) : Prop := im 5 0 k = nI (stw m k) ∧ im 6 0 k = nI (str m k) ∧ im 7 0 k = nI (sta1 m k) ∧ im 8 0 k = nI (stb m k) ∧ im 9 0 k = nI (stv m k)
/-- the class's land and fleet are the reference's -/
def RC (m im : zMem) : Prop := im 10 0 1 = nI (nfl m) ∧ (∀ f, f < nfl m → RCf m im f) ∧ im 2 0 7 = nI (nst m) ∧ (∀ k, k < nst m → RCs m im k) ∧ (∀ k, k < 384 → im 3 0 k = nI (bas m k)) ∧ (∀ t, t < 48 → im 4 0 t = nI (stf m t)) ∧ im 2 0 8 = nI (lok m)
theorem RC.fr {m im im' : zMem} (h : RC m im) (hf : ∀ r, r < 16 → im' r = im r) : RC m im' := by
  unfold RC RCf RCw RCs at *
  rw [hf 2 (by decide), hf 3 (by decide), hf 4 (by decide), hf 5 (by decide), hf 6 (by decide), hf 7 (by decide), hf 8 (by decide), hf 9 (by decide), hf 10 (by decide), hf 12 (by decide), hf 13 (by decide), hf 14 (by decide), hf 15 (by decide)]
  exact h
theorem RC.le {m im : zMem} (hW : WF m) (h : RC m im) : im 10 0 1 ≤ 12 := by
  rw [h.1]
  exact nI_le hW.1.2 (by decide)
theorem mn_iff {g v : Nat → Nat} {b : Nat} {p : Nat → Prop} [DecidablePred p] (h0 : g 0 = b) (hs : ∀ k, g (k + 1) = if p k ∧ v k < g k then v k else g k) {x : Nat} : ∀ k, g k ≤ x ↔ b ≤ x ∨ ∃ j, j < k ∧ p j ∧ v j ≤ x
  | 0 => by
    rw [h0]
    exact ⟨Or.inl, fun q => q.elim id (fun ⟨j, hj, _⟩ => by omega)⟩
  | k + 1 => by
    have ih := mn_iff h0 hs (x := x) k
    rw [hs]
    by_cases hp : p k ∧ v k < g k
    · rw [if_pos hp]
      constructor
      · intro q; exact Or.inr ⟨k, by omega, hp.1, q⟩
      · rintro (q | ⟨j, h1, h2, h3⟩)
        · have := ih.mpr (Or.inl q); omega
        · by_cases hj : j = k
          · subst hj; exact h3
          · have := ih.mpr (Or.inr ⟨j, by omega, h2, h3⟩); omega
    · rw [if_neg hp, ih]
      constructor
      · rintro (q | ⟨j, h1, h2, h3⟩)
        · exact Or.inl q
        · exact Or.inr ⟨j, by omega, h2, h3⟩
      · rintro (q | ⟨j, h1, h2, h3⟩)
        · exact Or.inl q
        · by_cases hj : j = k
          · subst hj
            have : ¬ v j < g j := fun q => hp ⟨h2, q⟩
            exact ih.mp (by omega)
          · exact Or.inr ⟨j, by omega, h2, h3⟩
/-- least borne in the worlds of W, of the first k storms -/
def biN (m : zMem) (r t W : Nat) : Nat → Nat
  | 0 => bas m (48 * r + t)
  | k + 1 => if ((str m k = r ∧ sta1 m k ≤ t ∧ t < stb m k) ∧ W / 2 ^ stw m k % 2 = 1) ∧ stv m k < biN m r t W k then stv m k else biN m r t W k
theorem biN_iff {m : zMem} {r t W x : Nat} (k : Nat) : biN m r t W k ≤ x ↔ bas m (48 * r + t) ≤ x ∨ ∃ j, j < k ∧ ((str m j = r ∧ sta1 m j ≤ t ∧ t < stb m j) ∧ W / 2 ^ stw m j % 2 = 1) ∧ stv m j ≤ x :=
  mn_iff (g := biN m r t W) rfl (fun _ => rfl) k
theorem bwN_iff {m : zMem} {r t w x : Nat} (k : Nat) : bwN m r t w k ≤ x ↔ bas m (48 * r + t) ≤ x ∨ ∃ j, j < k ∧ (stw m j = w ∧ str m j = r ∧ sta1 m j ≤ t ∧ t < stb m j) ∧ stv m j ≤ x :=
  mn_iff (g := bwN m r t w) (p := fun j => stw m j = w ∧ str m j = r ∧ sta1 m j ≤ t ∧ t < stb m j) rfl (fun _ => rfl) k
theorem sfN_iff {m : zMem} {r t x : Nat} (n : Nat) : sfN m r t n ≤ x ↔ 1000 ≤ x ∨ ∃ w, w < n ∧ True ∧ (if lok m / 2 ^ w % 2 = 1 then bearsW m r t w else 1000) ≤ x :=
  mn_iff (g := sfN m r t) (v := fun w => if lok m / 2 ^ w % 2 = 1 then bearsW m r t w else 1000) (p := fun _ => True) rfl (fun k => by rw [sfN]; simp only [true_and]) n
theorem biN_le {m : zMem} (hW : WF m) {r t W : Nat} (hr : r < 8) (ht : t < 48) (k : Nat) : biN m r t W k ≤ 99 :=
  (biN_iff k).mpr (Or.inl (hW.2.2.2.2.1 _ (by omega)).2)
theorem biN_safe {m : zMem} (hW : WF m) {r t : Nat} (hr : r < 8) (ht : t < 48) : biN m r t (lok m) (nst m) = safe m r t := by
  have h1 := biN_le hW (W := lok m) hr ht (nst m)
  have h2 := safe_le hW hr ht
  obtain ⟨w0, hw0, hb0⟩ := lok_bit (lok m) (by have := hW.2.2.2.2.2.2.2.2; omega) hW.2.2.2.2.2.2.2.1
  have key : ∀ x, x ≤ 99 → (biN m r t (lok m) (nst m) ≤ x ↔ safe m r t ≤ x) := by
    intro x hx
    unfold safe
    rw [biN_iff, sfN_iff]
    constructor
    · rintro (q | ⟨j, h1, ⟨h2, h3⟩, h4⟩)
      · refine Or.inr ⟨w0, hw0, trivial, ?_⟩
        rw [if_pos hb0]
        exact (bwN_iff _).mpr (Or.inl q)
      · refine Or.inr ⟨stw m j, by have := (hW.2.2.2.1 j h1).1.2.2; omega, trivial, ?_⟩
        rw [if_pos h3]
        exact (bwN_iff _).mpr (Or.inr ⟨j, h1, ⟨rfl, h2⟩, h4⟩)
    · rintro (q | ⟨w, h1, -, h3⟩)
      · omega
      · by_cases hb : lok m / 2 ^ w % 2 = 1
        · rw [if_pos hb] at h3
          rcases (bwN_iff _).mp h3 with q | ⟨j, g1, ⟨g2, g3⟩, g4⟩
          · exact Or.inl q
          · subst g2
            exact Or.inr ⟨j, g1, ⟨g3, hb⟩, g4⟩
        · rw [if_neg hb] at h3; omega
  exact Nat.le_antisymm ((key _ h2).mpr (Nat.le_refl _)) ((key _ h1).mp (Nat.le_refl _))
theorem pw1 : ∀ w, w < 4 → ∀ v, v < 4 → (2 ^ w / 2 ^ v % 2 = 1 ↔ v = w) := by decide +kernel
theorem biN_bears {m : zMem} (hW : WF m) {r t w : Nat} (hw : w < 4) : biN m r t (2 ^ w) (nst m) = bearsW m r t w := by
  have key : ∀ x, (biN m r t (2 ^ w) (nst m) ≤ x ↔ bearsW m r t w ≤ x) := by
    intro x
    unfold bearsW
    rw [biN_iff, bwN_iff]
    constructor
    · rintro (q | ⟨j, h1, ⟨h2, h3⟩, h4⟩)
      · exact Or.inl q
      · exact Or.inr ⟨j, h1, ⟨(pw1 w hw _ (by have := (hW.2.2.2.1 j h1).1.2.2; omega)).mp h3, h2⟩, h4⟩
    · rintro (q | ⟨j, h1, ⟨h2, h3⟩, h4⟩)
      · exact Or.inl q
      · exact Or.inr ⟨j, h1, ⟨h3, (pw1 w hw _ (by omega)).mpr h2⟩, h4⟩
  exact Nat.le_antisymm ((key _).mpr (Nat.le_refl _)) ((key _).mp (Nat.le_refl _))
theorem rX3_borneInWorlds_0 {x : zX} {w : zWd} {im : zMem} {lv : Int64} {P : Int32 → zMem → Int64 → Prop} {x1 : Int32} {x2 : Int32} {x3 : Int32} (hO : zOK x w zyX3_borneInWorlds 3) (hR : zRetI x w zyX3_borneInWorlds P) (hN : zN x 126 126)
 (h : (vp_in ((x1 * 48) + x2) 384 ∧ zW x w 15 [(0, vR 2 0), (1, vI x1), (2, vI x2), (3, vI x3), (4, vI (im 3 0 (Int32.toNatClampNeg ((x1 * 48) + x2)))), (5, vI 0)] [] im lv)) :
 zW x w 0 [(0, vR 2 0), (1, vI x1), (2, vI x2), (3, vI x3)] [] im lv := by
  refine zi_aload_n hO dX3_borneInWorlds_0 0 rfl ?_
  refine zi_getR (r' := 3) (i' := 0) hO dX3_borneInWorlds_1 fX3_9 rfl rfl (zI (by decide)) rfl ?_
  refine zi_iload_n hO dX3_borneInWorlds_4 1 rfl ?_
  refine zi_iload_n hO dX3_borneInWorlds_5 2 rfl ?_
  refine zc_NI (as := [vI x1, vI x2]) hO hN dX3_borneInWorlds_6 kX3_46 ksX3_46 (by decide) rfl (Nat.le_of_ble_eq_true rfl) rfl rfl (C_X11_cellOf _ _ _ _) (fun v1 im1 lv1 hp1 => ?_)
  rw [hp1.1, hp1.2.1, hp1.2.2]
  obtain ⟨s2, h⟩ := h
  refine zi_iald hO dX3_borneInWorlds_9 rfl (zI (by decide)) s2 ?_
  refine zi_istore (L' := [(0, vR 2 0), (1, vI x1), (2, vI x2), (3, vI x3), (4, vI (im 3 0 (Int32.toNatClampNeg ((x1 * 48) + x2))))]) hO dX3_borneInWorlds_10 (by decide) rfl rfl ?_
  refine zi_iconst (v := 0) hO dX3_borneInWorlds_12 (by decide) ?_
  refine zi_istore (L' := [(0, vR 2 0), (1, vI x1), (2, vI x2), (3, vI x3), (4, vI (im 3 0 (Int32.toNatClampNeg ((x1 * 48) + x2)))), (5, vI 0)]) hO dX3_borneInWorlds_13 (by decide) rfl rfl ?_
  exact h
theorem rX3_borneInWorlds_15 {x : zX} {w : zWd} {im : zMem} {lv : Int64} {P : Int32 → zMem → Int64 → Prop} {x1 : Int32} {x2 : Int32} {x3 : Int32} {x4 : Int32} {x5 : Int32} (hO : zOK x w zyX3_borneInWorlds 3) (hR : zRetI x w zyX3_borneInWorlds P) (hN : zN x 126 126)
 (h : (((im 2 0 7) ≤ x5 → P x4 im lv) ∧
 (¬ ((im 2 0 7) ≤ x5) → (vp_in x5 20 ∧ ((¬ ((im 6 0 (Int32.toNatClampNeg x5)) = x1) → zW x w 15 [(0, vR 2 0), (1, vI x1), (2, vI x2), (3, vI x3), (4, vI x4), (5, vI (x5 + 1))] [] im lv) ∧
 ((im 6 0 (Int32.toNatClampNeg x5)) = x1 → ((x2 < (im 7 0 (Int32.toNatClampNeg x5)) → zW x w 15 [(0, vR 2 0), (1, vI x1), (2, vI x2), (3, vI x3), (4, vI x4), (5, vI (x5 + 1))] [] im lv) ∧
 (¬ (x2 < (im 7 0 (Int32.toNatClampNeg x5))) → (((im 8 0 (Int32.toNatClampNeg x5)) ≤ x2 → zW x w 15 [(0, vR 2 0), (1, vI x1), (2, vI x2), (3, vI x3), (4, vI x4), (5, vI (x5 + 1))] [] im lv) ∧
 (¬ ((im 8 0 (Int32.toNatClampNeg x5)) ≤ x2) → ((¬ (((x3 >>> ((im 5 0 (Int32.toNatClampNeg x5)) &&& 31)) &&& 1) = 1) → zW x w 15 [(0, vR 2 0), (1, vI x1), (2, vI x2), (3, vI x3), (4, vI x4), (5, vI (x5 + 1))] [] im lv) ∧
 (((x3 >>> ((im 5 0 (Int32.toNatClampNeg x5)) &&& 31)) &&& 1) = 1 → zW x w 15 [(0, vR 2 0), (1, vI x1), (2, vI x2), (3, vI x3), (4, vI (if (im 9 0 (Int32.toNatClampNeg x5)) < x4 then (im 9 0 (Int32.toNatClampNeg x5)) else x4)), (5, vI (x5 + 1))] [] im lv)))))))))))) :
 zW x w 15 [(0, vR 2 0), (1, vI x1), (2, vI x2), (3, vI x3), (4, vI x4), (5, vI x5)] [] im lv := by
  refine zi_iload hO dX3_borneInWorlds_15 5 rfl ?_
  refine zi_aload_n hO dX3_borneInWorlds_17 0 rfl ?_
  refine zi_getI hO dX3_borneInWorlds_18 fX3_33 rfl rfl (zI (by decide)) ?_
  refine zi_icmp_ge (tgt := 99) hO dX3_borneInWorlds_21 (by decide) (fun c1 => ?_) (fun c1 => ?_)
  · have h := h.1 c1
    refine zi_iload hO dX3_borneInWorlds_99 4 rfl ?_
    exact zr_I hO hR rfl dX3_borneInWorlds_101 h
  · have h := h.2 c1
    refine zi_aload_n hO dX3_borneInWorlds_24 0 rfl ?_
    refine zi_getR (r' := 6) (i' := 0) hO dX3_borneInWorlds_25 fX3_21 rfl rfl (zI (by decide)) rfl ?_
    refine zi_iload hO dX3_borneInWorlds_28 5 rfl ?_
    obtain ⟨s1, h⟩ := h
    refine zi_iald hO dX3_borneInWorlds_30 rfl (zI (by decide)) s1 ?_
    refine zi_iload_n hO dX3_borneInWorlds_31 1 rfl ?_
    refine zi_icmp_ne (tgt := 61) hO dX3_borneInWorlds_32 (by decide) (fun c2 => ?_) (fun c2 => ?_)
    · have h := h.1 c2
      refine zi_iconst (v := 0) hO dX3_borneInWorlds_61 (by decide) ?_
      refine zi_istore (L' := [(0, vR 2 0), (1, vI x1), (2, vI x2), (3, vI x3), (4, vI x4), (5, vI x5), (6, vI 0)]) hO dX3_borneInWorlds_62 (by decide) rfl rfl ?_
      refine zi_iload hO dX3_borneInWorlds_64 6 rfl ?_
      refine zi_if_eq (tgt := 93) hO dX3_borneInWorlds_66 (by decide) (fun _ => ?_) (fun c3 => absurd c3 (by decide))
      refine zi_iinc (v' := (x5 + 1)) (L' := [(0, vR 2 0), (1, vI x1), (2, vI x2), (3, vI x3), (4, vI x4), (5, vI (x5 + 1)), (6, vI 0)]) hO dX3_borneInWorlds_93 5 rfl rfl (by decide) rfl rfl ?_
      refine zi_goto (tgt := 15) hO dX3_borneInWorlds_96 (by decide) ?_
      refine zi_pick (L' := [(0, vR 2 0), (1, vI x1), (2, vI x2), (3, vI x3), (4, vI x4), (5, vI (x5 + 1))]) [0, 1, 2, 3, 4, 5] rfl ?_
      exact h
    · have h := h.2 c2
      refine zi_aload_n hO dX3_borneInWorlds_35 0 rfl ?_
      refine zi_getR (r' := 7) (i' := 0) hO dX3_borneInWorlds_36 fX3_24 rfl rfl (zI (by decide)) rfl ?_
      refine zi_iload hO dX3_borneInWorlds_39 5 rfl ?_
      refine zi_iald hO dX3_borneInWorlds_41 rfl (zI (by decide)) s1 ?_
      refine zi_iload_n hO dX3_borneInWorlds_42 2 rfl ?_
      refine zi_icmp_gt (tgt := 61) hO dX3_borneInWorlds_43 (by decide) (fun c4 => ?_) (fun c4 => ?_)
      · have h := h.1 c4
        refine zi_iconst (v := 0) hO dX3_borneInWorlds_61 (by decide) ?_
        refine zi_istore (L' := [(0, vR 2 0), (1, vI x1), (2, vI x2), (3, vI x3), (4, vI x4), (5, vI x5), (6, vI 0)]) hO dX3_borneInWorlds_62 (by decide) rfl rfl ?_
        refine zi_iload hO dX3_borneInWorlds_64 6 rfl ?_
        refine zi_if_eq (tgt := 93) hO dX3_borneInWorlds_66 (by decide) (fun _ => ?_) (fun c5 => absurd c5 (by decide))
        refine zi_iinc (v' := (x5 + 1)) (L' := [(0, vR 2 0), (1, vI x1), (2, vI x2), (3, vI x3), (4, vI x4), (5, vI (x5 + 1)), (6, vI 0)]) hO dX3_borneInWorlds_93 5 rfl rfl (by decide) rfl rfl ?_
        refine zi_goto (tgt := 15) hO dX3_borneInWorlds_96 (by decide) ?_
        refine zi_pick (L' := [(0, vR 2 0), (1, vI x1), (2, vI x2), (3, vI x3), (4, vI x4), (5, vI (x5 + 1))]) [0, 1, 2, 3, 4, 5] rfl ?_
        exact h
      · have h := h.2 c4
        refine zi_iload_n hO dX3_borneInWorlds_46 2 rfl ?_
        refine zi_aload_n hO dX3_borneInWorlds_47 0 rfl ?_
        refine zi_getR (r' := 8) (i' := 0) hO dX3_borneInWorlds_48 fX3_27 rfl rfl (zI (by decide)) rfl ?_
        refine zi_iload hO dX3_borneInWorlds_51 5 rfl ?_
        refine zi_iald hO dX3_borneInWorlds_53 rfl (zI (by decide)) s1 ?_
        refine zi_icmp_ge (tgt := 61) hO dX3_borneInWorlds_54 (by decide) (fun c6 => ?_) (fun c6 => ?_)
        · have h := h.1 c6
          refine zi_iconst (v := 0) hO dX3_borneInWorlds_61 (by decide) ?_
          refine zi_istore (L' := [(0, vR 2 0), (1, vI x1), (2, vI x2), (3, vI x3), (4, vI x4), (5, vI x5), (6, vI 0)]) hO dX3_borneInWorlds_62 (by decide) rfl rfl ?_
          refine zi_iload hO dX3_borneInWorlds_64 6 rfl ?_
          refine zi_if_eq (tgt := 93) hO dX3_borneInWorlds_66 (by decide) (fun _ => ?_) (fun c7 => absurd c7 (by decide))
          refine zi_iinc (v' := (x5 + 1)) (L' := [(0, vR 2 0), (1, vI x1), (2, vI x2), (3, vI x3), (4, vI x4), (5, vI (x5 + 1)), (6, vI 0)]) hO dX3_borneInWorlds_93 5 rfl rfl (by decide) rfl rfl ?_
          refine zi_goto (tgt := 15) hO dX3_borneInWorlds_96 (by decide) ?_
          refine zi_pick (L' := [(0, vR 2 0), (1, vI x1), (2, vI x2), (3, vI x3), (4, vI x4), (5, vI (x5 + 1))]) [0, 1, 2, 3, 4, 5] rfl ?_
          exact h
        · have h := h.2 c6
          refine zi_iconst (v := 1) hO dX3_borneInWorlds_57 (by decide) ?_
          refine zi_goto (tgt := 62) hO dX3_borneInWorlds_58 (by decide) ?_
          refine zi_istore (L' := [(0, vR 2 0), (1, vI x1), (2, vI x2), (3, vI x3), (4, vI x4), (5, vI x5), (6, vI 1)]) hO dX3_borneInWorlds_62 (by decide) rfl rfl ?_
          refine zi_iload hO dX3_borneInWorlds_64 6 rfl ?_
          refine zi_if_eq (tgt := 93) hO dX3_borneInWorlds_66 (by decide) (fun c8 => absurd c8 (by decide)) (fun _ => ?_)
          refine zi_aload_n hO dX3_borneInWorlds_69 0 rfl ?_
          refine zi_iload hO dX3_borneInWorlds_70 5 rfl ?_
          refine zi_iload_n hO dX3_borneInWorlds_72 3 rfl ?_
          refine zc_VI (as := [vI x5, vI x3]) hO hN dX3_borneInWorlds_73 kX3_50 (by decide) rfl (zI (by decide)) rfl rfl (Nat.le_of_ble_eq_true rfl) rfl rfl (C_X3_stormsIn _ _ _ _ s1) (fun v2 im2 lv2 hp2 => ?_)
          rw [hp2.1, hp2.2.1, hp2.2.2]
          refine zi_if_eq (tgt := 93) hO dX3_borneInWorlds_76 (by decide) (fun c9 => ?_) (fun c9 => ?_)
          · have h := h.1 (vB_0.mp c9)
            refine zi_iinc (v' := (x5 + 1)) (L' := [(0, vR 2 0), (1, vI x1), (2, vI x2), (3, vI x3), (4, vI x4), (5, vI (x5 + 1)), (6, vI 1)]) hO dX3_borneInWorlds_93 5 rfl rfl (by decide) rfl rfl ?_
            refine zi_goto (tgt := 15) hO dX3_borneInWorlds_96 (by decide) ?_
            refine zi_pick (L' := [(0, vR 2 0), (1, vI x1), (2, vI x2), (3, vI x3), (4, vI x4), (5, vI (x5 + 1))]) [0, 1, 2, 3, 4, 5] rfl ?_
            exact h
          · have h := h.2 (vB_1.mp (vB_01.resolve_left c9))
            refine zi_iload hO dX3_borneInWorlds_79 4 rfl ?_
            refine zi_aload_n hO dX3_borneInWorlds_81 0 rfl ?_
            refine zi_getR (r' := 9) (i' := 0) hO dX3_borneInWorlds_82 fX3_30 rfl rfl (zI (by decide)) rfl ?_
            refine zi_iload hO dX3_borneInWorlds_85 5 rfl ?_
            refine zi_iald hO dX3_borneInWorlds_87 rfl (zI (by decide)) s1 ?_
            refine zi_min hO hN (by decide) dX3_borneInWorlds_88 qX3_54 q_min_s q_math_i q_min_c (Nat.le_of_ble_eq_true rfl) ?_
            refine zi_istore (L' := [(0, vR 2 0), (1, vI x1), (2, vI x2), (3, vI x3), (4, vI (if (im 9 0 (Int32.toNatClampNeg x5)) < x4 then (im 9 0 (Int32.toNatClampNeg x5)) else x4)), (5, vI x5), (6, vI 1)]) hO dX3_borneInWorlds_91 (by decide) rfl rfl ?_
            refine zi_iinc (v' := (x5 + 1)) (L' := [(0, vR 2 0), (1, vI x1), (2, vI x2), (3, vI x3), (4, vI (if (im 9 0 (Int32.toNatClampNeg x5)) < x4 then (im 9 0 (Int32.toNatClampNeg x5)) else x4)), (5, vI (x5 + 1)), (6, vI 1)]) hO dX3_borneInWorlds_93 5 rfl rfl (by decide) rfl rfl ?_
            refine zi_goto (tgt := 15) hO dX3_borneInWorlds_96 (by decide) ?_
            refine zi_pick (L' := [(0, vR 2 0), (1, vI x1), (2, vI x2), (3, vI x3), (4, vI (if (im 9 0 (Int32.toNatClampNeg x5)) < x4 then (im 9 0 (Int32.toNatClampNeg x5)) else x4)), (5, vI (x5 + 1))]) [0, 1, 2, 3, 4, 5] rfl ?_
            exact h
theorem rX3_lowerByStorm_0 {x : zX} {w : zWd} {im : zMem} {lv : Int64} {P : zMem → Int64 → Prop} {ra : Nat} {ia : Nat} {Na : Nat} {x2 : Int32} (hO : zOK x w zyX3_lowerByStorm 3) (hR : zRetV x w zyX3_lowerByStorm P) (hN : zN x 126 126) (hka : zkd ra = (1, Na, 0)) (hia : ia < zcnt ra)
 (h : (vp_in x2 20 ∧ zW x w 7 [(0, vR 2 0), (1, vR ra ia), (2, vI x2), (3, vI (im 7 0 (Int32.toNatClampNeg x2)))] [] im lv)) :
 zW x w 0 [(0, vR 2 0), (1, vR ra ia), (2, vI x2)] [] im lv := by
  refine zi_aload_n hO dX3_lowerByStorm_0 0 rfl ?_
  refine zi_getR (r' := 7) (i' := 0) hO dX3_lowerByStorm_1 fX3_24 rfl rfl (zI (by decide)) rfl ?_
  refine zi_iload_n hO dX3_lowerByStorm_4 2 rfl ?_
  obtain ⟨s1, h⟩ := h
  refine zi_iald hO dX3_lowerByStorm_5 rfl (zI (by decide)) s1 ?_
  refine zi_istore_n (L' := [(0, vR 2 0), (1, vR ra ia), (2, vI x2), (3, vI (im 7 0 (Int32.toNatClampNeg x2)))]) hO dX3_lowerByStorm_6 (by decide) rfl rfl ?_
  exact h
theorem rX3_lowerByStorm_7 {x : zX} {w : zWd} {im : zMem} {lv : Int64} {P : zMem → Int64 → Prop} {ra : Nat} {ia : Nat} {Na : Nat} {x2 : Int32} {x3 : Int32} (hO : zOK x w zyX3_lowerByStorm 3) (hR : zRetV x w zyX3_lowerByStorm P) (hN : zN x 126 126) (hka : zkd ra = (1, Na, 0)) (hia : ia < zcnt ra)
 (h : (vp_in x2 20 ∧ (((im 8 0 (Int32.toNatClampNeg x2)) ≤ x3 → P im lv) ∧
 (¬ ((im 8 0 (Int32.toNatClampNeg x2)) ≤ x3) → (vp_in (((im 6 0 (Int32.toNatClampNeg x2)) * 48) + x3) Na ∧ zW x w 7 [(0, vR 2 0), (1, vR ra ia), (2, vI x2), (3, vI (x3 + 1))] [] (zwr im ra ia (Int32.toNatClampNeg (((im 6 0 (Int32.toNatClampNeg x2)) * 48) + x3)) (if (im 9 0 (Int32.toNatClampNeg x2)) < (im ra ia (Int32.toNatClampNeg (((im 6 0 (Int32.toNatClampNeg x2)) * 48) + x3))) then (im 9 0 (Int32.toNatClampNeg x2)) else (im ra ia (Int32.toNatClampNeg (((im 6 0 (Int32.toNatClampNeg x2)) * 48) + x3))))) lv))))) :
 zW x w 7 [(0, vR 2 0), (1, vR ra ia), (2, vI x2), (3, vI x3)] [] im lv := by
  refine zi_iload_n hO dX3_lowerByStorm_7 3 rfl ?_
  refine zi_aload_n hO dX3_lowerByStorm_8 0 rfl ?_
  refine zi_getR (r' := 8) (i' := 0) hO dX3_lowerByStorm_9 fX3_27 rfl rfl (zI (by decide)) rfl ?_
  refine zi_iload_n hO dX3_lowerByStorm_12 2 rfl ?_
  obtain ⟨s1, h⟩ := h
  refine zi_iald hO dX3_lowerByStorm_13 rfl (zI (by decide)) s1 ?_
  refine zi_icmp_ge (tgt := 52) hO dX3_lowerByStorm_14 (by decide) (fun c1 => ?_) (fun c1 => ?_)
  · have h := h.1 c1
    exact zr_V hO hR rfl dX3_lowerByStorm_52 h
  · have h := h.2 c1
    refine zi_aload_n hO dX3_lowerByStorm_17 0 rfl ?_
    refine zi_getR (r' := 6) (i' := 0) hO dX3_lowerByStorm_18 fX3_21 rfl rfl (zI (by decide)) rfl ?_
    refine zi_iload_n hO dX3_lowerByStorm_21 2 rfl ?_
    refine zi_iald hO dX3_lowerByStorm_22 rfl (zI (by decide)) s1 ?_
    refine zi_iload_n hO dX3_lowerByStorm_23 3 rfl ?_
    refine zc_NI (as := [vI (im 6 0 (Int32.toNatClampNeg x2)), vI x3]) hO hN dX3_lowerByStorm_24 kX3_46 ksX3_46 (by decide) rfl (Nat.le_of_ble_eq_true rfl) rfl rfl (C_X11_cellOf _ _ _ _) (fun v2 im2 lv2 hp2 => ?_)
    rw [hp2.1, hp2.2.1, hp2.2.2]
    refine zi_istore (L' := [(0, vR 2 0), (1, vR ra ia), (2, vI x2), (3, vI x3), (4, vI (((im 6 0 (Int32.toNatClampNeg x2)) * 48) + x3))]) hO dX3_lowerByStorm_27 (by decide) rfl rfl ?_
    refine zi_aload_n hO dX3_lowerByStorm_29 1 rfl ?_
    refine zi_iload hO dX3_lowerByStorm_30 4 rfl ?_
    refine zi_aload_n hO dX3_lowerByStorm_32 1 rfl ?_
    refine zi_iload hO dX3_lowerByStorm_33 4 rfl ?_
    obtain ⟨s3, h⟩ := h
    refine zi_iald hO dX3_lowerByStorm_35 hka (zI hia) s3 ?_
    refine zi_aload_n hO dX3_lowerByStorm_36 0 rfl ?_
    refine zi_getR (r' := 9) (i' := 0) hO dX3_lowerByStorm_37 fX3_30 rfl rfl (zI (by decide)) rfl ?_
    refine zi_iload_n hO dX3_lowerByStorm_40 2 rfl ?_
    refine zi_iald hO dX3_lowerByStorm_41 rfl (zI (by decide)) s1 ?_
    refine zi_min hO hN (by decide) dX3_lowerByStorm_42 qX3_54 q_min_s q_math_i q_min_c (Nat.le_of_ble_eq_true rfl) ?_
    refine zi_iast hO dX3_lowerByStorm_45 hka (zI hia) s3 ?_
    refine zi_iinc (v' := (x3 + 1)) (L' := [(0, vR 2 0), (1, vR ra ia), (2, vI x2), (3, vI (x3 + 1)), (4, vI (((im 6 0 (Int32.toNatClampNeg x2)) * 48) + x3))]) hO dX3_lowerByStorm_46 3 rfl rfl (by decide) rfl rfl ?_
    refine zi_goto (tgt := 7) hO dX3_lowerByStorm_49 (by decide) ?_
    refine zi_pick (L' := [(0, vR 2 0), (1, vR ra ia), (2, vI x2), (3, vI (x3 + 1))]) [0, 1, 2, 3] rfl ?_
    exact h
theorem rX3_fillSafe_0 {x : zX} {w : zWd} {im : zMem} {lv : Int64} {P : zMem → Int64 → Prop} {ra : Nat} {ia : Nat} {Na : Nat} (hO : zOK x w zyX3_fillSafe 4) (hR : zRetV x w zyX3_fillSafe P) (hN : zN x 126 126) (hka : zkd ra = (1, Na, 0)) (hia : ia < zcnt ra)
 (h : (¬ (0 : Int32) < 0 ∧ (¬ (0 : Int32) < 0 ∧ (¬ (384 : Int32) < 0 ∧ (Int32.toNatClampNeg 0 + Int32.toNatClampNeg 384 ≤ 384 ∧ (Int32.toNatClampNeg 0 + Int32.toNatClampNeg 384 ≤ Na ∧ zW x w 15 [(0, vR 2 0), (1, vR ra ia), (2, vI 0)] [] (zset im ra ia (va_cpy (im 3 0) (im ra ia) (Int32.toNatClampNeg 0) (Int32.toNatClampNeg 0) (Int32.toNatClampNeg 384))) lv)))))) :
 zW x w 0 [(0, vR 2 0), (1, vR ra ia)] [] im lv := by
  refine zi_aload_n hO dX3_fillSafe_0 0 rfl ?_
  refine zi_getR (r' := 3) (i' := 0) hO dX3_fillSafe_1 fX3_9 rfl rfl (zI (by decide)) rfl ?_
  refine zi_iconst (v := 0) hO dX3_fillSafe_4 (by decide) ?_
  refine zi_aload_n hO dX3_fillSafe_5 1 rfl ?_
  refine zi_iconst (v := 0) hO dX3_fillSafe_6 (by decide) ?_
  refine zi_sipush (v := 384) hO dX3_fillSafe_7 (by decide) ?_
  obtain ⟨s1, h⟩ := h
  obtain ⟨s2, h⟩ := h
  obtain ⟨s3, h⟩ := h
  obtain ⟨s4, h⟩ := h
  obtain ⟨s5, h⟩ := h
  refine zi_copy hO (by decide) dX3_fillSafe_10 qX3_59 q_copy_n q_copy_s q_sys_i rfl (zI (by decide)) hka (zI hia) s1 s2 s3 s4 s5 (Nat.le_of_ble_eq_true rfl) ?_
  refine zi_iconst (v := 0) hO dX3_fillSafe_13 (by decide) ?_
  refine zi_istore_n (L' := [(0, vR 2 0), (1, vR ra ia), (2, vI 0)]) hO dX3_fillSafe_14 (by decide) rfl rfl ?_
  exact h
theorem rX3_fillSafe_15 {x : zX} {w : zWd} {im : zMem} {lv : Int64} {P : zMem → Int64 → Prop} {ra : Nat} {ia : Nat} {Na : Nat} {x2 : Int32} (hO : zOK x w zyX3_fillSafe 4) (hR : zRetV x w zyX3_fillSafe P) (hN : zN x 126 126) (hka : zkd ra = (1, Na, 0)) (hia : ia < zcnt ra)
 (h : (((im 2 0 7) ≤ x2 → P im lv) ∧
 (¬ ((im 2 0 7) ≤ x2) → (vp_in x2 20 ∧ ((¬ ((((im 2 0 8) >>> ((im 5 0 (Int32.toNatClampNeg x2)) &&& 31)) &&& 1) = 1) → zW x w 15 [(0, vR 2 0), (1, vR ra ia), (2, vI (x2 + 1))] [] im lv) ∧
 ((((im 2 0 8) >>> ((im 5 0 (Int32.toNatClampNeg x2)) &&& 31)) &&& 1) = 1 → (∃ P3 : zMem → Int64 → Prop, zSpecV x.2.1 w 3 zyX3_lowerByStorm [vR 2 0, vR ra ia, vI x2] im lv P3 ∧ ∀ (im3 : zMem) (lv3 : Int64), P3 im3 lv3 → zW x w 15 [(0, vR 2 0), (1, vR ra ia), (2, vI (x2 + 1))] [] im3 lv3))))))) :
 zW x w 15 [(0, vR 2 0), (1, vR ra ia), (2, vI x2)] [] im lv := by
  refine zi_iload_n hO dX3_fillSafe_15 2 rfl ?_
  refine zi_aload_n hO dX3_fillSafe_16 0 rfl ?_
  refine zi_getI hO dX3_fillSafe_17 fX3_33 rfl rfl (zI (by decide)) ?_
  refine zi_icmp_ge (tgt := 47) hO dX3_fillSafe_20 (by decide) (fun c1 => ?_) (fun c1 => ?_)
  · have h := h.1 c1
    exact zr_V hO hR rfl dX3_fillSafe_47 h
  · have h := h.2 c1
    refine zi_aload_n hO dX3_fillSafe_23 0 rfl ?_
    refine zi_iload_n hO dX3_fillSafe_24 2 rfl ?_
    refine zi_aload_n hO dX3_fillSafe_25 0 rfl ?_
    refine zi_getI hO dX3_fillSafe_26 fX3_37 rfl rfl (zI (by decide)) ?_
    obtain ⟨s2, h⟩ := h
    refine zc_VI (as := [vI x2, vI (im 2 0 8)]) hO hN dX3_fillSafe_29 kX3_50 (by decide) rfl (zI (by decide)) rfl rfl (Nat.le_of_ble_eq_true rfl) rfl rfl (C_X3_stormsIn _ _ _ _ s2) (fun v1 im1 lv1 hp1 => ?_)
    rw [hp1.1, hp1.2.1, hp1.2.2]
    refine zi_if_eq (tgt := 41) hO dX3_fillSafe_32 (by decide) (fun c2 => ?_) (fun c2 => ?_)
    · have h := h.1 (vB_0.mp c2)
      refine zi_iinc (v' := (x2 + 1)) (L' := [(0, vR 2 0), (1, vR ra ia), (2, vI (x2 + 1))]) hO dX3_fillSafe_41 2 rfl rfl (by decide) rfl rfl ?_
      refine zi_goto (tgt := 15) hO dX3_fillSafe_44 (by decide) ?_
      exact h
    · have h := h.2 (vB_1.mp (vB_01.resolve_left c2))
      refine zi_aload_n hO dX3_fillSafe_35 0 rfl ?_
      refine zi_aload_n hO dX3_fillSafe_36 1 rfl ?_
      refine zi_iload_n hO dX3_fillSafe_37 2 rfl ?_
      obtain ⟨P3, hM3, h⟩ := h
      refine zc_VV (as := [vR ra ia, vI x2]) hO hN dX3_fillSafe_38 kX3_65 (by decide) rfl (zI (by decide)) rfl rfl (Nat.le_of_ble_eq_true rfl) rfl rfl hM3 (fun im3 lv3 hp3 => ?_)
      replace h := h im3 lv3 hp3
      refine zi_iinc (v' := (x2 + 1)) (L' := [(0, vR 2 0), (1, vR ra ia), (2, vI (x2 + 1))]) hO dX3_fillSafe_41 2 rfl rfl (by decide) rfl rfl ?_
      refine zi_goto (tgt := 15) hO dX3_fillSafe_44 (by decide) ?_
      exact h
theorem rX2_roomIn_0 {x : zX} {w : zWd} {im : zMem} {lv : Int64} {P : Int32 → zMem → Int64 → Prop} {f0 : Nat} {x1 : Int32} {x2 : Int32} {x3 : Int32} (hO : zOK x w zyX2_roomIn 2) (hR : zRetI x w zyX2_roomIn P) (hN : zN x 126 126) (hf0 : f0 < 12)
 (h : ((0 ≤ ((x1 - (im 12 f0 2)) - x3) → zW x w 21 [(0, vR 12 f0), (1, vI x1), (2, vI x2), (3, vI x3), (4, vI ((x1 - (im 12 f0 2)) - x3)), (5, vI 0)] [] im lv) ∧
 (¬ (0 ≤ ((x1 - (im 12 f0 2)) - x3)) → P (-1000000) im lv))) :
 zW x w 0 [(0, vR 12 f0), (1, vI x1), (2, vI x2), (3, vI x3)] [] im lv := by
  refine zi_iload_n hO dX2_roomIn_0 1 rfl ?_
  refine zi_aload_n hO dX2_roomIn_1 0 rfl ?_
  refine zi_getI hO dX2_roomIn_2 fX2_18 rfl rfl (zI hf0) ?_
  refine zi_isub hO dX2_roomIn_5 ?_
  refine zi_iload_n hO dX2_roomIn_6 3 rfl ?_
  refine zi_isub hO dX2_roomIn_7 ?_
  refine zi_istore (L' := [(0, vR 12 f0), (1, vI x1), (2, vI x2), (3, vI x3), (4, vI ((x1 - (im 12 f0 2)) - x3))]) hO dX2_roomIn_8 (by decide) rfl rfl ?_
  refine zi_iload hO dX2_roomIn_10 4 rfl ?_
  refine zi_if_ge (tgt := 18) hO dX2_roomIn_12 (by decide) (fun c1 => ?_) (fun c1 => ?_)
  · have h := h.1 c1
    refine zi_iconst (v := 0) hO dX2_roomIn_18 (by decide) ?_
    refine zi_istore (L' := [(0, vR 12 f0), (1, vI x1), (2, vI x2), (3, vI x3), (4, vI ((x1 - (im 12 f0 2)) - x3)), (5, vI 0)]) hO dX2_roomIn_19 (by decide) rfl rfl ?_
    exact h
  · have h := h.2 c1
    refine zi_ldc (v := (-1000000)) hO dX2_roomIn_15 nX2_47 ?_
    exact zr_I hO hR rfl dX2_roomIn_17 h
theorem rX2_roomIn_21 {x : zX} {w : zWd} {im : zMem} {lv : Int64} {P : Int32 → zMem → Int64 → Prop} {f0 : Nat} {x1 : Int32} {x2 : Int32} {x3 : Int32} {x4 : Int32} {x5 : Int32} (hO : zOK x w zyX2_roomIn 2) (hR : zRetI x w zyX2_roomIn P) (hN : zN x 126 126) (hf0 : f0 < 12)
 (h : (vp_in x2 3 ∧ (((im 13 f0 (Int32.toNatClampNeg x2)) ≤ x5 → P (-1000000) im lv) ∧
 (¬ ((im 13 f0 (Int32.toNatClampNeg x2)) ≤ x5) → (vp_in ((x2 * 5) + x5) 15 ∧ (((im 15 f0 (Int32.toNatClampNeg ((x2 * 5) + x5))) ≤ x4 → zW x w 21 [(0, vR 12 f0), (1, vI x1), (2, vI x2), (3, vI x3), (4, vI (x4 - (im 15 f0 (Int32.toNatClampNeg ((x2 * 5) + x5))))), (5, vI (x5 + 1))] [] im lv) ∧
 (¬ ((im 15 f0 (Int32.toNatClampNeg ((x2 * 5) + x5))) ≤ x4) → P (im 14 f0 (Int32.toNatClampNeg ((x2 * 5) + x5))) im lv))))))) :
 zW x w 21 [(0, vR 12 f0), (1, vI x1), (2, vI x2), (3, vI x3), (4, vI x4), (5, vI x5)] [] im lv := by
  refine zi_iload hO dX2_roomIn_21 5 rfl ?_
  refine zi_aload_n hO dX2_roomIn_23 0 rfl ?_
  refine zi_getR (r' := 13) (i' := f0) hO dX2_roomIn_24 fX2_27 rfl rfl (zI hf0) rfl ?_
  refine zi_iload_n hO dX2_roomIn_27 2 rfl ?_
  obtain ⟨s1, h⟩ := h
  refine zi_iald hO dX2_roomIn_28 rfl (zI hf0) s1 ?_
  refine zi_icmp_ge (tgt := 78) hO dX2_roomIn_29 (by decide) (fun c1 => ?_) (fun c1 => ?_)
  · have h := h.1 c1
    refine zi_ldc (v := (-1000000)) hO dX2_roomIn_78 nX2_47 ?_
    exact zr_I hO hR rfl dX2_roomIn_80 h
  · have h := h.2 c1
    refine zi_iload_n hO dX2_roomIn_32 2 rfl ?_
    refine zi_iconst (v := 5) hO dX2_roomIn_33 (by decide) ?_
    refine zi_imul hO dX2_roomIn_34 ?_
    refine zi_iload hO dX2_roomIn_35 5 rfl ?_
    refine zi_iadd hO dX2_roomIn_37 ?_
    refine zi_istore (L' := [(0, vR 12 f0), (1, vI x1), (2, vI x2), (3, vI x3), (4, vI x4), (5, vI x5), (6, vI ((x2 * 5) + x5))]) hO dX2_roomIn_38 (by decide) rfl rfl ?_
    refine zi_iload hO dX2_roomIn_40 4 rfl ?_
    refine zi_aload_n hO dX2_roomIn_42 0 rfl ?_
    refine zi_getR (r' := 15) (i' := f0) hO dX2_roomIn_43 fX2_34 rfl rfl (zI hf0) rfl ?_
    refine zi_iload hO dX2_roomIn_46 6 rfl ?_
    obtain ⟨s2, h⟩ := h
    refine zi_iald hO dX2_roomIn_48 rfl (zI hf0) s2 ?_
    refine zi_icmp_ge (tgt := 60) hO dX2_roomIn_49 (by decide) (fun c2 => ?_) (fun c2 => ?_)
    · have h := h.1 c2
      refine zi_iload hO dX2_roomIn_60 4 rfl ?_
      refine zi_aload_n hO dX2_roomIn_62 0 rfl ?_
      refine zi_getR (r' := 15) (i' := f0) hO dX2_roomIn_63 fX2_34 rfl rfl (zI hf0) rfl ?_
      refine zi_iload hO dX2_roomIn_66 6 rfl ?_
      refine zi_iald hO dX2_roomIn_68 rfl (zI hf0) s2 ?_
      refine zi_isub hO dX2_roomIn_69 ?_
      refine zi_istore (L' := [(0, vR 12 f0), (1, vI x1), (2, vI x2), (3, vI x3), (4, vI (x4 - (im 15 f0 (Int32.toNatClampNeg ((x2 * 5) + x5))))), (5, vI x5), (6, vI ((x2 * 5) + x5))]) hO dX2_roomIn_70 (by decide) rfl rfl ?_
      refine zi_iinc (v' := (x5 + 1)) (L' := [(0, vR 12 f0), (1, vI x1), (2, vI x2), (3, vI x3), (4, vI (x4 - (im 15 f0 (Int32.toNatClampNeg ((x2 * 5) + x5))))), (5, vI (x5 + 1)), (6, vI ((x2 * 5) + x5))]) hO dX2_roomIn_72 5 rfl rfl (by decide) rfl rfl ?_
      refine zi_goto (tgt := 21) hO dX2_roomIn_75 (by decide) ?_
      refine zi_pick (L' := [(0, vR 12 f0), (1, vI x1), (2, vI x2), (3, vI x3), (4, vI (x4 - (im 15 f0 (Int32.toNatClampNeg ((x2 * 5) + x5))))), (5, vI (x5 + 1))]) [0, 1, 2, 3, 4, 5] rfl ?_
      exact h
    · have h := h.2 c2
      refine zi_aload_n hO dX2_roomIn_52 0 rfl ?_
      refine zi_getR (r' := 14) (i' := f0) hO dX2_roomIn_53 fX2_31 rfl rfl (zI hf0) rfl ?_
      refine zi_iload hO dX2_roomIn_56 6 rfl ?_
      refine zi_iald hO dX2_roomIn_58 rfl (zI hf0) s2 ?_
      exact zr_I hO hR rfl dX2_roomIn_59 h
theorem rX2_slotsOfWay_0 {x : zX} {w : zWd} {im : zMem} {lv : Int64} {P : Int32 → zMem → Int64 → Prop} {f0 : Nat} (hO : zOK x w zyX2_slotsOfWay 2) (hR : zRetI x w zyX2_slotsOfWay P) (hN : zN x 126 126) (hf0 : f0 < 12)
 (h : zW x w 4 [(0, vR 12 f0), (1, vI 0), (2, vI 0)] [] im lv) :
 zW x w 0 [(0, vR 12 f0)] [] im lv := by
  refine zi_iconst (v := 0) hO dX2_slotsOfWay_0 (by decide) ?_
  refine zi_istore_n (L' := [(0, vR 12 f0), (1, vI 0)]) hO dX2_slotsOfWay_1 (by decide) rfl rfl ?_
  refine zi_iconst (v := 0) hO dX2_slotsOfWay_2 (by decide) ?_
  refine zi_istore_n (L' := [(0, vR 12 f0), (1, vI 0), (2, vI 0)]) hO dX2_slotsOfWay_3 (by decide) rfl rfl ?_
  exact h
theorem rX2_slotsOfWay_4 {x : zX} {w : zWd} {im : zMem} {lv : Int64} {P : Int32 → zMem → Int64 → Prop} {f0 : Nat} {x1 : Int32} {x2 : Int32} (hO : zOK x w zyX2_slotsOfWay 2) (hR : zRetI x w zyX2_slotsOfWay P) (hN : zN x 126 126) (hf0 : f0 < 12)
 (h : (vp_in (im 12 f0 8) 3 ∧ (((im 13 f0 (Int32.toNatClampNeg (im 12 f0 8))) ≤ x2 → P x1 im lv) ∧
 (¬ ((im 13 f0 (Int32.toNatClampNeg (im 12 f0 8))) ≤ x2) → (vp_in (((im 12 f0 8) * 5) + x2) 15 ∧ zW x w 4 [(0, vR 12 f0), (1, vI (x1 + (im 15 f0 (Int32.toNatClampNeg (((im 12 f0 8) * 5) + x2))))), (2, vI (x2 + 1))] [] im lv))))) :
 zW x w 4 [(0, vR 12 f0), (1, vI x1), (2, vI x2)] [] im lv := by
  refine zi_iload_n hO dX2_slotsOfWay_4 2 rfl ?_
  refine zi_aload_n hO dX2_slotsOfWay_5 0 rfl ?_
  refine zi_getR (r' := 13) (i' := f0) hO dX2_slotsOfWay_6 fX2_27 rfl rfl (zI hf0) rfl ?_
  refine zi_aload_n hO dX2_slotsOfWay_9 0 rfl ?_
  refine zi_getI hO dX2_slotsOfWay_10 fX2_37 rfl rfl (zI hf0) ?_
  obtain ⟨s1, h⟩ := h
  refine zi_iald hO dX2_slotsOfWay_13 rfl (zI hf0) s1 ?_
  refine zi_icmp_ge (tgt := 39) hO dX2_slotsOfWay_14 (by decide) (fun c1 => ?_) (fun c1 => ?_)
  · have h := h.1 c1
    refine zi_iload_n hO dX2_slotsOfWay_39 1 rfl ?_
    exact zr_I hO hR rfl dX2_slotsOfWay_40 h
  · have h := h.2 c1
    refine zi_iload_n hO dX2_slotsOfWay_17 1 rfl ?_
    refine zi_aload_n hO dX2_slotsOfWay_18 0 rfl ?_
    refine zi_getR (r' := 15) (i' := f0) hO dX2_slotsOfWay_19 fX2_34 rfl rfl (zI hf0) rfl ?_
    refine zi_aload_n hO dX2_slotsOfWay_22 0 rfl ?_
    refine zi_getI hO dX2_slotsOfWay_23 fX2_37 rfl rfl (zI hf0) ?_
    refine zi_iconst (v := 5) hO dX2_slotsOfWay_26 (by decide) ?_
    refine zi_imul hO dX2_slotsOfWay_27 ?_
    refine zi_iload_n hO dX2_slotsOfWay_28 2 rfl ?_
    refine zi_iadd hO dX2_slotsOfWay_29 ?_
    obtain ⟨s2, h⟩ := h
    refine zi_iald hO dX2_slotsOfWay_30 rfl (zI hf0) s2 ?_
    refine zi_iadd hO dX2_slotsOfWay_31 ?_
    refine zi_istore_n (L' := [(0, vR 12 f0), (1, vI (x1 + (im 15 f0 (Int32.toNatClampNeg (((im 12 f0 8) * 5) + x2))))), (2, vI x2)]) hO dX2_slotsOfWay_32 (by decide) rfl rfl ?_
    refine zi_iinc (v' := (x2 + 1)) (L' := [(0, vR 12 f0), (1, vI (x1 + (im 15 f0 (Int32.toNatClampNeg (((im 12 f0 8) * 5) + x2))))), (2, vI (x2 + 1))]) hO dX2_slotsOfWay_33 2 rfl rfl (by decide) rfl rfl ?_
    refine zi_goto (tgt := 4) hO dX2_slotsOfWay_36 (by decide) ?_
    exact h
theorem rX2_walk_0 {x : zX} {w : zWd} {im : zMem} {lv : Int64} {P : Int32 → zMem → Int64 → Prop} {f0 : Nat} {x1 : Int32} {x2 : Int32} {ra : Nat} {ia : Nat} {Na : Nat} (hO : zOK x w zyX2_walk 2) (hR : zRetI x w zyX2_walk P) (hN : zN x 126 126) (hf0 : f0 < 12) (hka : zkd ra = (1, Na, 0)) (hia : ia < zcnt ra)
 (h : zW x w 14 [(0, vR 12 f0), (1, vI x1), (2, vI x2), (3, vR ra ia), (4, vI 0), (5, vI ((im 12 f0 2) + x2)), (6, vI 0)] [] im lv) :
 zW x w 0 [(0, vR 12 f0), (1, vI x1), (2, vI x2), (3, vR ra ia)] [] im lv := by
  refine zi_iconst (v := 0) hO dX2_walk_0 (by decide) ?_
  refine zi_istore (L' := [(0, vR 12 f0), (1, vI x1), (2, vI x2), (3, vR ra ia), (4, vI 0)]) hO dX2_walk_1 (by decide) rfl rfl ?_
  refine zi_aload_n hO dX2_walk_3 0 rfl ?_
  refine zi_getI hO dX2_walk_4 fX2_18 rfl rfl (zI hf0) ?_
  refine zi_iload_n hO dX2_walk_7 2 rfl ?_
  refine zi_iadd hO dX2_walk_8 ?_
  refine zi_istore (L' := [(0, vR 12 f0), (1, vI x1), (2, vI x2), (3, vR ra ia), (4, vI 0), (5, vI ((im 12 f0 2) + x2))]) hO dX2_walk_9 (by decide) rfl rfl ?_
  refine zi_iconst (v := 0) hO dX2_walk_11 (by decide) ?_
  refine zi_istore (L' := [(0, vR 12 f0), (1, vI x1), (2, vI x2), (3, vR ra ia), (4, vI 0), (5, vI ((im 12 f0 2) + x2)), (6, vI 0)]) hO dX2_walk_12 (by decide) rfl rfl ?_
  exact h
theorem rX2_walk_14 {x : zX} {w : zWd} {im : zMem} {lv : Int64} {P : Int32 → zMem → Int64 → Prop} {f0 : Nat} {x1 : Int32} {x2 : Int32} {ra : Nat} {ia : Nat} {Na : Nat} {x4 : Int32} {x5 : Int32} {x6 : Int32} (hO : zOK x w zyX2_walk 2) (hR : zRetI x w zyX2_walk P) (hN : zN x 126 126) (hf0 : f0 < 12) (hka : zkd ra = (1, Na, 0)) (hia : ia < zcnt ra)
 (h : (vp_in x1 3 ∧ (((im 13 f0 (Int32.toNatClampNeg x1)) ≤ x6 → P x4 im lv) ∧
 (¬ ((im 13 f0 (Int32.toNatClampNeg x1)) ≤ x6) → zW x w 36 [(0, vR 12 f0), (1, vI x1), (2, vI x2), (3, vR ra ia), (4, vI x4), (5, vI x5), (6, vI x6), (7, vI ((x1 * 5) + x6)), (8, vI 0)] [] im lv)))) :
 zW x w 14 [(0, vR 12 f0), (1, vI x1), (2, vI x2), (3, vR ra ia), (4, vI x4), (5, vI x5), (6, vI x6)] [] im lv := by
  refine zi_iload hO dX2_walk_14 6 rfl ?_
  refine zi_aload_n hO dX2_walk_16 0 rfl ?_
  refine zi_getR (r' := 13) (i' := f0) hO dX2_walk_17 fX2_27 rfl rfl (zI hf0) rfl ?_
  refine zi_iload_n hO dX2_walk_20 1 rfl ?_
  obtain ⟨s1, h⟩ := h
  refine zi_iald hO dX2_walk_21 rfl (zI hf0) s1 ?_
  refine zi_icmp_ge (tgt := 97) hO dX2_walk_22 (by decide) (fun c1 => ?_) (fun c1 => ?_)
  · have h := h.1 c1
    refine zi_iload hO dX2_walk_97 4 rfl ?_
    exact zr_I hO hR rfl dX2_walk_99 h
  · have h := h.2 c1
    refine zi_iload_n hO dX2_walk_25 1 rfl ?_
    refine zi_iconst (v := 5) hO dX2_walk_26 (by decide) ?_
    refine zi_imul hO dX2_walk_27 ?_
    refine zi_iload hO dX2_walk_28 6 rfl ?_
    refine zi_iadd hO dX2_walk_30 ?_
    refine zi_istore (L' := [(0, vR 12 f0), (1, vI x1), (2, vI x2), (3, vR ra ia), (4, vI x4), (5, vI x5), (6, vI x6), (7, vI ((x1 * 5) + x6))]) hO dX2_walk_31 (by decide) rfl rfl ?_
    refine zi_iconst (v := 0) hO dX2_walk_33 (by decide) ?_
    refine zi_istore (L' := [(0, vR 12 f0), (1, vI x1), (2, vI x2), (3, vR ra ia), (4, vI x4), (5, vI x5), (6, vI x6), (7, vI ((x1 * 5) + x6)), (8, vI 0)]) hO dX2_walk_34 (by decide) rfl rfl ?_
    exact h
theorem rX2_walk_36 {x : zX} {w : zWd} {im : zMem} {lv : Int64} {P : Int32 → zMem → Int64 → Prop} {f0 : Nat} {x1 : Int32} {x2 : Int32} {ra : Nat} {ia : Nat} {Na : Nat} {x4 : Int32} {x5 : Int32} {x6 : Int32} {x7 : Int32} {x8 : Int32} (hO : zOK x w zyX2_walk 2) (hR : zRetI x w zyX2_walk P) (hN : zN x 126 126) (hf0 : f0 < 12) (hka : zkd ra = (1, Na, 0)) (hia : ia < zcnt ra)
 (h : (vp_in x7 15 ∧ (((im 15 f0 (Int32.toNatClampNeg x7)) ≤ x8 → zW x w 14 [(0, vR 12 f0), (1, vI x1), (2, vI x2), (3, vR ra ia), (4, vI x4), (5, vI x5), (6, vI (x6 + 1))] [] im lv) ∧
 (¬ ((im 15 f0 (Int32.toNatClampNeg x7)) ≤ x8) → ((48 ≤ x5 → zW x w 36 [(0, vR 12 f0), (1, vI x1), (2, vI x2), (3, vR ra ia), (4, vI x4), (5, vI (x5 + 1)), (6, vI x6), (7, vI x7), (8, vI (x8 + 1))] [] im lv) ∧
 (¬ (48 ≤ x5) → (((Int32.ofNat Na) ≤ x4 → zW x w 36 [(0, vR 12 f0), (1, vI x1), (2, vI x2), (3, vR ra ia), (4, vI x4), (5, vI (x5 + 1)), (6, vI x6), (7, vI x7), (8, vI (x8 + 1))] [] im lv) ∧
 (¬ ((Int32.ofNat Na) ≤ x4) → (vp_in x4 Na ∧ zW x w 36 [(0, vR 12 f0), (1, vI x1), (2, vI x2), (3, vR ra ia), (4, vI (x4 + 1)), (5, vI (x5 + 1)), (6, vI x6), (7, vI x7), (8, vI (x8 + 1))] [] (zwr im ra ia (Int32.toNatClampNeg x4) (((im 14 f0 (Int32.toNatClampNeg x7)) * 48) + x5)) lv))))))))) :
 zW x w 36 [(0, vR 12 f0), (1, vI x1), (2, vI x2), (3, vR ra ia), (4, vI x4), (5, vI x5), (6, vI x6), (7, vI x7), (8, vI x8)] [] im lv := by
  refine zi_iload hO dX2_walk_36 8 rfl ?_
  refine zi_aload_n hO dX2_walk_38 0 rfl ?_
  refine zi_getR (r' := 15) (i' := f0) hO dX2_walk_39 fX2_34 rfl rfl (zI hf0) rfl ?_
  refine zi_iload hO dX2_walk_42 7 rfl ?_
  obtain ⟨s1, h⟩ := h
  refine zi_iald hO dX2_walk_44 rfl (zI hf0) s1 ?_
  refine zi_icmp_ge (tgt := 91) hO dX2_walk_45 (by decide) (fun c1 => ?_) (fun c1 => ?_)
  · have h := h.1 c1
    refine zi_iinc (v' := (x6 + 1)) (L' := [(0, vR 12 f0), (1, vI x1), (2, vI x2), (3, vR ra ia), (4, vI x4), (5, vI x5), (6, vI (x6 + 1)), (7, vI x7), (8, vI x8)]) hO dX2_walk_91 6 rfl rfl (by decide) rfl rfl ?_
    refine zi_goto (tgt := 14) hO dX2_walk_94 (by decide) ?_
    refine zi_pick (L' := [(0, vR 12 f0), (1, vI x1), (2, vI x2), (3, vR ra ia), (4, vI x4), (5, vI x5), (6, vI (x6 + 1))]) [0, 1, 2, 3, 4, 5, 6] rfl ?_
    exact h
  · have h := h.2 c1
    refine zi_iload hO dX2_walk_48 5 rfl ?_
    refine zi_bipush (v := 48) hO dX2_walk_50 (by decide) ?_
    refine zi_icmp_ge (tgt := 82) hO dX2_walk_52 (by decide) (fun c2 => ?_) (fun c2 => ?_)
    · have h := h.1 c2
      refine zi_iinc (v' := (x5 + 1)) (L' := [(0, vR 12 f0), (1, vI x1), (2, vI x2), (3, vR ra ia), (4, vI x4), (5, vI (x5 + 1)), (6, vI x6), (7, vI x7), (8, vI x8)]) hO dX2_walk_82 5 rfl rfl (by decide) rfl rfl ?_
      refine zi_iinc (v' := (x8 + 1)) (L' := [(0, vR 12 f0), (1, vI x1), (2, vI x2), (3, vR ra ia), (4, vI x4), (5, vI (x5 + 1)), (6, vI x6), (7, vI x7), (8, vI (x8 + 1))]) hO dX2_walk_85 8 rfl rfl (by decide) rfl rfl ?_
      refine zi_goto (tgt := 36) hO dX2_walk_88 (by decide) ?_
      exact h
    · have h := h.2 c2
      refine zi_iload hO dX2_walk_55 4 rfl ?_
      refine zi_aload_n hO dX2_walk_57 3 rfl ?_
      refine zi_alen hO dX2_walk_58 hka (zI hia) rfl ?_
      refine zi_icmp_ge (tgt := 82) hO dX2_walk_59 (by decide) (fun c3 => ?_) (fun c3 => ?_)
      · have h := h.1 c3
        refine zi_iinc (v' := (x5 + 1)) (L' := [(0, vR 12 f0), (1, vI x1), (2, vI x2), (3, vR ra ia), (4, vI x4), (5, vI (x5 + 1)), (6, vI x6), (7, vI x7), (8, vI x8)]) hO dX2_walk_82 5 rfl rfl (by decide) rfl rfl ?_
        refine zi_iinc (v' := (x8 + 1)) (L' := [(0, vR 12 f0), (1, vI x1), (2, vI x2), (3, vR ra ia), (4, vI x4), (5, vI (x5 + 1)), (6, vI x6), (7, vI x7), (8, vI (x8 + 1))]) hO dX2_walk_85 8 rfl rfl (by decide) rfl rfl ?_
        refine zi_goto (tgt := 36) hO dX2_walk_88 (by decide) ?_
        exact h
      · have h := h.2 c3
        refine zi_aload_n hO dX2_walk_62 3 rfl ?_
        refine zi_iload hO dX2_walk_63 4 rfl ?_
        refine zi_aload_n hO dX2_walk_65 0 rfl ?_
        refine zi_getR (r' := 14) (i' := f0) hO dX2_walk_66 fX2_31 rfl rfl (zI hf0) rfl ?_
        refine zi_iload hO dX2_walk_69 7 rfl ?_
        refine zi_iald hO dX2_walk_71 rfl (zI hf0) s1 ?_
        refine zi_bipush (v := 48) hO dX2_walk_72 (by decide) ?_
        refine zi_imul hO dX2_walk_74 ?_
        refine zi_iload hO dX2_walk_75 5 rfl ?_
        refine zi_iadd hO dX2_walk_77 ?_
        obtain ⟨s2, h⟩ := h
        refine zi_iast hO dX2_walk_78 hka (zI hia) s2 ?_
        refine zi_iinc (v' := (x4 + 1)) (L' := [(0, vR 12 f0), (1, vI x1), (2, vI x2), (3, vR ra ia), (4, vI (x4 + 1)), (5, vI x5), (6, vI x6), (7, vI x7), (8, vI x8)]) hO dX2_walk_79 4 rfl rfl (by decide) rfl rfl ?_
        refine zi_iinc (v' := (x5 + 1)) (L' := [(0, vR 12 f0), (1, vI x1), (2, vI x2), (3, vR ra ia), (4, vI (x4 + 1)), (5, vI (x5 + 1)), (6, vI x6), (7, vI x7), (8, vI x8)]) hO dX2_walk_82 5 rfl rfl (by decide) rfl rfl ?_
        refine zi_iinc (v' := (x8 + 1)) (L' := [(0, vR 12 f0), (1, vI x1), (2, vI x2), (3, vR ra ia), (4, vI (x4 + 1)), (5, vI (x5 + 1)), (6, vI x6), (7, vI x7), (8, vI (x8 + 1))]) hO dX2_walk_85 8 rfl rfl (by decide) rfl rfl ?_
        refine zi_goto (tgt := 36) hO dX2_walk_88 (by decide) ?_
        exact h
theorem C_X3_borneInWorlds (l : Launch) (w : zWd) {m im : zMem} (lv : Int64) (hW : WF m) (hC : RC m im) {r t W : Nat} (hr : r < 8) (ht : t < 48) (hB : W < 2 ^ 31) : zSpecI l w 3 zyX3_borneInWorlds [vR 2 0, vI (nI r), vI (nI t), vI (nI W)] im lv (fun v im' lv' => v = nI (biN m r t W (nst m)) ∧ im' = im ∧ lv' = lv) := by
  refine ze_I (by decide) (Nat.le_of_ble_eq_true rfl) (fun x hO hR hN => ?_)
  have h20 := hW.2.2.1.2
  obtain ⟨-, -, c3, c4, c5, -, -⟩ := hC
  have key : ∀ n k, n + k = nst m → zW x w 15 [(0, vR 2 0), (1, vI (nI r)), (2, vI (nI t)), (3, vI (nI W)), (4, vI (nI (biN m r t W k))), (5, vI (nI k))] [] im lv := by
    intro n
    induction n with
    | zero =>
      intro k hk
      have : k = nst m := by omega
      subst this
      refine rX3_borneInWorlds_15 hO hR hN ?_
      rw [c3]
      exact ⟨fun _ => ⟨rfl, rfl, rfl⟩, fun q => absurd (Int32.le_refl _) q⟩
    | succ n ih =>
      intro k hk
      refine rX3_borneInWorlds_15 hO hR hN ?_
      obtain ⟨s0, s1, s2, s3, s4⟩ := hW.2.2.2.1 k (by omega)
      obtain ⟨t0, t1, t2, t3, t4⟩ := c4 k (by omega)
      have hb := biN_le hW (W := W) hr ht k
      have ih := ih (k + 1) (by omega)
      rw [biN] at ih
      rw [nI_clamp (show k < 2 ^ 31 by omega), c3, t0, t1, t2, t3, t4, zbit hB (by omega)]
      simp (disch := omega) only [zlit, nI_add, nI_leI, nI_ltI, nI_eq]
      refine ⟨fun q => by omega, fun _ => ⟨vp_in_nI (by omega) (by decide), fun q => ?_, fun q => ⟨fun q1 => ?_, fun q1 => ⟨fun q2 => ?_, fun q2 => ⟨fun q3 => ?_, fun q3 => ?_⟩⟩⟩⟩⟩
      · rw [if_neg (by omega)] at ih; exact ih
      · rw [if_neg (by omega)] at ih; exact ih
      · rw [if_neg (by omega)] at ih; exact ih
      · rw [if_neg (fun z => q3 z.1.2)] at ih; exact ih
      · by_cases h4 : stv m k < biN m r t W k
        · rw [if_pos h4]; rw [if_pos ⟨⟨⟨q, by omega, by omega⟩, q3⟩, h4⟩] at ih; exact ih
        · rw [if_neg h4]; rw [if_neg (fun z => h4 z.2)] at ih; exact ih
  refine rX3_borneInWorlds_0 hO hR hN ?_
  simp (disch := omega) only [zlit, nI_add, pk_mul, nI_clamp]
  rw [c5 (r * 48 + t) (by omega), Nat.mul_comm r 48]
  exact ⟨vp_in_nI (by omega) (by decide), key (nst m) 0 (by omega)⟩
theorem C_X3_lowerByStorm (l : Launch) (w : zWd) {m im : zMem} (lv : Int64) (hW : WF m) (hC : RC m im) {k : Nat} (hk : k < nst m) {g : Nat → Nat} (hg : ∀ c, c < 384 → im 22 0 c = nI (g c) ∧ g c ≤ 99) : zSpecV l w 3 zyX3_lowerByStorm [vR 2 0, vR 22 0, vI (nI k)] im lv (fun im' lv' => ((∀ r, ¬ r = 22 → im' r = im r) ∧ ∀ c, c < 384 → im' 22 0 c = nI (if (str m k = c / 48 ∧ sta1 m k ≤ c % 48 ∧ c % 48 < stb m k) ∧ stv m k < g c then stv m k else g c)) ∧ lv' = lv) := by
  refine ze_V (by decide) (Nat.le_of_ble_eq_true rfl) (fun x hO hR hN => ?_)
  have h20 := hW.2.2.1.2
  obtain ⟨s0, s1, s2, s3, s4⟩ := hW.2.2.2.1 k hk
  obtain ⟨t0, t1, t2, t3, t4⟩ := hC.2.2.2.1 k hk
  have ck : Int32.toNatClampNeg (nI k) = k := nI_clamp (by omega)
  have vk : vp_in (nI k) 20 := vp_in_nI (by omega) (by decide)
  have key : ∀ n s (im1 : zMem), n + s = stb m k → sta1 m k ≤ s → (∀ r, ¬ r = 22 → im1 r = im r) → (∀ c, c < 384 → im1 22 0 c = nI (if (str m k = c / 48 ∧ sta1 m k ≤ c % 48 ∧ c % 48 < s) ∧ stv m k < g c then stv m k else g c)) → zW x w 7 [(0, vR 2 0), (1, vR 22 0), (2, vI (nI k)), (3, vI (nI s))] [] im1 lv := by
    intro n
    induction n with
    | zero =>
      intro s im1 hs h1 hf hv
      refine rX3_lowerByStorm_7 hO hR hN rfl (by decide) ?_
      have : s = stb m k := by omega
      subst this
      rw [ck, hf 8 (by decide), t3]
      exact ⟨vk, fun _ => ⟨⟨hf, hv⟩, rfl⟩, fun q => absurd (Int32.le_refl _) q⟩
    | succ n ih =>
      intro s im1 hs h1 hf hv
      refine rX3_lowerByStorm_7 hO hR hN rfl (by decide) ?_
      have hv0 := hv (str m k * 48 + s) (by omega)
      rw [if_neg (by omega)] at hv0
      have g9 := (hg (str m k * 48 + s) (by omega)).2
      rw [ck, hf 8 (by decide), hf 6 (by decide), hf 9 (by decide), t1, t3, t4]
      simp (disch := omega) only [zlit, nI_add, pk_mul, nI_clamp, hv0, nI_leI, nI_ltI]
      refine ⟨vk, fun q => by omega, fun _ => ⟨vp_in_nI (by omega) (by decide), ih (s + 1) _ (by omega) (by omega) (fun r hr => by rw [zwr_r hr]; exact hf r hr) (fun c hc => ?_)⟩⟩
      rw [zwr_app]
      by_cases hcc : c = str m k * 48 + s
      · subst hcc
        rw [if_pos ⟨rfl, rfl, rfl⟩]
        by_cases h4 : stv m k < g (str m k * 48 + s)
        · rw [if_pos h4, if_pos ⟨by omega, h4⟩]
        · rw [if_neg h4, if_neg (fun z => h4 z.2)]
      · rw [if_neg (by omega), hv c hc]
        congr 1
        by_cases h4 : (str m k = c / 48 ∧ sta1 m k ≤ c % 48 ∧ c % 48 < s) ∧ stv m k < g c
        · rw [if_pos h4, if_pos (by omega)]
        · rw [if_neg h4, if_neg (by omega)]
  refine rX3_lowerByStorm_0 hO hR hN rfl (by decide) ?_
  rw [ck, t2]
  refine ⟨vk, key (stb m k - sta1 m k) _ im (by omega) (Nat.le_refl _) (fun _ _ => rfl) (fun c hc => ?_)⟩
  rw [if_neg (by omega)]
  exact (hg c hc).1
theorem C_X3_fillSafe (l : Launch) (w : zWd) {m im : zMem} (lv : Int64) (hW : WF m) (hC : RC m im) : zSpecV l w 4 zyX3_fillSafe [vR 2 0, vR 22 0] im lv (fun im' lv' => ((∀ r, ¬ r = 22 → im' r = im r) ∧ ∀ c, c < 384 → im' 22 0 c = nI (safe m (c / 48) (c % 48))) ∧ lv' = lv) := by
  refine ze_V (by decide) (Nat.le_of_ble_eq_true rfl) (fun x hO hR hN => ?_)
  have h20 := hW.2.2.1.2
  have h15 := hW.2.2.2.2.2.2.2.2
  have c3 := hC.2.2.1
  have c8 := hC.2.2.2.2.2.2
  have key : ∀ n k (im1 : zMem), n + k = nst m → (∀ r, ¬ r = 22 → im1 r = im r) → (∀ c, c < 384 → im1 22 0 c = nI (biN m (c / 48) (c % 48) (lok m) k)) → zW x w 15 [(0, vR 2 0), (1, vR 22 0), (2, vI (nI k))] [] im1 lv := by
    intro n
    induction n with
    | zero =>
      intro k im1 hk hf hv
      refine rX3_fillSafe_15 hO hR hN rfl (by decide) ?_
      have : k = nst m := by omega
      subst this
      rw [hf 2 (by decide), c3]
      refine ⟨fun _ => ⟨⟨hf, fun c hc => ?_⟩, rfl⟩, fun q => absurd (Int32.le_refl _) q⟩
      rw [hv c hc, biN_safe hW (by omega) (by omega)]
    | succ n ih =>
      intro k im1 hk hf hv
      refine rX3_fillSafe_15 hO hR hN rfl (by decide) ?_
      obtain ⟨s0, -⟩ := hW.2.2.2.1 k (by omega)
      obtain ⟨t0, -⟩ := hC.2.2.2.1 k (by omega)
      have hC1 : RC m im1 := hC.fr (fun r hr => hf r (by omega))
      rw [nI_clamp (show k < 2 ^ 31 by omega), hf 2 (by decide), hf 5 (by decide), c3, c8, t0, zbit (by omega) (by omega)]
      simp (disch := omega) only [zlit, nI_add, nI_leI, nI_eq]
      refine ⟨fun q => by omega, fun _ => ⟨vp_in_nI (by omega) (by decide), fun q => ?_, fun q => ⟨_, C_X3_lowerByStorm _ _ _ hW hC1 (by omega) (fun c hc => ⟨hv c hc, biN_le hW (by omega) (by omega) k⟩), ?_⟩⟩⟩
      · refine ih (k + 1) im1 (by omega) hf (fun c hc => ?_)
        rw [hv c hc, biN, if_neg (fun z => q z.1.2)]
      · rintro im2 lv2 ⟨⟨g1, g2⟩, rfl⟩
        refine ih (k + 1) im2 (by omega) (fun r hr => (g1 r hr).trans (hf r hr)) (fun c hc => ?_)
        rw [g2 c hc, biN]
        by_cases h4 : (str m k = c / 48 ∧ sta1 m k ≤ c % 48 ∧ c % 48 < stb m k) ∧ stv m k < biN m (c / 48) (c % 48) (lok m) k
        · rw [if_pos h4, if_pos ⟨⟨h4.1, q⟩, h4.2⟩]
        · rw [if_neg h4, if_neg (fun z => h4 ⟨z.1.1, z.2⟩)]
  refine rX3_fillSafe_0 hO hR hN rfl (by decide) ?_
  refine ⟨by decide, by decide, by decide, by decide, by decide, key (nst m) 0 _ (by omega) (fun r hr => by unfold zset; rw [if_neg hr]) (fun c hc => ?_)⟩
  rw [zset_eq, show Int32.toNatClampNeg 0 = 0 from rfl, show Int32.toNatClampNeg 384 = 384 from rfl, pk_cpy_in (by omega) (by omega)]
  have := hC.2.2.2.2.1 c hc
  rw [show 0 + (c - 0) = c by omega, this, biN]
  rw [show 48 * (c / 48) + c % 48 = c by omega]

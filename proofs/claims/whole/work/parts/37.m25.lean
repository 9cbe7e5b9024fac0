/-! the class's sky and the sums of its fleet -/
/-- loads and safes as the state tells them -/
def SKY (m im : zMem) : Prop := ∀ c, c < 384 → im 21 0 c = nI (load m (c / 48) (c % 48)) ∧ im 22 0 c = nI (safe m (c / 48) (c % 48))
theorem SKY.fr {m im im' : zMem} (h : SKY m im) (h1 : im' 21 = im 21) (h2 : im' 22 = im 22) : SKY m im' := by
  unfold SKY at *
  rw [h1, h2]
  exact h
theorem take_cnt {L : List Nat} {k c : Nat} (h : k < L.length) : (L.take (k + 1)).count c = (L.take k).count c + if L.getD k 0 = c then 1 else 0 := by
  rw [List.take_add_one, List.count_append, List.getD_eq_getElem?_getD, List.getElem?_eq_getElem h]
  congr 1
  rw [Option.toList_some, List.count_singleton, Option.getD_some]
  simp only [beq_iff_eq]
theorem gd_mem {L : List Nat} {k : Nat} (h : k < L.length) : L.getD k 0 ∈ L := by
  rw [List.getD_eq_getElem?_getD, List.getElem?_eq_getElem h]
  exact List.getElem_mem h
theorem tmI {a b : Nat} (ha : a < 2 ^ 30) (hb : b < 2 ^ 30) : (if (0 : Int32) < nI a - nI b then nI a - nI b else 0) = nI (a - b) := by
  have h := pk_sub_toInt ha hb
  by_cases q : b < a
  · rw [if_pos (by rw [Int32.lt_iff_toInt_lt, h]; simp only [Int32.reduceToInt]; omega), pk_sub (by omega)]
  · rw [if_neg (by rw [Int32.lt_iff_toInt_lt, h]; simp only [Int32.reduceToInt]; omega), show a - b = 0 by omega]
    exact nI_0.symm
theorem SKY.tm {m im : zMem} (hW : WF m) (h : SKY m im) {c : Nat} (hc : c < 384) : (if (0 : Int32) < im 21 0 c - im 22 0 c then im 21 0 c - im 22 0 c else 0) = nI (over m (c / 48) (c % 48)) := by
  obtain ⟨h1, h2⟩ := h c hc
  have a1 := load_le hW (r := c / 48) (t := c % 48)
  have a2 := safe_le hW (r := c / 48) (t := c % 48) (by omega) (by omega)
  rw [h1, h2, tmI (by omega) (by omega)]
  rfl
theorem rX8_refresh_0 {x : zX} {w : zWd} {im : zMem} {lv : Int64} {P : zMem → Int64 → Prop} (hO : zOK x w zyX8_refresh 5) (hR : zRetV x w zyX8_refresh P) (hN : zN x 126 126)
 (h : (∃ P1 : zMem → Int64 → Prop, zSpecV x.2.1 w 4 zyX3_fillSafe [vR 2 0, vR 22 0] im lv P1 ∧ ∀ (im1 : zMem) (lv1 : Int64), P1 im1 lv1 → (∃ P2 : zMem → Int64 → Prop, zSpecV x.2.1 w 2 zyJ7_fill_53178 [vR 21 0, vI 0] im1 lv1 P2 ∧ ∀ (im2 : zMem) (lv2 : Int64), P2 im2 lv2 → zW x w 21 [(0, vR 20 0), (1, vI 0)] [] im2 lv2))) :
 zW x w 0 [(0, vR 20 0)] [] im lv := by
  refine zi_aload_n hO dX8_refresh_0 0 rfl ?_
  refine zi_getR (r' := 2) (i' := 0) hO dX8_refresh_1 fX8_21 rfl rfl (zI (by decide)) rfl ?_
  refine zi_aload_n hO dX8_refresh_4 0 rfl ?_
  refine zi_getR (r' := 22) (i' := 0) hO dX8_refresh_5 fX8_15 rfl rfl (zI (by decide)) rfl ?_
  obtain ⟨P1, hM1, h⟩ := h
  refine zc_VV (as := [vR 22 0]) hO hN dX8_refresh_8 kX8_29 (by decide) rfl (zI (by decide)) rfl rfl (Nat.le_of_ble_eq_true rfl) rfl rfl hM1 (fun im1 lv1 hp1 => ?_)
  replace h := h im1 lv1 hp1
  refine zi_aload_n hO dX8_refresh_11 0 rfl ?_
  refine zi_getR (r' := 21) (i' := 0) hO dX8_refresh_12 fX8_9 rfl rfl (zI (by decide)) rfl ?_
  refine zi_iconst (v := 0) hO dX8_refresh_15 (by decide) ?_
  obtain ⟨P2, hM2, h⟩ := h
  refine zc_SV (as := [vR 21 0, vI 0]) hO hN dX8_refresh_16 kX8_35 (by decide) rfl (Nat.le_of_ble_eq_true rfl) rfl rfl hM2 (fun im2 lv2 hp2 => ?_)
  replace h := h im2 lv2 hp2
  refine zi_iconst (v := 0) hO dX8_refresh_19 (by decide) ?_
  refine zi_istore_n (L' := [(0, vR 20 0), (1, vI 0)]) hO dX8_refresh_20 (by decide) rfl rfl ?_
  exact h
theorem rX8_refresh_21 {x : zX} {w : zWd} {im : zMem} {lv : Int64} {P : zMem → Int64 → Prop} {x1 : Int32} (hO : zOK x w zyX8_refresh 5) (hR : zRetV x w zyX8_refresh P) (hN : zN x 126 126)
 (h : (((im 10 0 1) ≤ x1 → P im lv) ∧
 (¬ ((im 10 0 1) ≤ x1) → (vp_in x1 12 ∧ (∃ P2 : Int32 → zMem → Int64 → Prop, zSpecI x.2.1 w 2 zyX2_walk [vR 12 (Int32.toNatClampNeg x1), vI (im 12 (Int32.toNatClampNeg x1) 8), vI (im 12 (Int32.toNatClampNeg x1) 9), vR 23 0] im lv P2 ∧ ∀ (v2 : Int32) (im2 : zMem) (lv2 : Int64), P2 v2 im2 lv2 → zW x w 62 [(0, vR 20 0), (1, vI x1), (2, vR 12 (Int32.toNatClampNeg x1)), (3, vI v2), (4, vI 0)] [] im2 lv2))))) :
 zW x w 21 [(0, vR 20 0), (1, vI x1)] [] im lv := by
  refine zi_iload_n hO dX8_refresh_21 1 rfl ?_
  refine zi_aload_n hO dX8_refresh_22 0 rfl ?_
  refine zi_getR (r' := 10) (i' := 0) hO dX8_refresh_23 fX8_25 rfl rfl (zI (by decide)) rfl ?_
  refine zi_getI hO dX8_refresh_26 fX8_41 rfl rfl (zI (by decide)) ?_
  refine zi_icmp_ge (tgt := 99) hO dX8_refresh_29 (by decide) (fun c1 => ?_) (fun c1 => ?_)
  · have h := h.1 c1
    exact zr_V hO hR rfl dX8_refresh_99 h
  · have h := h.2 c1
    refine zi_aload_n hO dX8_refresh_32 0 rfl ?_
    refine zi_getR (r' := 10) (i' := 0) hO dX8_refresh_33 fX8_25 rfl rfl (zI (by decide)) rfl ?_
    refine zi_getR (r' := 11) (i' := 0) hO dX8_refresh_36 fX8_47 rfl rfl (zI (by decide)) rfl ?_
    refine zi_iload_n hO dX8_refresh_39 1 rfl ?_
    obtain ⟨s1, h⟩ := h
    refine zi_aald (t := 1) (r' := 12) (i' := (Int32.toNatClampNeg x1)) hO dX8_refresh_40 rfl (zI (by decide)) s1 rfl ?_
    refine zi_astore_n (L' := [(0, vR 20 0), (1, vI x1), (2, vR 12 (Int32.toNatClampNeg x1))]) hO dX8_refresh_41 (by decide) rfl rfl ?_
    refine zi_aload_n hO dX8_refresh_42 2 rfl ?_
    refine zi_aload_n hO dX8_refresh_43 2 rfl ?_
    refine zi_getI hO dX8_refresh_44 fX8_51 rfl rfl (zI (zvp s1)) ?_
    refine zi_aload_n hO dX8_refresh_47 2 rfl ?_
    refine zi_getI hO dX8_refresh_48 fX8_56 rfl rfl (zI (zvp s1)) ?_
    refine zi_aload_n hO dX8_refresh_51 0 rfl ?_
    refine zi_getR (r' := 23) (i' := 0) hO dX8_refresh_52 fX8_18 rfl rfl (zI (by decide)) rfl ?_
    obtain ⟨P2, hM2, h⟩ := h
    refine zc_VI (as := [vI (im 12 (Int32.toNatClampNeg x1) 8), vI (im 12 (Int32.toNatClampNeg x1) 9), vR 23 0]) hO hN dX8_refresh_55 kX8_59 (by decide) rfl (zI (zvp s1)) rfl rfl (Nat.le_of_ble_eq_true rfl) rfl rfl hM2 (fun v2 im2 lv2 hp2 => ?_)
    replace h := h v2 im2 lv2 hp2
    refine zi_istore_n (L' := [(0, vR 20 0), (1, vI x1), (2, vR 12 (Int32.toNatClampNeg x1)), (3, vI v2)]) hO dX8_refresh_58 (by decide) rfl rfl ?_
    refine zi_iconst (v := 0) hO dX8_refresh_59 (by decide) ?_
    refine zi_istore (L' := [(0, vR 20 0), (1, vI x1), (2, vR 12 (Int32.toNatClampNeg x1)), (3, vI v2), (4, vI 0)]) hO dX8_refresh_60 (by decide) rfl rfl ?_
    exact h
theorem rX8_refresh_62 {x : zX} {w : zWd} {im : zMem} {lv : Int64} {P : zMem → Int64 → Prop} {x1 : Int32} {f2 : Nat} {x3 : Int32} {x4 : Int32} (hO : zOK x w zyX8_refresh 5) (hR : zRetV x w zyX8_refresh P) (hN : zN x 126 126) (hf2 : f2 < 12)
 (h : ((x3 ≤ x4 → zW x w 21 [(0, vR 20 0), (1, vI (x1 + 1))] [] im lv) ∧
 (¬ (x3 ≤ x4) → (vp_in x4 20 ∧ (vp_in (im 23 0 (Int32.toNatClampNeg x4)) 384 ∧ zW x w 62 [(0, vR 20 0), (1, vI x1), (2, vR 12 f2), (3, vI x3), (4, vI (x4 + 1))] [] (zwr im 21 0 (Int32.toNatClampNeg (im 23 0 (Int32.toNatClampNeg x4))) ((im 21 0 (Int32.toNatClampNeg (im 23 0 (Int32.toNatClampNeg x4)))) + (im 12 f2 1))) lv))))) :
 zW x w 62 [(0, vR 20 0), (1, vI x1), (2, vR 12 f2), (3, vI x3), (4, vI x4)] [] im lv := by
  refine zi_iload hO dX8_refresh_62 4 rfl ?_
  refine zi_iload_n hO dX8_refresh_64 3 rfl ?_
  refine zi_icmp_ge (tgt := 93) hO dX8_refresh_65 (by decide) (fun c1 => ?_) (fun c1 => ?_)
  · have h := h.1 c1
    refine zi_iinc (v' := (x1 + 1)) (L' := [(0, vR 20 0), (1, vI (x1 + 1)), (2, vR 12 f2), (3, vI x3), (4, vI x4)]) hO dX8_refresh_93 1 rfl rfl (by decide) rfl rfl ?_
    refine zi_goto (tgt := 21) hO dX8_refresh_96 (by decide) ?_
    refine zi_pick (L' := [(0, vR 20 0), (1, vI (x1 + 1))]) [0, 1] rfl ?_
    exact h
  · have h := h.2 c1
    refine zi_aload_n hO dX8_refresh_68 0 rfl ?_
    refine zi_getR (r' := 21) (i' := 0) hO dX8_refresh_69 fX8_9 rfl rfl (zI (by decide)) rfl ?_
    refine zi_aload_n hO dX8_refresh_72 0 rfl ?_
    refine zi_getR (r' := 23) (i' := 0) hO dX8_refresh_73 fX8_18 rfl rfl (zI (by decide)) rfl ?_
    refine zi_iload hO dX8_refresh_76 4 rfl ?_
    obtain ⟨s1, h⟩ := h
    refine zi_iald hO dX8_refresh_78 rfl (zI (by decide)) s1 ?_
    refine zi_dup2 hO dX8_refresh_79 rfl rfl ?_
    obtain ⟨s2, h⟩ := h
    refine zi_iald hO dX8_refresh_80 rfl (zI (by decide)) s2 ?_
    refine zi_aload_n hO dX8_refresh_81 2 rfl ?_
    refine zi_getI hO dX8_refresh_82 fX8_63 rfl rfl (zI hf2) ?_
    refine zi_iadd hO dX8_refresh_85 ?_
    refine zi_iast hO dX8_refresh_86 rfl (zI (by decide)) s2 ?_
    refine zi_iinc (v' := (x4 + 1)) (L' := [(0, vR 20 0), (1, vI x1), (2, vR 12 f2), (3, vI x3), (4, vI (x4 + 1))]) hO dX8_refresh_87 4 rfl rfl (by decide) rfl rfl ?_
    refine zi_goto (tgt := 62) hO dX8_refresh_90 (by decide) ?_
    exact h
theorem rX8_tooMuchTogether_0 {x : zX} {w : zWd} {im : zMem} {lv : Int64} {P : Int32 → zMem → Int64 → Prop} (hO : zOK x w zyX8_tooMuchTogether 4) (hR : zRetI x w zyX8_tooMuchTogether P) (hN : zN x 126 126)
 (h : zW x w 4 [(0, vR 20 0), (1, vI 0), (2, vI 0)] [] im lv) :
 zW x w 0 [(0, vR 20 0)] [] im lv := by
  refine zi_iconst (v := 0) hO dX8_tooMuchTogether_0 (by decide) ?_
  refine zi_istore_n (L' := [(0, vR 20 0), (1, vI 0)]) hO dX8_tooMuchTogether_1 (by decide) rfl rfl ?_
  refine zi_iconst (v := 0) hO dX8_tooMuchTogether_2 (by decide) ?_
  refine zi_istore_n (L' := [(0, vR 20 0), (1, vI 0), (2, vI 0)]) hO dX8_tooMuchTogether_3 (by decide) rfl rfl ?_
  exact h
theorem rX8_tooMuchTogether_4 {x : zX} {w : zWd} {im : zMem} {lv : Int64} {P : Int32 → zMem → Int64 → Prop} {x1 : Int32} {x2 : Int32} (hO : zOK x w zyX8_tooMuchTogether 4) (hR : zRetI x w zyX8_tooMuchTogether P) (hN : zN x 126 126)
 (h : ((384 ≤ x2 → P x1 im lv) ∧
 (¬ (384 ≤ x2) → (vp_in x2 384 ∧ zW x w 4 [(0, vR 20 0), (1, vI (x1 + (if 0 < ((im 21 0 (Int32.toNatClampNeg x2)) - (im 22 0 (Int32.toNatClampNeg x2))) then ((im 21 0 (Int32.toNatClampNeg x2)) - (im 22 0 (Int32.toNatClampNeg x2))) else 0))), (2, vI (x2 + 1))] [] im lv)))) :
 zW x w 4 [(0, vR 20 0), (1, vI x1), (2, vI x2)] [] im lv := by
  refine zi_iload_n hO dX8_tooMuchTogether_4 2 rfl ?_
  refine zi_sipush (v := 384) hO dX8_tooMuchTogether_5 (by decide) ?_
  refine zi_icmp_ge (tgt := 25) hO dX8_tooMuchTogether_8 (by decide) (fun c1 => ?_) (fun c1 => ?_)
  · have h := h.1 c1
    refine zi_iload_n hO dX8_tooMuchTogether_25 1 rfl ?_
    exact zr_I hO hR rfl dX8_tooMuchTogether_26 h
  · have h := h.2 c1
    refine zi_iload_n hO dX8_tooMuchTogether_11 1 rfl ?_
    refine zi_aload_n hO dX8_tooMuchTogether_12 0 rfl ?_
    refine zi_iload_n hO dX8_tooMuchTogether_13 2 rfl ?_
    obtain ⟨s2, h⟩ := h
    refine zc_VI (as := [vI x2]) hO hN dX8_tooMuchTogether_14 kX8_72 (by decide) rfl (zI (by decide)) rfl rfl (Nat.le_of_ble_eq_true rfl) rfl rfl (C_X8_tooMuchIn _ _ _ _ s2) (fun v1 im1 lv1 hp1 => ?_)
    rw [hp1.1, hp1.2.1, hp1.2.2]
    refine zi_iadd hO dX8_tooMuchTogether_17 ?_
    refine zi_istore_n (L' := [(0, vR 20 0), (1, vI (x1 + (if 0 < ((im 21 0 (Int32.toNatClampNeg x2)) - (im 22 0 (Int32.toNatClampNeg x2))) then ((im 21 0 (Int32.toNatClampNeg x2)) - (im 22 0 (Int32.toNatClampNeg x2))) else 0))), (2, vI x2)]) hO dX8_tooMuchTogether_18 (by decide) rfl rfl ?_
    refine zi_iinc (v' := (x2 + 1)) (L' := [(0, vR 20 0), (1, vI (x1 + (if 0 < ((im 21 0 (Int32.toNatClampNeg x2)) - (im 22 0 (Int32.toNatClampNeg x2))) then ((im 21 0 (Int32.toNatClampNeg x2)) - (im 22 0 (Int32.toNatClampNeg x2))) else 0))), (2, vI (x2 + 1))]) hO dX8_tooMuchTogether_19 2 rfl rfl (by decide) rfl rfl ?_
    refine zi_goto (tgt := 4) hO dX8_tooMuchTogether_22 (by decide) ?_
    exact h
theorem rX8_crowdedCells_0 {x : zX} {w : zWd} {im : zMem} {lv : Int64} {P : Int32 → zMem → Int64 → Prop} (hO : zOK x w zyX8_crowdedCells 4) (hR : zRetI x w zyX8_crowdedCells P) (hN : zN x 126 126)
 (h : zW x w 4 [(0, vR 20 0), (1, vI 0), (2, vI 0)] [] im lv) :
 zW x w 0 [(0, vR 20 0)] [] im lv := by
  refine zi_iconst (v := 0) hO dX8_crowdedCells_0 (by decide) ?_
  refine zi_istore_n (L' := [(0, vR 20 0), (1, vI 0)]) hO dX8_crowdedCells_1 (by decide) rfl rfl ?_
  refine zi_iconst (v := 0) hO dX8_crowdedCells_2 (by decide) ?_
  refine zi_istore_n (L' := [(0, vR 20 0), (1, vI 0), (2, vI 0)]) hO dX8_crowdedCells_3 (by decide) rfl rfl ?_
  exact h
theorem rX8_crowdedCells_4 {x : zX} {w : zWd} {im : zMem} {lv : Int64} {P : Int32 → zMem → Int64 → Prop} {x1 : Int32} {x2 : Int32} (hO : zOK x w zyX8_crowdedCells 4) (hR : zRetI x w zyX8_crowdedCells P) (hN : zN x 126 126)
 (h : ((384 ≤ x2 → P x1 im lv) ∧
 (¬ (384 ≤ x2) → (vp_in x2 384 ∧ (((if 0 < ((im 21 0 (Int32.toNatClampNeg x2)) - (im 22 0 (Int32.toNatClampNeg x2))) then ((im 21 0 (Int32.toNatClampNeg x2)) - (im 22 0 (Int32.toNatClampNeg x2))) else 0) ≤ 0 → zW x w 4 [(0, vR 20 0), (1, vI (x1 + 0)), (2, vI (x2 + 1))] [] im lv) ∧
 (¬ ((if 0 < ((im 21 0 (Int32.toNatClampNeg x2)) - (im 22 0 (Int32.toNatClampNeg x2))) then ((im 21 0 (Int32.toNatClampNeg x2)) - (im 22 0 (Int32.toNatClampNeg x2))) else 0) ≤ 0) → zW x w 4 [(0, vR 20 0), (1, vI (x1 + 1)), (2, vI (x2 + 1))] [] im lv)))))) :
 zW x w 4 [(0, vR 20 0), (1, vI x1), (2, vI x2)] [] im lv := by
  refine zi_iload_n hO dX8_crowdedCells_4 2 rfl ?_
  refine zi_sipush (v := 384) hO dX8_crowdedCells_5 (by decide) ?_
  refine zi_icmp_ge (tgt := 33) hO dX8_crowdedCells_8 (by decide) (fun c1 => ?_) (fun c1 => ?_)
  · have h := h.1 c1
    refine zi_iload_n hO dX8_crowdedCells_33 1 rfl ?_
    exact zr_I hO hR rfl dX8_crowdedCells_34 h
  · have h := h.2 c1
    refine zi_iload_n hO dX8_crowdedCells_11 1 rfl ?_
    refine zi_aload_n hO dX8_crowdedCells_12 0 rfl ?_
    refine zi_iload_n hO dX8_crowdedCells_13 2 rfl ?_
    obtain ⟨s2, h⟩ := h
    refine zc_VI (as := [vI x2]) hO hN dX8_crowdedCells_14 kX8_72 (by decide) rfl (zI (by decide)) rfl rfl (Nat.le_of_ble_eq_true rfl) rfl rfl (C_X8_tooMuchIn _ _ _ _ s2) (fun v1 im1 lv1 hp1 => ?_)
    rw [hp1.1, hp1.2.1, hp1.2.2]
    refine zi_if_le (tgt := 24) hO dX8_crowdedCells_17 (by decide) (fun c2 => ?_) (fun c2 => ?_)
    · have h := h.1 c2
      refine zi_iconst (v := 0) hO dX8_crowdedCells_24 (by decide) ?_
      refine zi_iadd hO dX8_crowdedCells_25 ?_
      refine zi_istore_n (L' := [(0, vR 20 0), (1, vI (x1 + 0)), (2, vI x2)]) hO dX8_crowdedCells_26 (by decide) rfl rfl ?_
      refine zi_iinc (v' := (x2 + 1)) (L' := [(0, vR 20 0), (1, vI (x1 + 0)), (2, vI (x2 + 1))]) hO dX8_crowdedCells_27 2 rfl rfl (by decide) rfl rfl ?_
      refine zi_goto (tgt := 4) hO dX8_crowdedCells_30 (by decide) ?_
      exact h
    · have h := h.2 c2
      refine zi_iconst (v := 1) hO dX8_crowdedCells_20 (by decide) ?_
      refine zi_goto (tgt := 25) hO dX8_crowdedCells_21 (by decide) ?_
      refine zi_iadd hO dX8_crowdedCells_25 ?_
      refine zi_istore_n (L' := [(0, vR 20 0), (1, vI (x1 + 1)), (2, vI x2)]) hO dX8_crowdedCells_26 (by decide) rfl rfl ?_
      refine zi_iinc (v' := (x2 + 1)) (L' := [(0, vR 20 0), (1, vI (x1 + 1)), (2, vI (x2 + 1))]) hO dX8_crowdedCells_27 2 rfl rfl (by decide) rfl rfl ?_
      refine zi_goto (tgt := 4) hO dX8_crowdedCells_30 (by decide) ?_
      exact h
theorem rX8_greatestLoad_0 {x : zX} {w : zWd} {im : zMem} {lv : Int64} {P : Int32 → zMem → Int64 → Prop} (hO : zOK x w zyX8_greatestLoad 3) (hR : zRetI x w zyX8_greatestLoad P) (hN : zN x 126 126)
 (h : zW x w 4 [(0, vR 20 0), (1, vI 0), (2, vI 0)] [] im lv) :
 zW x w 0 [(0, vR 20 0)] [] im lv := by
  refine zi_iconst (v := 0) hO dX8_greatestLoad_0 (by decide) ?_
  refine zi_istore_n (L' := [(0, vR 20 0), (1, vI 0)]) hO dX8_greatestLoad_1 (by decide) rfl rfl ?_
  refine zi_iconst (v := 0) hO dX8_greatestLoad_2 (by decide) ?_
  refine zi_istore_n (L' := [(0, vR 20 0), (1, vI 0), (2, vI 0)]) hO dX8_greatestLoad_3 (by decide) rfl rfl ?_
  exact h
theorem rX8_greatestLoad_4 {x : zX} {w : zWd} {im : zMem} {lv : Int64} {P : Int32 → zMem → Int64 → Prop} {x1 : Int32} {x2 : Int32} (hO : zOK x w zyX8_greatestLoad 3) (hR : zRetI x w zyX8_greatestLoad P) (hN : zN x 126 126)
 (h : ((384 ≤ x2 → P x1 im lv) ∧
 (¬ (384 ≤ x2) → (vp_in x2 384 ∧ zW x w 4 [(0, vR 20 0), (1, vI (if x1 < (im 21 0 (Int32.toNatClampNeg x2)) then (im 21 0 (Int32.toNatClampNeg x2)) else x1)), (2, vI (x2 + 1))] [] im lv)))) :
 zW x w 4 [(0, vR 20 0), (1, vI x1), (2, vI x2)] [] im lv := by
  refine zi_iload_n hO dX8_greatestLoad_4 2 rfl ?_
  refine zi_sipush (v := 384) hO dX8_greatestLoad_5 (by decide) ?_
  refine zi_icmp_ge (tgt := 28) hO dX8_greatestLoad_8 (by decide) (fun c1 => ?_) (fun c1 => ?_)
  · have h := h.1 c1
    refine zi_iload_n hO dX8_greatestLoad_28 1 rfl ?_
    exact zr_I hO hR rfl dX8_greatestLoad_29 h
  · have h := h.2 c1
    refine zi_iload_n hO dX8_greatestLoad_11 1 rfl ?_
    refine zi_aload_n hO dX8_greatestLoad_12 0 rfl ?_
    refine zi_getR (r' := 21) (i' := 0) hO dX8_greatestLoad_13 fX8_9 rfl rfl (zI (by decide)) rfl ?_
    refine zi_iload_n hO dX8_greatestLoad_16 2 rfl ?_
    obtain ⟨s1, h⟩ := h
    refine zi_iald hO dX8_greatestLoad_17 rfl (zI (by decide)) s1 ?_
    refine zi_max hO hN (by decide) dX8_greatestLoad_18 qX8_66 q_max_s q_math_i q_max_c (Nat.le_of_ble_eq_true rfl) ?_
    refine zi_istore_n (L' := [(0, vR 20 0), (1, vI (if x1 < (im 21 0 (Int32.toNatClampNeg x2)) then (im 21 0 (Int32.toNatClampNeg x2)) else x1)), (2, vI x2)]) hO dX8_greatestLoad_21 (by decide) rfl rfl ?_
    refine zi_iinc (v' := (x2 + 1)) (L' := [(0, vR 20 0), (1, vI (if x1 < (im 21 0 (Int32.toNatClampNeg x2)) then (im 21 0 (Int32.toNatClampNeg x2)) else x1)), (2, vI (x2 + 1))]) hO dX8_greatestLoad_22 2 rfl rfl (by decide) rfl rfl ?_
    refine zi_goto (tgt := 4) hO dX8_greatestLoad_25 (by decide) ?_
    exact h
theorem rX8_isCrowdedAround_0 {x : zX} {w : zWd} {im : zMem} {lv : Int64} {P : Int32 → zMem → Int64 → Prop} {f1 : Nat} (hO : zOK x w zyX8_isCrowdedAround 3) (hR : zRetI x w zyX8_isCrowdedAround P) (hN : zN x 126 126) (hf1 : f1 < 12)
 (h : (∃ P1 : Int32 → zMem → Int64 → Prop, zSpecI x.2.1 w 2 zyX2_walk [vR 12 f1, vI (im 12 f1 8), vI (im 12 f1 9), vR 23 0] im lv P1 ∧ ∀ (v1 : Int32) (im1 : zMem) (lv1 : Int64), P1 v1 im1 lv1 → zW x w 19 [(0, vR 20 0), (1, vR 12 f1), (2, vI v1), (3, vI 0)] [] im1 lv1)) :
 zW x w 0 [(0, vR 20 0), (1, vR 12 f1)] [] im lv := by
  refine zi_aload_n hO dX8_isCrowdedAround_0 1 rfl ?_
  refine zi_aload_n hO dX8_isCrowdedAround_1 1 rfl ?_
  refine zi_getI hO dX8_isCrowdedAround_2 fX8_51 rfl rfl (zI hf1) ?_
  refine zi_aload_n hO dX8_isCrowdedAround_5 1 rfl ?_
  refine zi_getI hO dX8_isCrowdedAround_6 fX8_56 rfl rfl (zI hf1) ?_
  refine zi_aload_n hO dX8_isCrowdedAround_9 0 rfl ?_
  refine zi_getR (r' := 23) (i' := 0) hO dX8_isCrowdedAround_10 fX8_18 rfl rfl (zI (by decide)) rfl ?_
  obtain ⟨P1, hM1, h⟩ := h
  refine zc_VI (as := [vI (im 12 f1 8), vI (im 12 f1 9), vR 23 0]) hO hN dX8_isCrowdedAround_13 kX8_59 (by decide) rfl (zI hf1) rfl rfl (Nat.le_of_ble_eq_true rfl) rfl rfl hM1 (fun v1 im1 lv1 hp1 => ?_)
  replace h := h v1 im1 lv1 hp1
  refine zi_istore_n (L' := [(0, vR 20 0), (1, vR 12 f1), (2, vI v1)]) hO dX8_isCrowdedAround_16 (by decide) rfl rfl ?_
  refine zi_iconst (v := 0) hO dX8_isCrowdedAround_17 (by decide) ?_
  refine zi_istore_n (L' := [(0, vR 20 0), (1, vR 12 f1), (2, vI v1), (3, vI 0)]) hO dX8_isCrowdedAround_18 (by decide) rfl rfl ?_
  exact h
theorem rX8_isCrowdedAround_19 {x : zX} {w : zWd} {im : zMem} {lv : Int64} {P : Int32 → zMem → Int64 → Prop} {f1 : Nat} {x2 : Int32} {x3 : Int32} (hO : zOK x w zyX8_isCrowdedAround 3) (hR : zRetI x w zyX8_isCrowdedAround P) (hN : zN x 126 126) (hf1 : f1 < 12)
 (h : ((x2 ≤ x3 → P 0 im lv) ∧
 (¬ (x2 ≤ x3) → (vp_in x3 20 ∧ (vp_in (im 23 0 (Int32.toNatClampNeg x3)) 384 ∧ (((im 21 0 (Int32.toNatClampNeg (im 23 0 (Int32.toNatClampNeg x3)))) ≤ (im 22 0 (Int32.toNatClampNeg (im 23 0 (Int32.toNatClampNeg x3)))) → zW x w 19 [(0, vR 20 0), (1, vR 12 f1), (2, vI x2), (3, vI (x3 + 1))] [] im lv) ∧
 (¬ ((im 21 0 (Int32.toNatClampNeg (im 23 0 (Int32.toNatClampNeg x3)))) ≤ (im 22 0 (Int32.toNatClampNeg (im 23 0 (Int32.toNatClampNeg x3))))) → P 1 im lv))))))) :
 zW x w 19 [(0, vR 20 0), (1, vR 12 f1), (2, vI x2), (3, vI x3)] [] im lv := by
  refine zi_iload_n hO dX8_isCrowdedAround_19 3 rfl ?_
  refine zi_iload_n hO dX8_isCrowdedAround_20 2 rfl ?_
  refine zi_icmp_ge (tgt := 57) hO dX8_isCrowdedAround_21 (by decide) (fun c1 => ?_) (fun c1 => ?_)
  · have h := h.1 c1
    refine zi_iconst (v := 0) hO dX8_isCrowdedAround_57 (by decide) ?_
    exact zr_Z hO hR rfl (Or.inl rfl) dX8_isCrowdedAround_58 h
  · have h := h.2 c1
    refine zi_aload_n hO dX8_isCrowdedAround_24 0 rfl ?_
    refine zi_getR (r' := 21) (i' := 0) hO dX8_isCrowdedAround_25 fX8_9 rfl rfl (zI (by decide)) rfl ?_
    refine zi_aload_n hO dX8_isCrowdedAround_28 0 rfl ?_
    refine zi_getR (r' := 23) (i' := 0) hO dX8_isCrowdedAround_29 fX8_18 rfl rfl (zI (by decide)) rfl ?_
    refine zi_iload_n hO dX8_isCrowdedAround_32 3 rfl ?_
    obtain ⟨s1, h⟩ := h
    refine zi_iald hO dX8_isCrowdedAround_33 rfl (zI (by decide)) s1 ?_
    obtain ⟨s2, h⟩ := h
    refine zi_iald hO dX8_isCrowdedAround_34 rfl (zI (by decide)) s2 ?_
    refine zi_aload_n hO dX8_isCrowdedAround_35 0 rfl ?_
    refine zi_getR (r' := 22) (i' := 0) hO dX8_isCrowdedAround_36 fX8_15 rfl rfl (zI (by decide)) rfl ?_
    refine zi_aload_n hO dX8_isCrowdedAround_39 0 rfl ?_
    refine zi_getR (r' := 23) (i' := 0) hO dX8_isCrowdedAround_40 fX8_18 rfl rfl (zI (by decide)) rfl ?_
    refine zi_iload_n hO dX8_isCrowdedAround_43 3 rfl ?_
    refine zi_iald hO dX8_isCrowdedAround_44 rfl (zI (by decide)) s1 ?_
    refine zi_iald hO dX8_isCrowdedAround_45 rfl (zI (by decide)) s2 ?_
    refine zi_icmp_le (tgt := 51) hO dX8_isCrowdedAround_46 (by decide) (fun c2 => ?_) (fun c2 => ?_)
    · have h := h.1 c2
      refine zi_iinc (v' := (x3 + 1)) (L' := [(0, vR 20 0), (1, vR 12 f1), (2, vI x2), (3, vI (x3 + 1))]) hO dX8_isCrowdedAround_51 3 rfl rfl (by decide) rfl rfl ?_
      refine zi_goto (tgt := 19) hO dX8_isCrowdedAround_54 (by decide) ?_
      exact h
    · have h := h.2 c2
      refine zi_iconst (v := 1) hO dX8_isCrowdedAround_49 (by decide) ?_
      exact zr_Z hO hR rfl (Or.inr rfl) dX8_isCrowdedAround_50 h
theorem rX1_loadKnownAt_0 {x : zX} {w : zWd} {im : zMem} {lv : Int64} {P : Int32 → zMem → Int64 → Prop} {x1 : Int32} {x2 : Int32} {x3 : Int32} (hO : zOK x w zyX1_loadKnownAt 3) (hR : zRetI x w zyX1_loadKnownAt P) (hN : zN x 126 126)
 (h : zW x w 6 [(0, vR 10 0), (1, vI x1), (2, vI x2), (3, vI x3), (4, vI 0), (5, vI 0)] [] im lv) :
 zW x w 0 [(0, vR 10 0), (1, vI x1), (2, vI x2), (3, vI x3)] [] im lv := by
  refine zi_iconst (v := 0) hO dX1_loadKnownAt_0 (by decide) ?_
  refine zi_istore (L' := [(0, vR 10 0), (1, vI x1), (2, vI x2), (3, vI x3), (4, vI 0)]) hO dX1_loadKnownAt_1 (by decide) rfl rfl ?_
  refine zi_iconst (v := 0) hO dX1_loadKnownAt_3 (by decide) ?_
  refine zi_istore (L' := [(0, vR 10 0), (1, vI x1), (2, vI x2), (3, vI x3), (4, vI 0), (5, vI 0)]) hO dX1_loadKnownAt_4 (by decide) rfl rfl ?_
  exact h
theorem rX1_loadKnownAt_6 {x : zX} {w : zWd} {im : zMem} {lv : Int64} {P : Int32 → zMem → Int64 → Prop} {x1 : Int32} {x2 : Int32} {x3 : Int32} {x4 : Int32} {x5 : Int32} (hO : zOK x w zyX1_loadKnownAt 3) (hR : zRetI x w zyX1_loadKnownAt P) (hN : zN x 126 126)
 (h : (((im 10 0 1) ≤ x5 → P x4 im lv) ∧
 (¬ ((im 10 0 1) ≤ x5) → ((x3 < x5 → P x4 im lv) ∧
 (¬ (x3 < x5) → (vp_in x5 12 ∧ (∃ P2 : Int32 → zMem → Int64 → Prop, zSpecI x.2.1 w 2 zyX2_roomIn [vR 12 (Int32.toNatClampNeg x5), vI x2, vI 0, vI 0] im lv P2 ∧ ∀ (v2 : Int32) (im2 : zMem) (lv2 : Int64), P2 v2 im2 lv2 → ((¬ (v2 = x1) → zW x w 6 [(0, vR 10 0), (1, vI x1), (2, vI x2), (3, vI x3), (4, vI x4), (5, vI (x5 + 1))] [] im2 lv2) ∧
 (v2 = x1 → zW x w 6 [(0, vR 10 0), (1, vI x1), (2, vI x2), (3, vI x3), (4, vI (x4 + (im2 12 (Int32.toNatClampNeg x5) 1))), (5, vI (x5 + 1))] [] im2 lv2))))))))) :
 zW x w 6 [(0, vR 10 0), (1, vI x1), (2, vI x2), (3, vI x3), (4, vI x4), (5, vI x5)] [] im lv := by
  refine zi_iload hO dX1_loadKnownAt_6 5 rfl ?_
  refine zi_aload_n hO dX1_loadKnownAt_8 0 rfl ?_
  refine zi_getI hO dX1_loadKnownAt_9 fX1_17 rfl rfl (zI (by decide)) ?_
  refine zi_icmp_ge (tgt := 59) hO dX1_loadKnownAt_12 (by decide) (fun c1 => ?_) (fun c1 => ?_)
  · have h := h.1 c1
    refine zi_iload hO dX1_loadKnownAt_59 4 rfl ?_
    exact zr_I hO hR rfl dX1_loadKnownAt_61 h
  · have h := h.2 c1
    refine zi_iload hO dX1_loadKnownAt_15 5 rfl ?_
    refine zi_iload_n hO dX1_loadKnownAt_17 3 rfl ?_
    refine zi_icmp_gt (tgt := 59) hO dX1_loadKnownAt_18 (by decide) (fun c2 => ?_) (fun c2 => ?_)
    · have h := h.1 c2
      refine zi_iload hO dX1_loadKnownAt_59 4 rfl ?_
      exact zr_I hO hR rfl dX1_loadKnownAt_61 h
    · have h := h.2 c2
      refine zi_aload_n hO dX1_loadKnownAt_21 0 rfl ?_
      refine zi_getR (r' := 11) (i' := 0) hO dX1_loadKnownAt_22 fX1_11 rfl rfl (zI (by decide)) rfl ?_
      refine zi_iload hO dX1_loadKnownAt_25 5 rfl ?_
      obtain ⟨s1, h⟩ := h
      refine zi_aald (t := 1) (r' := 12) (i' := (Int32.toNatClampNeg x5)) hO dX1_loadKnownAt_27 rfl (zI (by decide)) s1 rfl ?_
      refine zi_iload_n hO dX1_loadKnownAt_28 2 rfl ?_
      refine zi_iconst (v := 0) hO dX1_loadKnownAt_29 (by decide) ?_
      refine zi_iconst (v := 0) hO dX1_loadKnownAt_30 (by decide) ?_
      obtain ⟨P2, hM2, h⟩ := h
      refine zc_VI (as := [vI x2, vI 0, vI 0]) hO hN dX1_loadKnownAt_31 kX1_22 (by decide) rfl (zI (zvp s1)) rfl rfl (Nat.le_of_ble_eq_true rfl) rfl rfl hM2 (fun v2 im2 lv2 hp2 => ?_)
      replace h := h v2 im2 lv2 hp2
      refine zi_iload_n hO dX1_loadKnownAt_34 1 rfl ?_
      refine zi_icmp_ne (tgt := 53) hO dX1_loadKnownAt_35 (by decide) (fun c3 => ?_) (fun c3 => ?_)
      · have h := h.1 c3
        refine zi_iinc (v' := (x5 + 1)) (L' := [(0, vR 10 0), (1, vI x1), (2, vI x2), (3, vI x3), (4, vI x4), (5, vI (x5 + 1))]) hO dX1_loadKnownAt_53 5 rfl rfl (by decide) rfl rfl ?_
        refine zi_goto (tgt := 6) hO dX1_loadKnownAt_56 (by decide) ?_
        exact h
      · have h := h.2 c3
        refine zi_iload hO dX1_loadKnownAt_38 4 rfl ?_
        refine zi_aload_n hO dX1_loadKnownAt_40 0 rfl ?_
        refine zi_getR (r' := 11) (i' := 0) hO dX1_loadKnownAt_41 fX1_11 rfl rfl (zI (by decide)) rfl ?_
        refine zi_iload hO dX1_loadKnownAt_44 5 rfl ?_
        refine zi_aald (t := 1) (r' := 12) (i' := (Int32.toNatClampNeg x5)) hO dX1_loadKnownAt_46 rfl (zI (by decide)) s1 rfl ?_
        refine zi_getI hO dX1_loadKnownAt_47 fX1_26 rfl rfl (zI (zvp s1)) ?_
        refine zi_iadd hO dX1_loadKnownAt_50 ?_
        refine zi_istore (L' := [(0, vR 10 0), (1, vI x1), (2, vI x2), (3, vI x3), (4, vI (x4 + (im2 12 (Int32.toNatClampNeg x5) 1))), (5, vI x5)]) hO dX1_loadKnownAt_51 (by decide) rfl rfl ?_
        refine zi_iinc (v' := (x5 + 1)) (L' := [(0, vR 10 0), (1, vI x1), (2, vI x2), (3, vI x3), (4, vI (x4 + (im2 12 (Int32.toNatClampNeg x5) 1))), (5, vI (x5 + 1))]) hO dX1_loadKnownAt_53 5 rfl rfl (by decide) rfl rfl ?_
        refine zi_goto (tgt := 6) hO dX1_loadKnownAt_56 (by decide) ?_
        exact h
theorem rX1_costTogether_0 {x : zX} {w : zWd} {im : zMem} {lv : Int64} {P : Int32 → zMem → Int64 → Prop} (hO : zOK x w zyX1_costTogether 4) (hR : zRetI x w zyX1_costTogether P) (hN : zN x 126 126)
 (h : zW x w 4 [(0, vR 10 0), (1, vI 0), (2, vI 0)] [] im lv) :
 zW x w 0 [(0, vR 10 0)] [] im lv := by
  refine zi_iconst (v := 0) hO dX1_costTogether_0 (by decide) ?_
  refine zi_istore_n (L' := [(0, vR 10 0), (1, vI 0)]) hO dX1_costTogether_1 (by decide) rfl rfl ?_
  refine zi_iconst (v := 0) hO dX1_costTogether_2 (by decide) ?_
  refine zi_istore_n (L' := [(0, vR 10 0), (1, vI 0), (2, vI 0)]) hO dX1_costTogether_3 (by decide) rfl rfl ?_
  exact h
theorem rX1_costTogether_4 {x : zX} {w : zWd} {im : zMem} {lv : Int64} {P : Int32 → zMem → Int64 → Prop} {x1 : Int32} {x2 : Int32} (hO : zOK x w zyX1_costTogether 4) (hR : zRetI x w zyX1_costTogether P) (hN : zN x 126 126)
 (h : (((im 10 0 1) ≤ x2 → P x1 im lv) ∧
 (¬ ((im 10 0 1) ≤ x2) → (vp_in x2 12 ∧ zW x w 4 [(0, vR 10 0), (1, vI (x1 + (((im 12 (Int32.toNatClampNeg x2) 3) * (im 12 (Int32.toNatClampNeg x2) 9)) + (10 * (im 12 (Int32.toNatClampNeg x2) 8))))), (2, vI (x2 + 1))] [] im lv)))) :
 zW x w 4 [(0, vR 10 0), (1, vI x1), (2, vI x2)] [] im lv := by
  refine zi_iload_n hO dX1_costTogether_4 2 rfl ?_
  refine zi_aload_n hO dX1_costTogether_5 0 rfl ?_
  refine zi_getI hO dX1_costTogether_6 fX1_17 rfl rfl (zI (by decide)) ?_
  refine zi_icmp_ge (tgt := 30) hO dX1_costTogether_9 (by decide) (fun c1 => ?_) (fun c1 => ?_)
  · have h := h.1 c1
    refine zi_iload_n hO dX1_costTogether_30 1 rfl ?_
    exact zr_I hO hR rfl dX1_costTogether_31 h
  · have h := h.2 c1
    refine zi_iload_n hO dX1_costTogether_12 1 rfl ?_
    refine zi_aload_n hO dX1_costTogether_13 0 rfl ?_
    refine zi_getR (r' := 11) (i' := 0) hO dX1_costTogether_14 fX1_11 rfl rfl (zI (by decide)) rfl ?_
    refine zi_iload_n hO dX1_costTogether_17 2 rfl ?_
    obtain ⟨s1, h⟩ := h
    refine zi_aald (t := 1) (r' := 12) (i' := (Int32.toNatClampNeg x2)) hO dX1_costTogether_18 rfl (zI (by decide)) s1 rfl ?_
    refine zc_VI (as := []) hO hN dX1_costTogether_19 kX1_29 (by decide) rfl (zI (zvp s1)) rfl rfl (Nat.le_of_ble_eq_true rfl) rfl rfl (C_X2_cost _ _ _ _ (zvp s1)) (fun v2 im2 lv2 hp2 => ?_)
    rw [hp2.1, hp2.2.1, hp2.2.2]
    refine zi_iadd hO dX1_costTogether_22 ?_
    refine zi_istore_n (L' := [(0, vR 10 0), (1, vI (x1 + (((im 12 (Int32.toNatClampNeg x2) 3) * (im 12 (Int32.toNatClampNeg x2) 9)) + (10 * (im 12 (Int32.toNatClampNeg x2) 8))))), (2, vI x2)]) hO dX1_costTogether_23 (by decide) rfl rfl ?_
    refine zi_iinc (v' := (x2 + 1)) (L' := [(0, vR 10 0), (1, vI (x1 + (((im 12 (Int32.toNatClampNeg x2) 3) * (im 12 (Int32.toNatClampNeg x2) 9)) + (10 * (im 12 (Int32.toNatClampNeg x2) 8))))), (2, vI (x2 + 1))]) hO dX1_costTogether_24 2 rfl rfl (by decide) rfl rfl ?_
    refine zi_goto (tgt := 4) hO dX1_costTogether_27 (by decide) ?_
    exact h
theorem rX1_delaysTogether_0 {x : zX} {w : zWd} {im : zMem} {lv : Int64} {P : Int32 → zMem → Int64 → Prop} (hO : zOK x w zyX1_delaysTogether 2) (hR : zRetI x w zyX1_delaysTogether P) (hN : zN x 126 126)
 (h : zW x w 4 [(0, vR 10 0), (1, vI 0), (2, vI 0)] [] im lv) :
 zW x w 0 [(0, vR 10 0)] [] im lv := by
  refine zi_iconst (v := 0) hO dX1_delaysTogether_0 (by decide) ?_
  refine zi_istore_n (L' := [(0, vR 10 0), (1, vI 0)]) hO dX1_delaysTogether_1 (by decide) rfl rfl ?_
  refine zi_iconst (v := 0) hO dX1_delaysTogether_2 (by decide) ?_
  refine zi_istore_n (L' := [(0, vR 10 0), (1, vI 0), (2, vI 0)]) hO dX1_delaysTogether_3 (by decide) rfl rfl ?_
  exact h
theorem rX1_delaysTogether_4 {x : zX} {w : zWd} {im : zMem} {lv : Int64} {P : Int32 → zMem → Int64 → Prop} {x1 : Int32} {x2 : Int32} (hO : zOK x w zyX1_delaysTogether 2) (hR : zRetI x w zyX1_delaysTogether P) (hN : zN x 126 126)
 (h : (((im 10 0 1) ≤ x2 → P x1 im lv) ∧
 (¬ ((im 10 0 1) ≤ x2) → (vp_in x2 12 ∧ zW x w 4 [(0, vR 10 0), (1, vI (x1 + (im 12 (Int32.toNatClampNeg x2) 9))), (2, vI (x2 + 1))] [] im lv)))) :
 zW x w 4 [(0, vR 10 0), (1, vI x1), (2, vI x2)] [] im lv := by
  refine zi_iload_n hO dX1_delaysTogether_4 2 rfl ?_
  refine zi_aload_n hO dX1_delaysTogether_5 0 rfl ?_
  refine zi_getI hO dX1_delaysTogether_6 fX1_17 rfl rfl (zI (by decide)) ?_
  refine zi_icmp_ge (tgt := 30) hO dX1_delaysTogether_9 (by decide) (fun c1 => ?_) (fun c1 => ?_)
  · have h := h.1 c1
    refine zi_iload_n hO dX1_delaysTogether_30 1 rfl ?_
    exact zr_I hO hR rfl dX1_delaysTogether_31 h
  · have h := h.2 c1
    refine zi_iload_n hO dX1_delaysTogether_12 1 rfl ?_
    refine zi_aload_n hO dX1_delaysTogether_13 0 rfl ?_
    refine zi_getR (r' := 11) (i' := 0) hO dX1_delaysTogether_14 fX1_11 rfl rfl (zI (by decide)) rfl ?_
    refine zi_iload_n hO dX1_delaysTogether_17 2 rfl ?_
    obtain ⟨s1, h⟩ := h
    refine zi_aald (t := 1) (r' := 12) (i' := (Int32.toNatClampNeg x2)) hO dX1_delaysTogether_18 rfl (zI (by decide)) s1 rfl ?_
    refine zi_getI hO dX1_delaysTogether_19 fX1_33 rfl rfl (zI (zvp s1)) ?_
    refine zi_iadd hO dX1_delaysTogether_22 ?_
    refine zi_istore_n (L' := [(0, vR 10 0), (1, vI (x1 + (im 12 (Int32.toNatClampNeg x2) 9))), (2, vI x2)]) hO dX1_delaysTogether_23 (by decide) rfl rfl ?_
    refine zi_iinc (v' := (x2 + 1)) (L' := [(0, vR 10 0), (1, vI (x1 + (im 12 (Int32.toNatClampNeg x2) 9))), (2, vI (x2 + 1))]) hO dX1_delaysTogether_24 2 rfl rfl (by decide) rfl rfl ?_
    refine zi_goto (tgt := 4) hO dX1_delaysTogether_27 (by decide) ?_
    exact h
theorem rX1_flightsOf_0 {x : zX} {w : zWd} {im : zMem} {lv : Int64} {P : Int32 → zMem → Int64 → Prop} {x1 : Int32} (hO : zOK x w zyX1_flightsOf 2) (hR : zRetI x w zyX1_flightsOf P) (hN : zN x 126 126)
 (h : zW x w 4 [(0, vR 10 0), (1, vI x1), (2, vI 0), (3, vI 0)] [] im lv) :
 zW x w 0 [(0, vR 10 0), (1, vI x1)] [] im lv := by
  refine zi_iconst (v := 0) hO dX1_flightsOf_0 (by decide) ?_
  refine zi_istore_n (L' := [(0, vR 10 0), (1, vI x1), (2, vI 0)]) hO dX1_flightsOf_1 (by decide) rfl rfl ?_
  refine zi_iconst (v := 0) hO dX1_flightsOf_2 (by decide) ?_
  refine zi_istore_n (L' := [(0, vR 10 0), (1, vI x1), (2, vI 0), (3, vI 0)]) hO dX1_flightsOf_3 (by decide) rfl rfl ?_
  exact h
theorem rX1_flightsOf_4 {x : zX} {w : zWd} {im : zMem} {lv : Int64} {P : Int32 → zMem → Int64 → Prop} {x1 : Int32} {x2 : Int32} {x3 : Int32} (hO : zOK x w zyX1_flightsOf 2) (hR : zRetI x w zyX1_flightsOf P) (hN : zN x 126 126)
 (h : (((im 10 0 1) ≤ x3 → P x2 im lv) ∧
 (¬ ((im 10 0 1) ≤ x3) → (vp_in x3 12 ∧ ((¬ ((im 12 (Int32.toNatClampNeg x3) 0) = x1) → zW x w 4 [(0, vR 10 0), (1, vI x1), (2, vI (x2 + 0)), (3, vI (x3 + 1))] [] im lv) ∧
 ((im 12 (Int32.toNatClampNeg x3) 0) = x1 → zW x w 4 [(0, vR 10 0), (1, vI x1), (2, vI (x2 + 1)), (3, vI (x3 + 1))] [] im lv)))))) :
 zW x w 4 [(0, vR 10 0), (1, vI x1), (2, vI x2), (3, vI x3)] [] im lv := by
  refine zi_iload_n hO dX1_flightsOf_4 3 rfl ?_
  refine zi_aload_n hO dX1_flightsOf_5 0 rfl ?_
  refine zi_getI hO dX1_flightsOf_6 fX1_17 rfl rfl (zI (by decide)) ?_
  refine zi_icmp_ge (tgt := 39) hO dX1_flightsOf_9 (by decide) (fun c1 => ?_) (fun c1 => ?_)
  · have h := h.1 c1
    refine zi_iload_n hO dX1_flightsOf_39 2 rfl ?_
    exact zr_I hO hR rfl dX1_flightsOf_40 h
  · have h := h.2 c1
    refine zi_iload_n hO dX1_flightsOf_12 2 rfl ?_
    refine zi_aload_n hO dX1_flightsOf_13 0 rfl ?_
    refine zi_getR (r' := 11) (i' := 0) hO dX1_flightsOf_14 fX1_11 rfl rfl (zI (by decide)) rfl ?_
    refine zi_iload_n hO dX1_flightsOf_17 3 rfl ?_
    obtain ⟨s1, h⟩ := h
    refine zi_aald (t := 1) (r' := 12) (i' := (Int32.toNatClampNeg x3)) hO dX1_flightsOf_18 rfl (zI (by decide)) s1 rfl ?_
    refine zi_getI hO dX1_flightsOf_19 fX1_36 rfl rfl (zI (zvp s1)) ?_
    refine zi_iload_n hO dX1_flightsOf_22 1 rfl ?_
    refine zi_icmp_ne (tgt := 30) hO dX1_flightsOf_23 (by decide) (fun c2 => ?_) (fun c2 => ?_)
    · have h := h.1 c2
      refine zi_iconst (v := 0) hO dX1_flightsOf_30 (by decide) ?_
      refine zi_iadd hO dX1_flightsOf_31 ?_
      refine zi_istore_n (L' := [(0, vR 10 0), (1, vI x1), (2, vI (x2 + 0)), (3, vI x3)]) hO dX1_flightsOf_32 (by decide) rfl rfl ?_
      refine zi_iinc (v' := (x3 + 1)) (L' := [(0, vR 10 0), (1, vI x1), (2, vI (x2 + 0)), (3, vI (x3 + 1))]) hO dX1_flightsOf_33 3 rfl rfl (by decide) rfl rfl ?_
      refine zi_goto (tgt := 4) hO dX1_flightsOf_36 (by decide) ?_
      exact h
    · have h := h.2 c2
      refine zi_iconst (v := 1) hO dX1_flightsOf_26 (by decide) ?_
      refine zi_goto (tgt := 31) hO dX1_flightsOf_27 (by decide) ?_
      refine zi_iadd hO dX1_flightsOf_31 ?_
      refine zi_istore_n (L' := [(0, vR 10 0), (1, vI x1), (2, vI (x2 + 1)), (3, vI x3)]) hO dX1_flightsOf_32 (by decide) rfl rfl ?_
      refine zi_iinc (v' := (x3 + 1)) (L' := [(0, vR 10 0), (1, vI x1), (2, vI (x2 + 1)), (3, vI (x3 + 1))]) hO dX1_flightsOf_33 3 rfl rfl (by decide) rfl rfl ?_
      refine zi_goto (tgt := 4) hO dX1_flightsOf_36 (by decide) ?_
      exact h
theorem rX1_delaysOf_0 {x : zX} {w : zWd} {im : zMem} {lv : Int64} {P : Int32 → zMem → Int64 → Prop} {x1 : Int32} (hO : zOK x w zyX1_delaysOf 2) (hR : zRetI x w zyX1_delaysOf P) (hN : zN x 126 126)
 (h : zW x w 4 [(0, vR 10 0), (1, vI x1), (2, vI 0), (3, vI 0)] [] im lv) :
 zW x w 0 [(0, vR 10 0), (1, vI x1)] [] im lv := by
  refine zi_iconst (v := 0) hO dX1_delaysOf_0 (by decide) ?_
  refine zi_istore_n (L' := [(0, vR 10 0), (1, vI x1), (2, vI 0)]) hO dX1_delaysOf_1 (by decide) rfl rfl ?_
  refine zi_iconst (v := 0) hO dX1_delaysOf_2 (by decide) ?_
  refine zi_istore_n (L' := [(0, vR 10 0), (1, vI x1), (2, vI 0), (3, vI 0)]) hO dX1_delaysOf_3 (by decide) rfl rfl ?_
  exact h
theorem rX1_delaysOf_4 {x : zX} {w : zWd} {im : zMem} {lv : Int64} {P : Int32 → zMem → Int64 → Prop} {x1 : Int32} {x2 : Int32} {x3 : Int32} (hO : zOK x w zyX1_delaysOf 2) (hR : zRetI x w zyX1_delaysOf P) (hN : zN x 126 126)
 (h : (((im 10 0 1) ≤ x3 → P x2 im lv) ∧
 (¬ ((im 10 0 1) ≤ x3) → (vp_in x3 12 ∧ ((¬ ((im 12 (Int32.toNatClampNeg x3) 0) = x1) → zW x w 4 [(0, vR 10 0), (1, vI x1), (2, vI (x2 + 0)), (3, vI (x3 + 1))] [] im lv) ∧
 ((im 12 (Int32.toNatClampNeg x3) 0) = x1 → zW x w 4 [(0, vR 10 0), (1, vI x1), (2, vI (x2 + (im 12 (Int32.toNatClampNeg x3) 9))), (3, vI (x3 + 1))] [] im lv)))))) :
 zW x w 4 [(0, vR 10 0), (1, vI x1), (2, vI x2), (3, vI x3)] [] im lv := by
  refine zi_iload_n hO dX1_delaysOf_4 3 rfl ?_
  refine zi_aload_n hO dX1_delaysOf_5 0 rfl ?_
  refine zi_getI hO dX1_delaysOf_6 fX1_17 rfl rfl (zI (by decide)) ?_
  refine zi_icmp_ge (tgt := 47) hO dX1_delaysOf_9 (by decide) (fun c1 => ?_) (fun c1 => ?_)
  · have h := h.1 c1
    refine zi_iload_n hO dX1_delaysOf_47 2 rfl ?_
    exact zr_I hO hR rfl dX1_delaysOf_48 h
  · have h := h.2 c1
    refine zi_iload_n hO dX1_delaysOf_12 2 rfl ?_
    refine zi_aload_n hO dX1_delaysOf_13 0 rfl ?_
    refine zi_getR (r' := 11) (i' := 0) hO dX1_delaysOf_14 fX1_11 rfl rfl (zI (by decide)) rfl ?_
    refine zi_iload_n hO dX1_delaysOf_17 3 rfl ?_
    obtain ⟨s1, h⟩ := h
    refine zi_aald (t := 1) (r' := 12) (i' := (Int32.toNatClampNeg x3)) hO dX1_delaysOf_18 rfl (zI (by decide)) s1 rfl ?_
    refine zi_getI hO dX1_delaysOf_19 fX1_36 rfl rfl (zI (zvp s1)) ?_
    refine zi_iload_n hO dX1_delaysOf_22 1 rfl ?_
    refine zi_icmp_ne (tgt := 38) hO dX1_delaysOf_23 (by decide) (fun c2 => ?_) (fun c2 => ?_)
    · have h := h.1 c2
      refine zi_iconst (v := 0) hO dX1_delaysOf_38 (by decide) ?_
      refine zi_iadd hO dX1_delaysOf_39 ?_
      refine zi_istore_n (L' := [(0, vR 10 0), (1, vI x1), (2, vI (x2 + 0)), (3, vI x3)]) hO dX1_delaysOf_40 (by decide) rfl rfl ?_
      refine zi_iinc (v' := (x3 + 1)) (L' := [(0, vR 10 0), (1, vI x1), (2, vI (x2 + 0)), (3, vI (x3 + 1))]) hO dX1_delaysOf_41 3 rfl rfl (by decide) rfl rfl ?_
      refine zi_goto (tgt := 4) hO dX1_delaysOf_44 (by decide) ?_
      exact h
    · have h := h.2 c2
      refine zi_aload_n hO dX1_delaysOf_26 0 rfl ?_
      refine zi_getR (r' := 11) (i' := 0) hO dX1_delaysOf_27 fX1_11 rfl rfl (zI (by decide)) rfl ?_
      refine zi_iload_n hO dX1_delaysOf_30 3 rfl ?_
      refine zi_aald (t := 1) (r' := 12) (i' := (Int32.toNatClampNeg x3)) hO dX1_delaysOf_31 rfl (zI (by decide)) s1 rfl ?_
      refine zi_getI hO dX1_delaysOf_32 fX1_33 rfl rfl (zI (zvp s1)) ?_
      refine zi_goto (tgt := 39) hO dX1_delaysOf_35 (by decide) ?_
      refine zi_iadd hO dX1_delaysOf_39 ?_
      refine zi_istore_n (L' := [(0, vR 10 0), (1, vI x1), (2, vI (x2 + (im 12 (Int32.toNatClampNeg x3) 9))), (3, vI x3)]) hO dX1_delaysOf_40 (by decide) rfl rfl ?_
      refine zi_iinc (v' := (x3 + 1)) (L' := [(0, vR 10 0), (1, vI x1), (2, vI (x2 + (im 12 (Int32.toNatClampNeg x3) 9))), (3, vI (x3 + 1))]) hO dX1_delaysOf_41 3 rfl rfl (by decide) rfl rfl ?_
      refine zi_goto (tgt := 4) hO dX1_delaysOf_44 (by decide) ?_
      exact h
theorem rX1_costOf_0 {x : zX} {w : zWd} {im : zMem} {lv : Int64} {P : Int32 → zMem → Int64 → Prop} {x1 : Int32} (hO : zOK x w zyX1_costOf 4) (hR : zRetI x w zyX1_costOf P) (hN : zN x 126 126)
 (h : zW x w 4 [(0, vR 10 0), (1, vI x1), (2, vI 0), (3, vI 0)] [] im lv) :
 zW x w 0 [(0, vR 10 0), (1, vI x1)] [] im lv := by
  refine zi_iconst (v := 0) hO dX1_costOf_0 (by decide) ?_
  refine zi_istore_n (L' := [(0, vR 10 0), (1, vI x1), (2, vI 0)]) hO dX1_costOf_1 (by decide) rfl rfl ?_
  refine zi_iconst (v := 0) hO dX1_costOf_2 (by decide) ?_
  refine zi_istore_n (L' := [(0, vR 10 0), (1, vI x1), (2, vI 0), (3, vI 0)]) hO dX1_costOf_3 (by decide) rfl rfl ?_
  exact h
theorem rX1_costOf_4 {x : zX} {w : zWd} {im : zMem} {lv : Int64} {P : Int32 → zMem → Int64 → Prop} {x1 : Int32} {x2 : Int32} {x3 : Int32} (hO : zOK x w zyX1_costOf 4) (hR : zRetI x w zyX1_costOf P) (hN : zN x 126 126)
 (h : (((im 10 0 1) ≤ x3 → P x2 im lv) ∧
 (¬ ((im 10 0 1) ≤ x3) → (vp_in x3 12 ∧ ((¬ ((im 12 (Int32.toNatClampNeg x3) 0) = x1) → zW x w 4 [(0, vR 10 0), (1, vI x1), (2, vI (x2 + 0)), (3, vI (x3 + 1))] [] im lv) ∧
 ((im 12 (Int32.toNatClampNeg x3) 0) = x1 → zW x w 4 [(0, vR 10 0), (1, vI x1), (2, vI (x2 + (((im 12 (Int32.toNatClampNeg x3) 3) * (im 12 (Int32.toNatClampNeg x3) 9)) + (10 * (im 12 (Int32.toNatClampNeg x3) 8))))), (3, vI (x3 + 1))] [] im lv)))))) :
 zW x w 4 [(0, vR 10 0), (1, vI x1), (2, vI x2), (3, vI x3)] [] im lv := by
  refine zi_iload_n hO dX1_costOf_4 3 rfl ?_
  refine zi_aload_n hO dX1_costOf_5 0 rfl ?_
  refine zi_getI hO dX1_costOf_6 fX1_17 rfl rfl (zI (by decide)) ?_
  refine zi_icmp_ge (tgt := 47) hO dX1_costOf_9 (by decide) (fun c1 => ?_) (fun c1 => ?_)
  · have h := h.1 c1
    refine zi_iload_n hO dX1_costOf_47 2 rfl ?_
    exact zr_I hO hR rfl dX1_costOf_48 h
  · have h := h.2 c1
    refine zi_iload_n hO dX1_costOf_12 2 rfl ?_
    refine zi_aload_n hO dX1_costOf_13 0 rfl ?_
    refine zi_getR (r' := 11) (i' := 0) hO dX1_costOf_14 fX1_11 rfl rfl (zI (by decide)) rfl ?_
    refine zi_iload_n hO dX1_costOf_17 3 rfl ?_
    obtain ⟨s1, h⟩ := h
    refine zi_aald (t := 1) (r' := 12) (i' := (Int32.toNatClampNeg x3)) hO dX1_costOf_18 rfl (zI (by decide)) s1 rfl ?_
    refine zi_getI hO dX1_costOf_19 fX1_36 rfl rfl (zI (zvp s1)) ?_
    refine zi_iload_n hO dX1_costOf_22 1 rfl ?_
    refine zi_icmp_ne (tgt := 38) hO dX1_costOf_23 (by decide) (fun c2 => ?_) (fun c2 => ?_)
    · have h := h.1 c2
      refine zi_iconst (v := 0) hO dX1_costOf_38 (by decide) ?_
      refine zi_iadd hO dX1_costOf_39 ?_
      refine zi_istore_n (L' := [(0, vR 10 0), (1, vI x1), (2, vI (x2 + 0)), (3, vI x3)]) hO dX1_costOf_40 (by decide) rfl rfl ?_
      refine zi_iinc (v' := (x3 + 1)) (L' := [(0, vR 10 0), (1, vI x1), (2, vI (x2 + 0)), (3, vI (x3 + 1))]) hO dX1_costOf_41 3 rfl rfl (by decide) rfl rfl ?_
      refine zi_goto (tgt := 4) hO dX1_costOf_44 (by decide) ?_
      exact h
    · have h := h.2 c2
      refine zi_aload_n hO dX1_costOf_26 0 rfl ?_
      refine zi_getR (r' := 11) (i' := 0) hO dX1_costOf_27 fX1_11 rfl rfl (zI (by decide)) rfl ?_
      refine zi_iload_n hO dX1_costOf_30 3 rfl ?_
      refine zi_aald (t := 1) (r' := 12) (i' := (Int32.toNatClampNeg x3)) hO dX1_costOf_31 rfl (zI (by decide)) s1 rfl ?_
      refine zc_VI (as := []) hO hN dX1_costOf_32 kX1_29 (by decide) rfl (zI (zvp s1)) rfl rfl (Nat.le_of_ble_eq_true rfl) rfl rfl (C_X2_cost _ _ _ _ (zvp s1)) (fun v2 im2 lv2 hp2 => ?_)
      rw [hp2.1, hp2.2.1, hp2.2.2]
      refine zi_goto (tgt := 39) hO dX1_costOf_35 (by decide) ?_
      refine zi_iadd hO dX1_costOf_39 ?_
      refine zi_istore_n (L' := [(0, vR 10 0), (1, vI x1), (2, vI (x2 + (((im 12 (Int32.toNatClampNeg x3) 3) * (im 12 (Int32.toNatClampNeg x3) 9)) + (10 * (im 12 (Int32.toNatClampNeg x3) 8))))), (3, vI x3)]) hO dX1_costOf_40 (by decide) rfl rfl ?_
      refine zi_iinc (v' := (x3 + 1)) (L' := [(0, vR 10 0), (1, vI x1), (2, vI (x2 + (((im 12 (Int32.toNatClampNeg x3) 3) * (im 12 (Int32.toNatClampNeg x3) 9)) + (10 * (im 12 (Int32.toNatClampNeg x3) 8))))), (3, vI (x3 + 1))]) hO dX1_costOf_41 3 rfl rfl (by decide) rfl rfl ?_
      refine zi_goto (tgt := 4) hO dX1_costOf_44 (by decide) ?_
      exact h
theorem C_X8_refresh (l : Launch) (w : zWd) {m im : zMem} (lv : Int64) (hW : WF m) (hC : RC m im) : zSpecV l w 5 zyX8_refresh [vR 20 0] im lv (fun im' lv' => ((∀ r, ¬ (21 ≤ r ∧ r ≤ 23) → im' r = im r) ∧ SKY m im') ∧ lv' = lv) := by
  refine ze_V (by decide) (Nat.le_of_ble_eq_true rfl) (fun x hO hR hN => ?_)
  have h12 := hW.1.2
  have key : ∀ n k (im1 : zMem), n + k = nfl m → (∀ r, ¬ (21 ≤ r ∧ r ≤ 23) → im1 r = im r) → (∀ c, c < 384 → im1 21 0 c = nI (ldN m (c / 48) (c % 48) k) ∧ im1 22 0 c = nI (safe m (c / 48) (c % 48))) → zW x w 21 [(0, vR 20 0), (1, vI (nI k))] [] im1 lv := by
    intro n
    induction n with
    | zero =>
      intro k im1 hk hf hv
      have : k = nfl m := by omega
      subst this
      refine rX8_refresh_21 hO hR hN ?_
      rw [hf 10 (by decide), hC.1]
      exact ⟨fun _ => ⟨⟨hf, hv⟩, rfl⟩, fun q => absurd (Int32.le_refl _) q⟩
    | succ n ih =>
      intro k im1 hk hf hv
      refine rX8_refresh_21 hO hR hN ?_
      have hkn : k < nfl m := by omega
      obtain ⟨-, f1, -, -, f4, f5, f6, -⟩ := hW.2.1 k hkn
      obtain ⟨c0, c1, c2, c3, c4, c5, c6, -⟩ := hC.2.1 k hkn
      have hC1 : RC m im1 := hC.fr (fun r hr => hf r (by omega))
      rw [nI_clamp (show k < 2 ^ 31 by omega), hf 10 (by decide), hf 12 (by decide), hC.1, c5, c6]
      refine ⟨fun q => ?_, fun _ => ⟨vp_in_nI (by omega) (by decide), _, C_X2_walk _ _ _ hW hC1 (ra := 23) hkn f5.2 (by omega) rfl (by decide) (by decide), ?_⟩⟩
      · rw [nI_leI (by omega) (by omega)] at q; omega
      · rintro v2 im2 lv2 ⟨⟨rfl, hl, g1, g2⟩, rfl⟩
        have hlt : ∀ i, i < (pth m k (way m k) (dly m k)).length → (pth m k (way m k) (dly m k)).getD i 0 < 384 := fun i hi => pth_lt hW hkn (by omega) (gd_mem hi)
        have hcn : ∀ c, (pth m k (way m k) (dly m k)).count c = if room m k (way m k) (dly m k) (c % 48) = some (c / 48) then 1 else 0 := fun c => pth_count c
        generalize pth m k (way m k) (dly m k) = L at *
        have inner : ∀ p j (im3 : zMem), p + j = L.length → (∀ r, ¬ (21 ≤ r ∧ r ≤ 23) → im3 r = im r) → im3 23 = im2 23 → (∀ c, c < 384 → im3 21 0 c = nI (ldN m (c / 48) (c % 48) k + wgt m k * (L.take j).count c) ∧ im3 22 0 c = nI (safe m (c / 48) (c % 48))) → zW x w 62 [(0, vR 20 0), (1, vI (nI k)), (2, vR 12 k), (3, vI (nI L.length)), (4, vI (nI j))] [] im3 lv2 := by
          intro p
          induction p with
          | zero =>
            intro j im3 hp hf3 h23 hv3
            have : j = L.length := by omega
            subst this
            refine rX8_refresh_62 hO hR hN (by omega) ?_
            refine ⟨fun _ => ?_, fun q => absurd (Int32.le_refl _) q⟩
            rw [nI_1]
            refine ih (k + 1) im3 (by omega) hf3 (fun c hc => ⟨?_, (hv3 c hc).2⟩)
            rw [(hv3 c hc).1, List.take_length, hcn c, ldN]
            congr 2
            split <;> simp
          | succ p ihp =>
            intro j im3 hp hf3 h23 hv3
            refine rX8_refresh_62 hO hR hN (by omega) ?_
            have hc := hlt j (by omega)
            have hv0 := (hv3 (L.getD j 0) hc).1
            rw [nI_clamp (show j < 2 ^ 31 by omega), hf3 12 (by decide), h23, g2 j (by omega), c1, nI_clamp (show L.getD j 0 < 2 ^ 31 by omega), hv0, nI_1 j]
            refine ⟨fun q => ?_, fun _ => ⟨vp_in_nI (by omega) (by decide), vp_in_nI hc (by decide), ihp (j + 1) _ (by omega) (fun r hr => by rw [zwr_r (by omega)]; exact hf3 r hr) (by rw [zwr_r (by decide)]; exact h23) (fun c hc2 => ⟨?_, by rw [zwr_r (by decide)]; exact (hv3 c hc2).2⟩)⟩⟩
            · rw [nI_leI (by omega) (by omega)] at q; omega
            · rw [zwr_app, take_cnt (by omega)]
              by_cases hcc : c = L.getD j 0
              · rw [if_pos ⟨rfl, rfl, hcc⟩, if_pos hcc.symm, nI_add, hcc]
                congr 1
                rw [Nat.mul_add, Nat.mul_one]
                omega
              · rw [if_neg (fun z => hcc z.2.2), if_neg (fun z => hcc z.symm), Nat.add_zero]
                exact (hv3 c hc2).1
        refine inner L.length 0 im2 (by omega) (fun r hr => (g1 r (by omega)).trans (hf r hr)) rfl (fun c hc => ?_)
        rw [g1 21 (by decide), g1 22 (by decide), List.take_zero, List.count_nil, Nat.mul_zero, Nat.add_zero]
        exact hv c hc
  refine rX8_refresh_0 hO hR hN ⟨_, C_X3_fillSafe _ _ _ hW hC, ?_⟩
  rintro im1 lv1 ⟨⟨g1, g2⟩, rfl⟩
  refine ⟨_, C_J7_fill _ _ _ _ (ra := 21) (ia := 0) rfl (by decide) (by decide), ?_⟩
  rintro im2 lv2 ⟨⟨g3, -, g4⟩, rfl⟩
  refine key (nfl m) 0 im2 (by omega) (fun r hr => (g3 r (by omega)).trans (g1 r (by omega))) (fun c hc => ⟨?_, ?_⟩)
  · rw [g4 c hc]; exact nI_0.symm
  · rw [g3 22 (by decide)]; exact g2 c hc
theorem C_X8_tooMuchTogether (l : Launch) (w : zWd) {m im : zMem} (lv : Int64) (hW : WF m) (hS : SKY m im) : zSpecI l w 4 zyX8_tooMuchTogether [vR 20 0] im lv (fun v im' lv' => v = nI (overAll m) ∧ im' = im ∧ lv' = lv) := by
  refine ze_I (by decide) (Nat.le_of_ble_eq_true rfl) (fun x hO hR hN => rX8_tooMuchTogether_0 hO hR hN ?_)
  have key : ∀ n k, n + k = 384 → zW x w 4 [(0, vR 20 0), (1, vI (nI (oaN m k))), (2, vI (nI k))] [] im lv := by
    intro n
    induction n with
    | zero =>
      intro k hk
      have : k = 384 := by omega
      subst this
      exact rX8_tooMuchTogether_4 hO hR hN ⟨fun _ => ⟨rfl, rfl, rfl⟩, fun q => absurd (by decide) q⟩
    | succ n ih =>
      intro k hk
      refine rX8_tooMuchTogether_4 hO hR hN ?_
      have ih := ih (k + 1) (by omega)
      rw [oaN] at ih
      rw [nI_clamp (show k < 2 ^ 31 by omega), hS.tm hW (by omega), nI_add, nI_1]
      refine ⟨fun q => ?_, fun _ => ⟨vp_in_nI (by omega) (by decide), ih⟩⟩
      rw [show (384 : Int32) = nI 384 from rfl, nI_leI (by omega) (by omega)] at q; omega
  exact key 384 0 rfl
theorem C_X8_crowdedCells (l : Launch) (w : zWd) {m im : zMem} (lv : Int64) (hW : WF m) (hS : SKY m im) : zSpecI l w 4 zyX8_crowdedCells [vR 20 0] im lv (fun v im' lv' => v = nI (crN m 384) ∧ im' = im ∧ lv' = lv) := by
  refine ze_I (by decide) (Nat.le_of_ble_eq_true rfl) (fun x hO hR hN => rX8_crowdedCells_0 hO hR hN ?_)
  have key : ∀ n k, n + k = 384 → zW x w 4 [(0, vR 20 0), (1, vI (nI (crN m k))), (2, vI (nI k))] [] im lv := by
    intro n
    induction n with
    | zero =>
      intro k hk
      have : k = 384 := by omega
      subst this
      exact rX8_crowdedCells_4 hO hR hN ⟨fun _ => ⟨rfl, rfl, rfl⟩, fun q => absurd (by decide) q⟩
    | succ n ih =>
      intro k hk
      refine rX8_crowdedCells_4 hO hR hN ?_
      have ih := ih (k + 1) (by omega)
      rw [crN] at ih
      have a1 := load_le hW (r := k / 48) (t := k % 48)
      have a2 : over m (k / 48) (k % 48) = load m (k / 48) (k % 48) - safe m (k / 48) (k % 48) := rfl
      rw [nI_clamp (show k < 2 ^ 31 by omega), hS.tm hW (by omega)]
      simp (disch := omega) only [zlit, nI_add, nI_leI]
      refine ⟨fun q => by omega, fun _ => ⟨vp_in_nI (by omega) (by decide), fun q => ?_, fun q => ?_⟩⟩
      · rw [if_pos (by omega)] at ih; exact ih
      · rw [if_neg (by omega)] at ih; exact ih
  exact key 384 0 rfl
theorem C_X8_greatestLoad (l : Launch) (w : zWd) {m im : zMem} (lv : Int64) (hW : WF m) (hS : SKY m im) : zSpecI l w 3 zyX8_greatestLoad [vR 20 0] im lv (fun v im' lv' => v = nI (grN m 384) ∧ im' = im ∧ lv' = lv) := by
  refine ze_I (by decide) (Nat.le_of_ble_eq_true rfl) (fun x hO hR hN => rX8_greatestLoad_0 hO hR hN ?_)
  have key : ∀ n k, n + k = 384 → zW x w 4 [(0, vR 20 0), (1, vI (nI (grN m k))), (2, vI (nI k))] [] im lv := by
    intro n
    induction n with
    | zero =>
      intro k hk
      have : k = 384 := by omega
      subst this
      exact rX8_greatestLoad_4 hO hR hN ⟨fun _ => ⟨rfl, rfl, rfl⟩, fun q => absurd (by decide) q⟩
    | succ n ih =>
      intro k hk
      refine rX8_greatestLoad_4 hO hR hN ?_
      have ih := ih (k + 1) (by omega)
      rw [grN] at ih
      have a1 := load_le hW (r := k / 48) (t := k % 48)
      have a2 := grN_le hW k
      rw [nI_clamp (show k < 2 ^ 31 by omega), (hS k (by omega)).1]
      simp (disch := omega) only [zlit, nI_add, nI_leI, nI_ltI]
      refine ⟨fun q => by omega, fun _ => ⟨vp_in_nI (by omega) (by decide), ?_⟩⟩
      by_cases q : grN m k < load m (k / 48) (k % 48)
      · rw [if_pos q]; rw [if_neg (by omega)] at ih; exact ih
      · rw [if_neg q]; rw [if_pos (by omega)] at ih; exact ih
  exact key 384 0 rfl
/-- some cell of the path bears too much -/
def crwd (m : zMem) (f : Nat) : Prop := ∃ c, c ∈ pth m f (way m f) (dly m f) ∧ safe m (c / 48) (c % 48) < load m (c / 48) (c % 48)
theorem C_X8_isCrowdedAround (l : Launch) (w : zWd) {m im : zMem} (lv : Int64) (hW : WF m) (hC : RC m im) (hS : SKY m im) {f : Nat} (hf : f < nfl m) : zSpecI l w 3 zyX8_isCrowdedAround [vR 20 0, vR 12 f] im lv (fun v im' lv' => (((v = 1 ∧ crwd m f) ∨ (v = 0 ∧ ¬ crwd m f)) ∧ ∀ r, ¬ r = 23 → im' r = im r) ∧ lv' = lv) := by
  refine ze_I (by decide) (Nat.le_of_ble_eq_true rfl) (fun x hO hR hN => ?_)
  have h12 := hW.1.2
  obtain ⟨-, f1, -, -, f4, f5, f6, -⟩ := hW.2.1 f hf
  obtain ⟨c0, c1, c2, c3, c4, c5, c6, -⟩ := hC.2.1 f hf
  refine rX8_isCrowdedAround_0 hO hR hN (by omega) ?_
  rw [c5, c6]
  refine ⟨_, C_X2_walk _ _ _ hW hC (ra := 23) hf f5.2 (by omega) rfl (by decide) (by decide), ?_⟩
  rintro v1 im1 lv1 ⟨⟨rfl, hl, g1, g2⟩, rfl⟩
  have hlt : ∀ i, i < (pth m f (way m f) (dly m f)).length → (pth m f (way m f) (dly m f)).getD i 0 < 384 := fun i hi => pth_lt hW hf (by omega) (gd_mem hi)
  have hS1 : SKY m im1 := hS.fr (g1 21 (by decide)) (g1 22 (by decide))
  unfold crwd at hR
  generalize pth m f (way m f) (dly m f) = L at *
  have key : ∀ p j, p + j = L.length → (∀ i, i < j → ¬ safe m (L.getD i 0 / 48) (L.getD i 0 % 48) < load m (L.getD i 0 / 48) (L.getD i 0 % 48)) → zW x w 19 [(0, vR 20 0), (1, vR 12 f), (2, vI (nI L.length)), (3, vI (nI j))] [] im1 lv1 := by
    intro p
    induction p with
    | zero =>
      intro j hp hv
      have : j = L.length := by omega
      subst this
      refine rX8_isCrowdedAround_19 hO hR hN (by omega) ?_
      refine ⟨fun _ => ⟨⟨Or.inr ⟨rfl, ?_⟩, g1⟩, rfl⟩, fun q => absurd (Int32.le_refl _) q⟩
      rintro ⟨c, h1, h2⟩
      obtain ⟨i, hi, e⟩ := List.mem_iff_getElem.mp h1
      have := hv i hi
      rw [List.getD_eq_getElem?_getD, List.getElem?_eq_getElem hi, Option.getD_some, e] at this
      exact this h2
    | succ p ihp =>
      intro j hp hv
      refine rX8_isCrowdedAround_19 hO hR hN (by omega) ?_
      have hc := hlt j (by omega)
      have a1 := load_le hW (r := L.getD j 0 / 48) (t := L.getD j 0 % 48)
      have a2 := safe_le hW (r := L.getD j 0 / 48) (t := L.getD j 0 % 48) (by omega) (by omega)
      rw [nI_clamp (show j < 2 ^ 31 by omega), g2 j (by omega), nI_clamp (show L.getD j 0 < 2 ^ 31 by omega), (hS1 _ hc).1, (hS1 _ hc).2, nI_1, nI_leI (by omega) (by omega), nI_leI (by omega) (by omega)]
      refine ⟨fun q => by omega, fun _ => ⟨vp_in_nI (by omega) (by decide), vp_in_nI hc (by decide), fun q => ihp (j + 1) (by omega) (fun i hi => ?_), fun q => ⟨⟨Or.inl ⟨rfl, L.getD j 0, gd_mem (by omega), by omega⟩, g1⟩, rfl⟩⟩⟩
      by_cases hij : i = j
      · subst hij; omega
      · exact hv i (by omega)
  exact key L.length 0 (by omega) (fun i hi => by omega)
theorem C_X1_loadKnownAt (l : Launch) (w : zWd) {m im : zMem} (lv : Int64) (hW : WF m) (hC : RC m im) {r t z : Nat} (hr : r < 8) (ht : t < 48) (hz : z < 2 ^ 31) : zSpecI l w 3 zyX1_loadKnownAt [vR 10 0, vI (nI r), vI (nI t), vI (nI z)] im lv (fun v im' lv' => v = nI (knN m r t (min (nfl m) (z + 1))) ∧ im' = im ∧ lv' = lv) := by
  refine ze_I (by decide) (Nat.le_of_ble_eq_true rfl) (fun x hO hR hN => rX1_loadKnownAt_0 hO hR hN ?_)
  have h12 := hW.1.2
  have key : ∀ n k, n + k = min (nfl m) (z + 1) → zW x w 6 [(0, vR 10 0), (1, vI (nI r)), (2, vI (nI t)), (3, vI (nI z)), (4, vI (nI (knN m r t k))), (5, vI (nI k))] [] im lv := by
    intro n
    induction n with
    | zero =>
      intro k hk
      have hk : k = min (nfl m) (z + 1) := by omega
      refine rX1_loadKnownAt_6 hO hR hN ?_
      rw [hC.1, ← hk, nI_leI (by omega) (by omega), nI_ltI (by omega) (by omega)]
      exact ⟨fun _ => ⟨rfl, rfl, rfl⟩, fun q => ⟨fun _ => ⟨rfl, rfl, rfl⟩, fun q4 => by omega⟩⟩
    | succ n ih =>
      intro k hk
      have hk2 : k < nfl m := by omega
      obtain ⟨-, f1, -, -, f4, -, -, -⟩ := hW.2.1 k hk2
      obtain ⟨c0, c1, -⟩ := hC.2.1 k hk2
      have ih := ih (k + 1) (by omega)
      rw [knN] at ih
      refine rX1_loadKnownAt_6 hO hR hN ?_
      rw [hC.1, nI_clamp (show k < 2 ^ 31 by omega), nI_leI (by omega) (by omega), nI_ltI (by omega) (by omega), nI_1]
      refine ⟨fun q => by omega, fun _ => ⟨fun q => by omega, fun _ => ⟨vp_in_nI (by omega) (by decide), _, C_X2_roomIn _ _ _ hW hC (wy := 0) (d := 0) hk2 (by omega) (by omega) (by omega), ?_⟩⟩⟩
      rintro _ _ _ ⟨rfl, rfl, rfl⟩
      rw [zOp_some (by omega) (fun r' h' => by have := room_lt hW hk2 (by omega) h'; omega)]
      refine ⟨fun q => ?_, fun q => ?_⟩
      · rw [if_neg q] at ih; exact ih
      · rw [if_pos q] at ih
        rw [c1, nI_add]
        exact ih
  exact key (min (nfl m) (z + 1)) 0 rfl
theorem C_X1_costTogether (l : Launch) (w : zWd) {m im : zMem} (lv : Int64) (hW : WF m) (hC : RC m im) : zSpecI l w 4 zyX1_costTogether [vR 10 0] im lv (fun v im' lv' => v = nI (csN m (nfl m)) ∧ im' = im ∧ lv' = lv) := by
  refine ze_I (by decide) (Nat.le_of_ble_eq_true rfl) (fun x hO hR hN => rX1_costTogether_0 hO hR hN ?_)
  have h12 := hW.1.2
  have key : ∀ n k, n + k = nfl m → zW x w 4 [(0, vR 10 0), (1, vI (nI (csN m k))), (2, vI (nI k))] [] im lv := by
    intro n
    induction n with
    | zero =>
      intro k hk
      have : k = nfl m := by omega
      subst this
      refine rX1_costTogether_4 hO hR hN ?_
      rw [hC.1]
      exact ⟨fun _ => ⟨rfl, rfl, rfl⟩, fun q => absurd (Int32.le_refl _) q⟩
    | succ n ih =>
      intro k hk
      refine rX1_costTogether_4 hO hR hN ?_
      obtain ⟨c0, c1, c2, c3, c4, c5, c6, -⟩ := hC.2.1 k (by omega)
      obtain ⟨f0, -⟩ := hW.2.1 k (by omega)
      have ih := ih (k + 1) (by omega)
      rw [csN, cost] at ih
      rw [hC.1, nI_clamp (show k < 2 ^ 31 by omega)]
      rw [c3, c5, c6]
      simp (disch := omega) only [zlit, nI_add, pk_mul, nI_leI]
      exact ⟨fun q => by omega, fun _ => ⟨vp_in_nI (by omega) (by decide), ih⟩⟩
  exact key (nfl m) 0 (by omega)
theorem C_X1_delaysTogether (l : Launch) (w : zWd) {m im : zMem} (lv : Int64) (hW : WF m) (hC : RC m im) : zSpecI l w 2 zyX1_delaysTogether [vR 10 0] im lv (fun v im' lv' => v = nI (dlOf m none) ∧ im' = im ∧ lv' = lv) := by
  refine ze_I (by decide) (Nat.le_of_ble_eq_true rfl) (fun x hO hR hN => rX1_delaysTogether_0 hO hR hN ?_)
  have h12 := hW.1.2
  have key : ∀ n k, n + k = nfl m → zW x w 4 [(0, vR 10 0), (1, vI (nI (doN m none k))), (2, vI (nI k))] [] im lv := by
    intro n
    induction n with
    | zero =>
      intro k hk
      have : k = nfl m := by omega
      subst this
      refine rX1_delaysTogether_4 hO hR hN ?_
      rw [hC.1]
      exact ⟨fun _ => ⟨rfl, rfl, rfl⟩, fun q => absurd (Int32.le_refl _) q⟩
    | succ n ih =>
      intro k hk
      refine rX1_delaysTogether_4 hO hR hN ?_
      obtain ⟨c0, c1, c2, c3, c4, c5, c6, -⟩ := hC.2.1 k (by omega)
      obtain ⟨f0, -⟩ := hW.2.1 k (by omega)
      have ih := ih (k + 1) (by omega)
      rw [doN, if_pos (Or.inl rfl)] at ih
      rw [hC.1, nI_clamp (show k < 2 ^ 31 by omega)]
      rw [c6]
      simp (disch := omega) only [zlit, nI_add, pk_mul, nI_leI]
      exact ⟨fun q => by omega, fun _ => ⟨vp_in_nI (by omega) (by decide), ih⟩⟩
  exact key (nfl m) 0 (by omega)
theorem C_X1_flightsOf (l : Launch) (w : zWd) {m im : zMem} (lv : Int64) (hW : WF m) (hC : RC m im) {a : Nat} (ha : a < 4) : zSpecI l w 2 zyX1_flightsOf [vR 10 0, vI (nI a)] im lv (fun v im' lv' => v = nI (flOf m a) ∧ im' = im ∧ lv' = lv) := by
  refine ze_I (by decide) (Nat.le_of_ble_eq_true rfl) (fun x hO hR hN => rX1_flightsOf_0 hO hR hN ?_)
  have h12 := hW.1.2
  have key : ∀ n k, n + k = nfl m → zW x w 4 [(0, vR 10 0), (1, vI (nI a)), (2, vI (nI (foN m a k))), (3, vI (nI k))] [] im lv := by
    intro n
    induction n with
    | zero =>
      intro k hk
      have : k = nfl m := by omega
      subst this
      refine rX1_flightsOf_4 hO hR hN ?_
      rw [hC.1]
      exact ⟨fun _ => ⟨rfl, rfl, rfl⟩, fun q => absurd (Int32.le_refl _) q⟩
    | succ n ih =>
      intro k hk
      refine rX1_flightsOf_4 hO hR hN ?_
      obtain ⟨c0, c1, c2, c3, c4, c5, c6, -⟩ := hC.2.1 k (by omega)
      obtain ⟨f0, -⟩ := hW.2.1 k (by omega)
      have ih := ih (k + 1) (by omega)
      rw [foN] at ih
      rw [hC.1, nI_clamp (show k < 2 ^ 31 by omega)]
      rw [c0]
      simp (disch := omega) only [zlit, nI_add, pk_mul, nI_leI, nI_eq]
      refine ⟨fun q => by omega, fun _ => ⟨vp_in_nI (by omega) (by decide), fun q => ?_, fun q => ?_⟩⟩
      · rw [if_neg q] at ih; exact ih
      · rw [if_pos q] at ih; exact ih
  exact key (nfl m) 0 (by omega)
theorem C_X1_delaysOf (l : Launch) (w : zWd) {m im : zMem} (lv : Int64) (hW : WF m) (hC : RC m im) {a : Nat} (ha : a < 4) : zSpecI l w 2 zyX1_delaysOf [vR 10 0, vI (nI a)] im lv (fun v im' lv' => v = nI (dlOf m (some a)) ∧ im' = im ∧ lv' = lv) := by
  refine ze_I (by decide) (Nat.le_of_ble_eq_true rfl) (fun x hO hR hN => rX1_delaysOf_0 hO hR hN ?_)
  have h12 := hW.1.2
  have key : ∀ n k, n + k = nfl m → zW x w 4 [(0, vR 10 0), (1, vI (nI a)), (2, vI (nI (doN m (some a) k))), (3, vI (nI k))] [] im lv := by
    intro n
    induction n with
    | zero =>
      intro k hk
      have : k = nfl m := by omega
      subst this
      refine rX1_delaysOf_4 hO hR hN ?_
      rw [hC.1]
      exact ⟨fun _ => ⟨rfl, rfl, rfl⟩, fun q => absurd (Int32.le_refl _) q⟩
    | succ n ih =>
      intro k hk
      refine rX1_delaysOf_4 hO hR hN ?_
      obtain ⟨c0, c1, c2, c3, c4, c5, c6, -⟩ := hC.2.1 k (by omega)
      obtain ⟨f0, -⟩ := hW.2.1 k (by omega)
      have ih := ih (k + 1) (by omega)
      rw [doN] at ih
      rw [hC.1, nI_clamp (show k < 2 ^ 31 by omega)]
      rw [c0, c6]
      simp (disch := omega) only [zlit, nI_add, pk_mul, nI_leI, nI_eq]
      refine ⟨fun q => by omega, fun _ => ⟨vp_in_nI (by omega) (by decide), fun q => ?_, fun q => ?_⟩⟩
      · rw [if_neg (fun z => z.elim (fun z => by cases z) (fun z => q (by injection z with z; exact z.symm)))] at ih; exact ih
      · rw [if_pos (Or.inr (by rw [q]))] at ih; exact ih
  exact key (nfl m) 0 (by omega)
theorem C_X1_costOf (l : Launch) (w : zWd) {m im : zMem} (lv : Int64) (hW : WF m) (hC : RC m im) {a : Nat} (ha : a < 4) : zSpecI l w 4 zyX1_costOf [vR 10 0, vI (nI a)] im lv (fun v im' lv' => v = nI (acN m a (nfl m)) ∧ im' = im ∧ lv' = lv) := by
  refine ze_I (by decide) (Nat.le_of_ble_eq_true rfl) (fun x hO hR hN => rX1_costOf_0 hO hR hN ?_)
  have h12 := hW.1.2
  have key : ∀ n k, n + k = nfl m → zW x w 4 [(0, vR 10 0), (1, vI (nI a)), (2, vI (nI (acN m a k))), (3, vI (nI k))] [] im lv := by
    intro n
    induction n with
    | zero =>
      intro k hk
      have : k = nfl m := by omega
      subst this
      refine rX1_costOf_4 hO hR hN ?_
      rw [hC.1]
      exact ⟨fun _ => ⟨rfl, rfl, rfl⟩, fun q => absurd (Int32.le_refl _) q⟩
    | succ n ih =>
      intro k hk
      refine rX1_costOf_4 hO hR hN ?_
      obtain ⟨c0, c1, c2, c3, c4, c5, c6, -⟩ := hC.2.1 k (by omega)
      obtain ⟨f0, -⟩ := hW.2.1 k (by omega)
      have ih := ih (k + 1) (by omega)
      rw [acN, cost] at ih
      rw [hC.1, nI_clamp (show k < 2 ^ 31 by omega)]
      rw [c0, c3, c5, c6]
      simp (disch := omega) only [zlit, nI_add, pk_mul, nI_leI, nI_eq]
      refine ⟨fun q => by omega, fun _ => ⟨vp_in_nI (by omega) (by decide), fun q => ?_, fun q => ?_⟩⟩
      · rw [if_neg q] at ih; exact ih
      · rw [if_pos q] at ih; exact ih
  exact key (nfl m) 0 (by omega)

theorem zsw_out {a L H : Int32} {lo hi : Int} (h1 : L.toInt = lo) (h2 : H.toInt = hi) (h : a.toInt < lo ∨ hi < a.toInt) : a < L ∨ H < a := by
  rw [Int32.lt_iff_toInt_lt, Int32.lt_iff_toInt_lt, h1, h2]
  exact h
theorem zsw_lo {a v : Int32} {lo : Int} (h : a = v) (hv : ¬ v.toInt < lo) : ¬ a.toInt < lo := h ▸ hv
theorem zsw_hi {a v : Int32} {hi : Int} (h : a = v) (hv : ¬ hi < v.toInt) : ¬ hi < a.toInt := h ▸ hv
theorem zsw_at {a v : Int32} {offs : Array Int} {lo off : Int} (h : a = v) (hv : offs[(v.toInt - lo).toNat]? = some off) : offs[(a.toInt - lo).toNat]? = some off := h ▸ hv
theorem zsw_ne {a v : Int32} {k : Int} (h : ¬ a = v) (hv : v.toInt = k) : ¬ a.toInt = k := fun q => h (Int32.toInt_inj.mp (q.trans hv.symm))
theorem zlit (n : Nat) : (OfNat.ofNat n : Int32) = nI n := rfl
theorem lg_lt {a b : Int64} : lg_cmp a b < 0 ↔ a < b := by
  unfold lg_cmp
  by_cases h : b < a
  · rw [if_pos h]
    have h2 : ¬ a < b := by rw [Int64.lt_iff_toInt_lt] at h ⊢; omega
    exact ⟨fun q => absurd q (by decide), fun q => absurd q h2⟩
  · rw [if_neg h]
    by_cases h3 : a = b
    · rw [if_pos h3]
      exact ⟨fun q => absurd q (by decide), fun q => by subst h3; rw [Int64.lt_iff_toInt_lt] at q; omega⟩
    · rw [if_neg h3]
      refine ⟨fun _ => ?_, fun _ => by decide⟩
      have h4 : ¬ a.toInt = b.toInt := fun q => h3 (Int64.toInt_inj.mp q)
      rw [Int64.lt_iff_toInt_lt] at h ⊢
      omega
theorem lg_gt {a b : Int64} : 0 < lg_cmp a b ↔ b < a := by
  unfold lg_cmp
  by_cases h : b < a
  · rw [if_pos h]
    exact ⟨fun _ => h, fun _ => by decide⟩
  · rw [if_neg h]
    by_cases h3 : a = b
    · rw [if_pos h3]
      exact ⟨fun q => absurd q (by decide), fun q => absurd q h⟩
    · rw [if_neg h3]
      exact ⟨fun q => absurd q (by decide), fun q => absurd q h⟩
theorem lg_eq {a b : Int64} : lg_cmp a b = 0 ↔ a = b := by
  unfold lg_cmp
  by_cases h : b < a
  · rw [if_pos h]
    refine ⟨fun q => absurd q (by decide), fun q => ?_⟩
    subst q
    rw [Int64.lt_iff_toInt_lt] at h
    omega
  · rw [if_neg h]
    by_cases h3 : a = b
    · rw [if_pos h3]
      exact ⟨fun _ => h3, fun _ => rfl⟩
    · rw [if_neg h3]
      exact ⟨fun q => absurd q (by decide), fun q => absurd q h3⟩
theorem lg_le {a b : Int64} : lg_cmp a b ≤ 0 ↔ a ≤ b := by
  have h := lg_gt (a := a) (b := b)
  rw [Int64.le_iff_toInt_le]
  rw [Int64.lt_iff_toInt_lt, Int32.lt_iff_toInt_lt] at h
  rw [Int32.le_iff_toInt_le]
  have h0 : (0 : Int32).toInt = 0 := rfl
  rw [h0] at h ⊢
  omega
theorem rX12_in_0 {x : zX} {w : zWd} {im : zMem} {lv : Int64} {P : Int32 → zMem → Int64 → Prop} {y0 : Int64} {y2 : Int64} {y4 : Int64} (hO : zOK x w zyX12_in 2) (hR : zRetI x w zyX12_in P) (hN : zN x 126 126)
 (h : (((lg_cmp y0 y2) < 0 → P 0 im lv) ∧
 (¬ ((lg_cmp y0 y2) < 0) → ((0 < (lg_cmp y0 y4) → P 0 im lv) ∧
 (¬ (0 < (lg_cmp y0 y4)) → P 1 im lv))))) :
 zW x w 0 [(0, vL y0), (2, vL y2), (4, vL y4)] [] im lv := by
  refine zi_lload_n hO dX12_in_0 0 rfl ?_
  refine zi_lload_n hO dX12_in_1 1 rfl ?_
  refine zi_lcmp hO dX12_in_2 ?_
  refine zi_if_lt (tgt := 17) hO dX12_in_3 (by decide) (fun c1 => ?_) (fun c1 => ?_)
  · have h := h.1 c1
    refine zi_iconst (v := 0) hO dX12_in_17 (by decide) ?_
    exact zr_Z hO hR rfl (Or.inl rfl) dX12_in_18 h
  · have h := h.2 c1
    refine zi_lload_n hO dX12_in_6 0 rfl ?_
    refine zi_lload hO dX12_in_7 2 rfl ?_
    refine zi_lcmp hO dX12_in_9 ?_
    refine zi_if_gt (tgt := 17) hO dX12_in_10 (by decide) (fun c2 => ?_) (fun c2 => ?_)
    · have h := h.1 c2
      refine zi_iconst (v := 0) hO dX12_in_17 (by decide) ?_
      exact zr_Z hO hR rfl (Or.inl rfl) dX12_in_18 h
    · have h := h.2 c2
      refine zi_iconst (v := 1) hO dX12_in_13 (by decide) ?_
      refine zi_goto (tgt := 18) hO dX12_in_14 (by decide) ?_
      exact zr_Z hO hR rfl (Or.inr rfl) dX12_in_18 h
theorem C_X12_in (l : Launch) (w : zWd) (im : zMem) (lv : Int64) {a b c : Int32} {a' b' c' : Int64} (ha : a.toInt64 = a') (hb : b.toInt64 = b') (hc : c.toInt64 = c') : zSpecI l w 2 zyX12_in [vL a', vL b', vL c'] im lv (fun v im' lv' => v = vB (b ≤ a ∧ a ≤ c) ∧ im' = im ∧ lv' = lv) := by
  refine ze_I (by decide) (Nat.le_of_ble_eq_true rfl) (fun x hO hR hN => rX12_in_0 hO hR hN ?_)
  subst ha hb hc
  simp only [lg_lt, lg_gt, Int64.lt_iff_toInt_lt, Int32.toInt_toInt64]
  simp only [Int32.le_iff_toInt_le, vB, and_true]
  refine ⟨fun h => (if_neg (by omega)).symm, fun h => ⟨fun h2 => (if_neg (by omega)).symm, fun h2 => (if_pos (by omega)).symm⟩⟩
theorem rX12_isSheet_0 {x : zX} {w : zWd} {im : zMem} {lv : Int64} {P : Int32 → zMem → Int64 → Prop} {x0 : Int32} (hO : zOK x w zyX12_isSheet 3) (hR : zRetI x w zyX12_isSheet P) (hN : zN x 126 126)
 (h : P (vB (0 ≤ x0 ∧ x0 ≤ 7)) im lv) :
 zW x w 0 [(0, vI x0)] [] im lv := by
  refine zi_iload_n hO dX12_isSheet_0 0 rfl ?_
  refine zi_i2l hO dX12_isSheet_1 ?_
  refine zi_lconst (v := 0) hO dX12_isSheet_2 (by decide) ?_
  refine zi_ldc2 (v := 7) hO dX12_isSheet_3 nX12_11 ?_
  refine zc_SI (as := [vL (Int32.toInt64 x0), vL (0 : Int64), vL (7 : Int64)]) hO hN dX12_isSheet_6 kX12_13 (by decide) rfl (Nat.le_of_ble_eq_true rfl) rfl rfl (C_X12_in _ _ _ _ (a := x0) (b := 0) (c := 7) rfl (by decide) (by decide)) (fun v1 im1 lv1 hp1 => ?_)
  rw [hp1.1, hp1.2.1, hp1.2.2]
  exact zr_Z hO hR rfl vB_01 dX12_isSheet_9 h
theorem rX12_isRoom_0 {x : zX} {w : zWd} {im : zMem} {lv : Int64} {P : Int32 → zMem → Int64 → Prop} {x0 : Int32} (hO : zOK x w zyX12_isRoom 3) (hR : zRetI x w zyX12_isRoom P) (hN : zN x 126 126)
 (h : P (vB (0 ≤ x0 ∧ x0 ≤ 7)) im lv) :
 zW x w 0 [(0, vI x0)] [] im lv := by
  refine zi_iload_n hO dX12_isRoom_0 0 rfl ?_
  refine zi_i2l hO dX12_isRoom_1 ?_
  refine zi_lconst (v := 0) hO dX12_isRoom_2 (by decide) ?_
  refine zi_ldc2 (v := 7) hO dX12_isRoom_3 nX12_11 ?_
  refine zc_SI (as := [vL (Int32.toInt64 x0), vL (0 : Int64), vL (7 : Int64)]) hO hN dX12_isRoom_6 kX12_13 (by decide) rfl (Nat.le_of_ble_eq_true rfl) rfl rfl (C_X12_in _ _ _ _ (a := x0) (b := 0) (c := 7) rfl (by decide) (by decide)) (fun v1 im1 lv1 hp1 => ?_)
  rw [hp1.1, hp1.2.1, hp1.2.2]
  exact zr_Z hO hR rfl vB_01 dX12_isRoom_9 h
theorem rX12_isSlot_0 {x : zX} {w : zWd} {im : zMem} {lv : Int64} {P : Int32 → zMem → Int64 → Prop} {x0 : Int32} (hO : zOK x w zyX12_isSlot 3) (hR : zRetI x w zyX12_isSlot P) (hN : zN x 126 126)
 (h : P (vB (0 ≤ x0 ∧ x0 ≤ 47)) im lv) :
 zW x w 0 [(0, vI x0)] [] im lv := by
  refine zi_iload_n hO dX12_isSlot_0 0 rfl ?_
  refine zi_i2l hO dX12_isSlot_1 ?_
  refine zi_lconst (v := 0) hO dX12_isSlot_2 (by decide) ?_
  refine zi_ldc2 (v := 47) hO dX12_isSlot_3 nX12_110 ?_
  refine zc_SI (as := [vL (Int32.toInt64 x0), vL (0 : Int64), vL (47 : Int64)]) hO hN dX12_isSlot_6 kX12_13 (by decide) rfl (Nat.le_of_ble_eq_true rfl) rfl rfl (C_X12_in _ _ _ _ (a := x0) (b := 0) (c := 47) rfl (by decide) (by decide)) (fun v1 im1 lv1 hp1 => ?_)
  rw [hp1.1, hp1.2.1, hp1.2.2]
  exact zr_Z hO hR rfl vB_01 dX12_isSlot_9 h
theorem rX12_isFlight_0 {x : zX} {w : zWd} {im : zMem} {lv : Int64} {P : Int32 → zMem → Int64 → Prop} {x1 : Int32} (hO : zOK x w zyX12_isFlight 3) (hR : zRetI x w zyX12_isFlight P) (hN : zN x 126 126)
 (h : P (vB (0 ≤ x1 ∧ x1 ≤ ((im 43 0 10) - 1))) im lv) :
 zW x w 0 [(0, vR 43 0), (1, vI x1)] [] im lv := by
  refine zi_iload_n hO dX12_isFlight_0 1 rfl ?_
  refine zi_i2l hO dX12_isFlight_1 ?_
  refine zi_lconst (v := 0) hO dX12_isFlight_2 (by decide) ?_
  refine zi_aload_n hO dX12_isFlight_3 0 rfl ?_
  refine zi_getI hO dX12_isFlight_4 fX12_138 rfl rfl (zI (by decide)) ?_
  refine zi_iconst (v := 1) hO dX12_isFlight_7 (by decide) ?_
  refine zi_isub hO dX12_isFlight_8 ?_
  refine zi_i2l hO dX12_isFlight_9 ?_
  refine zc_SI (as := [vL (Int32.toInt64 x1), vL (0 : Int64), vL (Int32.toInt64 ((im 43 0 10) - 1))]) hO hN dX12_isFlight_10 kX12_13 (by decide) rfl (Nat.le_of_ble_eq_true rfl) rfl rfl (C_X12_in _ _ _ _ (a := x1) (b := 0) (c := ((im 43 0 10) - 1)) rfl (by decide) rfl) (fun v1 im1 lv1 hp1 => ?_)
  rw [hp1.1, hp1.2.1, hp1.2.2]
  exact zr_Z hO hR rfl vB_01 dX12_isFlight_13 h
theorem rX12_found_0 {x : zX} {w : zWd} {im : zMem} {lv : Int64} {P : Int32 → zMem → Int64 → Prop} {x1 : Int32} (hO : zOK x w zyX12_found 2) (hR : zRetI x w zyX12_found P) (hN : zN x 126 126)
 (h : P ((-1000010) - x1) (zwr im 43 0 1 x1) lv) :
 zW x w 0 [(0, vR 43 0), (1, vI x1)] [] im lv := by
  refine zi_aload_n hO dX12_found_0 0 rfl ?_
  refine zi_iload_n hO dX12_found_1 1 rfl ?_
  refine zi_putI hO dX12_found_2 gX12_7 rfl rfl (zI (by decide)) ?_
  refine zi_ldc (v := (-1000010)) hO dX12_found_5 nX12_10 ?_
  refine zi_iload_n hO dX12_found_7 1 rfl ?_
  refine zi_isub hO dX12_found_8 ?_
  exact zr_I hO hR rfl dX12_found_9 h
theorem rX12_isLetter_0 {x : zX} {w : zWd} {im : zMem} {lv : Int64} {P : Int32 → zMem → Int64 → Prop} {x0 : Int32} (hO : zOK x w zyX12_isLetter 2) (hR : zRetI x w zyX12_isLetter P) (hN : zN x 126 126)
 (h : ((x0 < 97 → P 0 im lv) ∧
 (¬ (x0 < 97) → ((122 < x0 → P 0 im lv) ∧
 (¬ (122 < x0) → P 1 im lv))))) :
 zW x w 0 [(0, vI x0)] [] im lv := by
  refine zi_iload_n hO dX12_isLetter_0 0 rfl ?_
  refine zi_bipush (v := 97) hO dX12_isLetter_1 (by decide) ?_
  refine zi_icmp_lt (tgt := 16) hO dX12_isLetter_3 (by decide) (fun c1 => ?_) (fun c1 => ?_)
  · have h := h.1 c1
    refine zi_iconst (v := 0) hO dX12_isLetter_16 (by decide) ?_
    exact zr_Z hO hR rfl (Or.inl rfl) dX12_isLetter_17 h
  · have h := h.2 c1
    refine zi_iload_n hO dX12_isLetter_6 0 rfl ?_
    refine zi_bipush (v := 122) hO dX12_isLetter_7 (by decide) ?_
    refine zi_icmp_gt (tgt := 16) hO dX12_isLetter_9 (by decide) (fun c2 => ?_) (fun c2 => ?_)
    · have h := h.1 c2
      refine zi_iconst (v := 0) hO dX12_isLetter_16 (by decide) ?_
      exact zr_Z hO hR rfl (Or.inl rfl) dX12_isLetter_17 h
    · have h := h.2 c2
      refine zi_iconst (v := 1) hO dX12_isLetter_12 (by decide) ?_
      refine zi_goto (tgt := 17) hO dX12_isLetter_13 (by decide) ?_
      exact zr_Z hO hR rfl (Or.inr rfl) dX12_isLetter_17 h
theorem rX12_isFigure_0 {x : zX} {w : zWd} {im : zMem} {lv : Int64} {P : Int32 → zMem → Int64 → Prop} {x0 : Int32} (hO : zOK x w zyX12_isFigure 2) (hR : zRetI x w zyX12_isFigure P) (hN : zN x 126 126)
 (h : ((x0 < 48 → P 0 im lv) ∧
 (¬ (x0 < 48) → ((57 < x0 → P 0 im lv) ∧
 (¬ (57 < x0) → P 1 im lv))))) :
 zW x w 0 [(0, vI x0)] [] im lv := by
  refine zi_iload_n hO dX12_isFigure_0 0 rfl ?_
  refine zi_bipush (v := 48) hO dX12_isFigure_1 (by decide) ?_
  refine zi_icmp_lt (tgt := 16) hO dX12_isFigure_3 (by decide) (fun c1 => ?_) (fun c1 => ?_)
  · have h := h.1 c1
    refine zi_iconst (v := 0) hO dX12_isFigure_16 (by decide) ?_
    exact zr_Z hO hR rfl (Or.inl rfl) dX12_isFigure_17 h
  · have h := h.2 c1
    refine zi_iload_n hO dX12_isFigure_6 0 rfl ?_
    refine zi_bipush (v := 57) hO dX12_isFigure_7 (by decide) ?_
    refine zi_icmp_gt (tgt := 16) hO dX12_isFigure_9 (by decide) (fun c2 => ?_) (fun c2 => ?_)
    · have h := h.1 c2
      refine zi_iconst (v := 0) hO dX12_isFigure_16 (by decide) ?_
      exact zr_Z hO hR rfl (Or.inl rfl) dX12_isFigure_17 h
    · have h := h.2 c2
      refine zi_iconst (v := 1) hO dX12_isFigure_12 (by decide) ?_
      refine zi_goto (tgt := 17) hO dX12_isFigure_13 (by decide) ?_
      exact zr_Z hO hR rfl (Or.inr rfl) dX12_isFigure_17 h
theorem rX12_isOf_0 {x : zX} {w : zWd} {im : zMem} {lv : Int64} {P : Int32 → zMem → Int64 → Prop} {x0 : Int32} {x1 : Int32} (hO : zOK x w zyX12_isOf 2) (hR : zRetI x w zyX12_isOf P) (hN : zN x 126 126)
 (h : ((x1 = 0 → P 1 im lv) ∧
 (¬ (x1 = 0) → ((x0 = x1 → P 1 im lv) ∧
 (¬ (x0 = x1) → ((¬ (x1 = 1) → P 0 im lv) ∧
 (x1 = 1 → ((¬ (x0 = 2) → P 0 im lv) ∧
 (x0 = 2 → P 1 im lv))))))))) :
 zW x w 0 [(0, vI x0), (1, vI x1)] [] im lv := by
  refine zi_iload_n hO dX12_isOf_0 1 rfl ?_
  refine zi_if_eq (tgt := 19) hO dX12_isOf_1 (by decide) (fun c1 => ?_) (fun c1 => ?_)
  · have h := h.1 c1
    refine zi_iconst (v := 1) hO dX12_isOf_19 (by decide) ?_
    refine zi_goto (tgt := 24) hO dX12_isOf_20 (by decide) ?_
    exact zr_Z hO hR rfl (Or.inr rfl) dX12_isOf_24 h
  · have h := h.2 c1
    refine zi_iload_n hO dX12_isOf_4 0 rfl ?_
    refine zi_iload_n hO dX12_isOf_5 1 rfl ?_
    refine zi_icmp_eq (tgt := 19) hO dX12_isOf_6 (by decide) (fun c2 => ?_) (fun c2 => ?_)
    · have h := h.1 c2
      refine zi_iconst (v := 1) hO dX12_isOf_19 (by decide) ?_
      refine zi_goto (tgt := 24) hO dX12_isOf_20 (by decide) ?_
      exact zr_Z hO hR rfl (Or.inr rfl) dX12_isOf_24 h
    · have h := h.2 c2
      refine zi_iload_n hO dX12_isOf_9 1 rfl ?_
      refine zi_iconst (v := 1) hO dX12_isOf_10 (by decide) ?_
      refine zi_icmp_ne (tgt := 23) hO dX12_isOf_11 (by decide) (fun c3 => ?_) (fun c3 => ?_)
      · have h := h.1 c3
        refine zi_iconst (v := 0) hO dX12_isOf_23 (by decide) ?_
        exact zr_Z hO hR rfl (Or.inl rfl) dX12_isOf_24 h
      · have h := h.2 c3
        refine zi_iload_n hO dX12_isOf_14 0 rfl ?_
        refine zi_iconst (v := 2) hO dX12_isOf_15 (by decide) ?_
        refine zi_icmp_ne (tgt := 23) hO dX12_isOf_16 (by decide) (fun c4 => ?_) (fun c4 => ?_)
        · have h := h.1 c4
          refine zi_iconst (v := 0) hO dX12_isOf_23 (by decide) ?_
          exact zr_Z hO hR rfl (Or.inl rfl) dX12_isOf_24 h
        · have h := h.2 c4
          refine zi_iconst (v := 1) hO dX12_isOf_19 (by decide) ?_
          refine zi_goto (tgt := 24) hO dX12_isOf_20 (by decide) ?_
          exact zr_Z hO hR rfl (Or.inr rfl) dX12_isOf_24 h
theorem rX12_costBy_0 {x : zX} {w : zWd} {im : zMem} {lv : Int64} {P : Int32 → zMem → Int64 → Prop} {x1 : Int32} {x2 : Int32} {x3 : Int32} (hO : zOK x w zyX12_costBy 2) (hR : zRetI x w zyX12_costBy P) (hN : zN x 126 126)
 (h : (vp_in ((5 * x1) + 3) 60 ∧ P (((im 50 0 (Int32.toNatClampNeg ((5 * x1) + 3))) * x3) + (10 * x2)) im lv)) :
 zW x w 0 [(0, vR 43 0), (1, vI x1), (2, vI x2), (3, vI x3)] [] im lv := by
  refine zi_aload_n hO dX12_costBy_0 0 rfl ?_
  refine zi_getR (r' := 50) (i' := 0) hO dX12_costBy_1 fX12_56 rfl rfl (zI (by decide)) rfl ?_
  refine zi_iconst (v := 5) hO dX12_costBy_4 (by decide) ?_
  refine zi_iload_n hO dX12_costBy_5 1 rfl ?_
  refine zi_imul hO dX12_costBy_6 ?_
  refine zi_iconst (v := 3) hO dX12_costBy_7 (by decide) ?_
  refine zi_iadd hO dX12_costBy_8 ?_
  obtain ⟨s1, h⟩ := h
  refine zi_iald hO dX12_costBy_9 rfl (zI (by decide)) s1 ?_
  refine zi_iload_n hO dX12_costBy_10 3 rfl ?_
  refine zi_imul hO dX12_costBy_11 ?_
  refine zi_bipush (v := 10) hO dX12_costBy_12 (by decide) ?_
  refine zi_iload_n hO dX12_costBy_14 2 rfl ?_
  refine zi_imul hO dX12_costBy_15 ?_
  refine zi_iadd hO dX12_costBy_16 ?_
  exact zr_I hO hR rfl dX12_costBy_17 h
theorem C_X12_isSheet (l : Launch) (w : zWd) (im : zMem) (lv : Int64) {s : Int32} : zSpecI l w 3 zyX12_isSheet [vI s] im lv (fun v im' lv' => v = vB (0 ≤ s ∧ s ≤ 7) ∧ im' = im ∧ lv' = lv) :=
  ze_I (by decide) (Nat.le_of_ble_eq_true rfl) (fun x hO hR hN => rX12_isSheet_0 hO hR hN ⟨rfl, rfl, rfl⟩)
theorem C_X12_isRoom (l : Launch) (w : zWd) (im : zMem) (lv : Int64) {s : Int32} : zSpecI l w 3 zyX12_isRoom [vI s] im lv (fun v im' lv' => v = vB (0 ≤ s ∧ s ≤ 7) ∧ im' = im ∧ lv' = lv) :=
  ze_I (by decide) (Nat.le_of_ble_eq_true rfl) (fun x hO hR hN => rX12_isRoom_0 hO hR hN ⟨rfl, rfl, rfl⟩)
theorem C_X12_isSlot (l : Launch) (w : zWd) (im : zMem) (lv : Int64) {s : Int32} : zSpecI l w 3 zyX12_isSlot [vI s] im lv (fun v im' lv' => v = vB (0 ≤ s ∧ s ≤ 47) ∧ im' = im ∧ lv' = lv) :=
  ze_I (by decide) (Nat.le_of_ble_eq_true rfl) (fun x hO hR hN => rX12_isSlot_0 hO hR hN ⟨rfl, rfl, rfl⟩)
theorem C_X12_isFlight (l : Launch) (w : zWd) (im : zMem) (lv : Int64) {f : Int32} : zSpecI l w 3 zyX12_isFlight [vR 43 0, vI f] im lv (fun v im' lv' => v = vB (0 ≤ f ∧ f ≤ (im 43 0 10 - 1)) ∧ im' = im ∧ lv' = lv) :=
  ze_I (by decide) (Nat.le_of_ble_eq_true rfl) (fun x hO hR hN => rX12_isFlight_0 hO hR hN ⟨rfl, rfl, rfl⟩)
theorem C_X12_found (l : Launch) (w : zWd) (im : zMem) (lv : Int64) {k : Int32} : zSpecI l w 2 zyX12_found [vR 43 0, vI k] im lv (fun v im' lv' => v = -1000010 - k ∧ im' = zwr im 43 0 1 k ∧ lv' = lv) :=
  ze_I (by decide) (Nat.le_of_ble_eq_true rfl) (fun x hO hR hN => rX12_found_0 hO hR hN ⟨rfl, rfl, rfl⟩)
theorem C_X12_isLetter (l : Launch) (w : zWd) (im : zMem) (lv : Int64) {s : Int32} : zSpecI l w 2 zyX12_isLetter [vI s] im lv (fun v im' lv' => v = vB (97 ≤ s ∧ s ≤ 122) ∧ im' = im ∧ lv' = lv) := by
  refine ze_I (by decide) (Nat.le_of_ble_eq_true rfl) (fun x hO hR hN => rX12_isLetter_0 hO hR hN ?_)
  simp only [Int32.le_iff_toInt_le, Int32.lt_iff_toInt_lt, vB, Int32.reduceToInt, and_true]
  refine ⟨fun h => (if_neg (by omega)).symm, fun h => ⟨fun h2 => (if_neg (by omega)).symm, fun h2 => (if_pos (by omega)).symm⟩⟩
theorem C_X12_isFigure (l : Launch) (w : zWd) (im : zMem) (lv : Int64) {s : Int32} : zSpecI l w 2 zyX12_isFigure [vI s] im lv (fun v im' lv' => v = vB (48 ≤ s ∧ s ≤ 57) ∧ im' = im ∧ lv' = lv) := by
  refine ze_I (by decide) (Nat.le_of_ble_eq_true rfl) (fun x hO hR hN => rX12_isFigure_0 hO hR hN ?_)
  simp only [Int32.le_iff_toInt_le, Int32.lt_iff_toInt_lt, vB, Int32.reduceToInt, and_true]
  refine ⟨fun h => (if_neg (by omega)).symm, fun h => ⟨fun h2 => (if_neg (by omega)).symm, fun h2 => (if_pos (by omega)).symm⟩⟩
theorem C_X12_isOf (l : Launch) (w : zWd) (im : zMem) (lv : Int64) {a b : Int32} : zSpecI l w 2 zyX12_isOf [vI a, vI b] im lv (fun v im' lv' => v = vB (b = 0 ∨ a = b ∨ (b = 1 ∧ a = 2)) ∧ im' = im ∧ lv' = lv) := by
  refine ze_I (by decide) (Nat.le_of_ble_eq_true rfl) (fun x hO hR hN => rX12_isOf_0 hO hR hN ?_)
  unfold vB
  by_cases h1 : b = 0
  · simp [h1]
  · by_cases h2 : a = b
    · simp [h2]
    · by_cases h3 : b = 1
      · by_cases h4 : a = 2
        · simp [h3, h4]
        · subst h3; simp [h4, h2]
      · simp [h1, h2, h3]
theorem C_X12_costBy (l : Launch) (w : zWd) (im : zMem) (lv : Int64) {f wy d : Int32} (h : vp_in (5 * f + 3) 60) : zSpecI l w 2 zyX12_costBy [vR 43 0, vI f, vI wy, vI d] im lv (fun v im' lv' => v = im 50 0 (Int32.toNatClampNeg (5 * f + 3)) * d + 10 * wy ∧ im' = im ∧ lv' = lv) :=
  ze_I (by decide) (Nat.le_of_ble_eq_true rfl) (fun x hO hR hN => rX12_costBy_0 hO hR hN ⟨h, rfl, rfl, rfl⟩)
theorem rX12_costOf_0 {x : zX} {w : zWd} {im : zMem} {lv : Int64} {P : Int32 → zMem → Int64 → Prop} {x1 : Int32} (hO : zOK x w zyX12_costOf 3) (hR : zRetI x w zyX12_costOf P) (hN : zN x 126 126)
 (h : (vp_in x1 12 ∧ (vp_in ((5 * x1) + 3) 60 ∧ P (((im 50 0 (Int32.toNatClampNeg ((5 * x1) + 3))) * (im 54 0 (Int32.toNatClampNeg x1))) + (10 * (im 53 0 (Int32.toNatClampNeg x1)))) im lv))) :
 zW x w 0 [(0, vR 43 0), (1, vI x1)] [] im lv := by
  refine zi_aload_n hO dX12_costOf_0 0 rfl ?_
  refine zi_iload_n hO dX12_costOf_1 1 rfl ?_
  refine zi_aload_n hO dX12_costOf_2 0 rfl ?_
  refine zi_getR (r' := 53) (i' := 0) hO dX12_costOf_3 fX12_65 rfl rfl (zI (by decide)) rfl ?_
  refine zi_iload_n hO dX12_costOf_6 1 rfl ?_
  obtain ⟨s1, h⟩ := h
  refine zi_iald hO dX12_costOf_7 rfl (zI (by decide)) s1 ?_
  refine zi_aload_n hO dX12_costOf_8 0 rfl ?_
  refine zi_getR (r' := 54) (i' := 0) hO dX12_costOf_9 fX12_68 rfl rfl (zI (by decide)) rfl ?_
  refine zi_iload_n hO dX12_costOf_12 1 rfl ?_
  refine zi_iald hO dX12_costOf_13 rfl (zI (by decide)) s1 ?_
  obtain ⟨s3, h⟩ := h
  refine zc_VI (as := [vI x1, vI (im 53 0 (Int32.toNatClampNeg x1)), vI (im 54 0 (Int32.toNatClampNeg x1))]) hO hN dX12_costOf_14 kX12_141 (by decide) rfl (zI (by decide)) rfl rfl (Nat.le_of_ble_eq_true rfl) rfl rfl (C_X12_costBy _ _ _ _ s3) (fun v2 im2 lv2 hp2 => ?_)
  rw [hp2.1, hp2.2.1, hp2.2.2]
  exact zr_I hO hR rfl dX12_costOf_17 h
theorem rX12_distance_0 {x : zX} {w : zWd} {im : zMem} {lv : Int64} {P : Int32 → zMem → Int64 → Prop} {x0 : Int32} (hO : zOK x w zyX12_distance 2) (hR : zRetI x w zyX12_distance P) (hN : zN x 126 126)
 (h : ((0 ≤ x0 → P x0 im lv) ∧
 (¬ (0 ≤ x0) → P (0 - x0) im lv))) :
 zW x w 0 [(0, vI x0)] [] im lv := by
  refine zi_iload_n hO dX12_distance_0 0 rfl ?_
  refine zi_if_ge (tgt := 9) hO dX12_distance_1 (by decide) (fun c1 => ?_) (fun c1 => ?_)
  · have h := h.1 c1
    refine zi_iload_n hO dX12_distance_9 0 rfl ?_
    exact zr_I hO hR rfl dX12_distance_10 h
  · have h := h.2 c1
    refine zi_iload_n hO dX12_distance_4 0 rfl ?_
    refine zi_ineg hO dX12_distance_5 ?_
    refine zi_goto (tgt := 10) hO dX12_distance_6 (by decide) ?_
    exact zr_I hO hR rfl dX12_distance_10 h
theorem C_X12_costOf (l : Launch) (w : zWd) (im : zMem) (lv : Int64) {f : Int32} (h0 : vp_in f 12) (h : vp_in (5 * f + 3) 60) : zSpecI l w 3 zyX12_costOf [vR 43 0, vI f] im lv (fun v im' lv' => v = im 50 0 (Int32.toNatClampNeg (5 * f + 3)) * im 54 0 (Int32.toNatClampNeg f) + 10 * im 53 0 (Int32.toNatClampNeg f) ∧ im' = im ∧ lv' = lv) :=
  ze_I (by decide) (Nat.le_of_ble_eq_true rfl) (fun x hO hR hN => rX12_costOf_0 hO hR hN ⟨h0, h, rfl, rfl, rfl⟩)
theorem C_X12_distance (l : Launch) (w : zWd) (im : zMem) (lv : Int64) {a : Int32} : zSpecI l w 2 zyX12_distance [vI a] im lv (fun v im' lv' => v = (if a < 0 then 0 - a else a) ∧ im' = im ∧ lv' = lv) := by
  refine ze_I (by decide) (Nat.le_of_ble_eq_true rfl) (fun x hO hR hN => rX12_distance_0 hO hR hN ?_)
  by_cases h : a < 0
  · have h2 : ¬ 0 ≤ a := by rw [Int32.le_iff_toInt_le]; rw [Int32.lt_iff_toInt_lt] at h; simpa using h
    simp [h, h2]
  · have h2 : 0 ≤ a := by rw [Int32.le_iff_toInt_le]; rw [Int32.lt_iff_toInt_lt] at h; simpa using h
    simp [h, h2]

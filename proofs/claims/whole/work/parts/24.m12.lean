theorem rX12_lay_0 {x : zX} {w : zWd} {im : zMem} {lv : Int64} {P : zMem → Int64 → Prop} {x1 : Int32} {x2 : Int32} {x3 : Int32} (hO : zOK x w zyX12_lay 3) (hR : zRetV x w zyX12_lay P) (hN : zN x 126 126)
 (h : zW x w 3 [(0, vR 43 0), (1, vI x1), (2, vI x2), (3, vI x3), (4, vI 0)] [] im lv) :
 zW x w 0 [(0, vR 43 0), (1, vI x1), (2, vI x2), (3, vI x3)] [] im lv := by
  refine zi_iconst (v := 0) hO dX12_lay_0 (by decide) ?_
  refine zi_istore (L' := [(0, vR 43 0), (1, vI x1), (2, vI x2), (3, vI x3), (4, vI 0)]) hO dX12_lay_1 (by decide) rfl rfl ?_
  exact h
theorem rX12_lay_3 {x : zX} {w : zWd} {im : zMem} {lv : Int64} {P : zMem → Int64 → Prop} {x1 : Int32} {x2 : Int32} {x3 : Int32} {x4 : Int32} (hO : zOK x w zyX12_lay 3) (hR : zRetV x w zyX12_lay P) (hN : zN x 126 126)
 (h : ((48 ≤ x4 → P im lv) ∧
 (¬ (48 ≤ x4) → (∃ P1 : Int32 → zMem → Int64 → Prop, zSpecI x.2.1 w 2 zyX12_roomBy [vR 43 0, vI x1, vI (x2 / 5), vI (x2 - x2 / 5 * 5), vI x4] im lv P1 ∧ ∀ (v1 : Int32) (im1 : zMem) (lv1 : Int64), P1 v1 im1 lv1 → ((v1 = (-1000000) → zW x w 3 [(0, vR 43 0), (1, vI x1), (2, vI x2), (3, vI x3), (4, vI (x4 + 1))] [] im1 lv1) ∧
 (¬ (v1 = (-1000000)) → (vp_in ((48 * v1) + x4) 384 ∧ (vp_in ((5 * x1) + 1) 60 ∧ zW x w 3 [(0, vR 43 0), (1, vI x1), (2, vI x2), (3, vI x3), (4, vI (x4 + 1))] [] (zwr im1 63 0 (Int32.toNatClampNeg ((48 * v1) + x4)) ((im1 63 0 (Int32.toNatClampNeg ((48 * v1) + x4))) + (x3 * (im1 50 0 (Int32.toNatClampNeg ((5 * x1) + 1)))))) lv1)))))))) :
 zW x w 3 [(0, vR 43 0), (1, vI x1), (2, vI x2), (3, vI x3), (4, vI x4)] [] im lv := by
  refine zi_iload hO dX12_lay_3 4 rfl ?_
  refine zi_bipush (v := 48) hO dX12_lay_5 (by decide) ?_
  refine zi_icmp_ge (tgt := 66) hO dX12_lay_7 (by decide) (fun c1 => ?_) (fun c1 => ?_)
  · have h := h.1 c1
    exact zr_V hO hR rfl dX12_lay_66 h
  · have h := h.2 c1
    refine zi_aload_n hO dX12_lay_10 0 rfl ?_
    refine zi_iload_n hO dX12_lay_11 1 rfl ?_
    refine zi_iload_n hO dX12_lay_12 2 rfl ?_
    refine zi_iconst (v := 5) hO dX12_lay_13 (by decide) ?_
    refine zi_idiv hO dX12_lay_14 (by decide) ?_
    refine zi_iload_n hO dX12_lay_15 2 rfl ?_
    refine zi_iconst (v := 5) hO dX12_lay_16 (by decide) ?_
    refine zi_irem hO dX12_lay_17 (by decide) ?_
    refine zi_iload hO dX12_lay_18 4 rfl ?_
    obtain ⟨P1, hM1, h⟩ := h
    refine zc_VI (as := [vI x1, vI (x2 / 5), vI (x2 - x2 / 5 * 5), vI x4]) hO hN dX12_lay_20 kX12_241 (by decide) rfl (zI (by decide)) rfl rfl (Nat.le_of_ble_eq_true rfl) rfl rfl hM1 (fun v1 im1 lv1 hp1 => ?_)
    replace h := h v1 im1 lv1 hp1
    refine zi_istore (L' := [(0, vR 43 0), (1, vI x1), (2, vI x2), (3, vI x3), (4, vI x4), (5, vI v1)]) hO dX12_lay_23 (by decide) rfl rfl ?_
    refine zi_iload hO dX12_lay_25 5 rfl ?_
    refine zi_ldc (v := (-1000000)) hO dX12_lay_27 nX12_131 ?_
    refine zi_icmp_eq (tgt := 60) hO dX12_lay_29 (by decide) (fun c2 => ?_) (fun c2 => ?_)
    · have h := h.1 c2
      refine zi_iinc (v' := (x4 + 1)) (L' := [(0, vR 43 0), (1, vI x1), (2, vI x2), (3, vI x3), (4, vI (x4 + 1)), (5, vI v1)]) hO dX12_lay_60 4 rfl rfl (by decide) rfl rfl ?_
      refine zi_goto (tgt := 3) hO dX12_lay_63 (by decide) ?_
      refine zi_pick (L' := [(0, vR 43 0), (1, vI x1), (2, vI x2), (3, vI x3), (4, vI (x4 + 1))]) [0, 1, 2, 3, 4] rfl ?_
      exact h
    · have h := h.2 c2
      refine zi_aload_n hO dX12_lay_32 0 rfl ?_
      refine zi_getR (r' := 63) (i' := 0) hO dX12_lay_33 fX12_95 rfl rfl (zI (by decide)) rfl ?_
      refine zi_bipush (v := 48) hO dX12_lay_36 (by decide) ?_
      refine zi_iload hO dX12_lay_38 5 rfl ?_
      refine zi_imul hO dX12_lay_40 ?_
      refine zi_iload hO dX12_lay_41 4 rfl ?_
      refine zi_iadd hO dX12_lay_43 ?_
      refine zi_dup2 hO dX12_lay_44 rfl rfl ?_
      obtain ⟨s2, h⟩ := h
      refine zi_iald hO dX12_lay_45 rfl (zI (by decide)) s2 ?_
      refine zi_iload_n hO dX12_lay_46 3 rfl ?_
      refine zi_aload_n hO dX12_lay_47 0 rfl ?_
      refine zi_getR (r' := 50) (i' := 0) hO dX12_lay_48 fX12_56 rfl rfl (zI (by decide)) rfl ?_
      refine zi_iconst (v := 5) hO dX12_lay_51 (by decide) ?_
      refine zi_iload_n hO dX12_lay_52 1 rfl ?_
      refine zi_imul hO dX12_lay_53 ?_
      refine zi_iconst (v := 1) hO dX12_lay_54 (by decide) ?_
      refine zi_iadd hO dX12_lay_55 ?_
      obtain ⟨s3, h⟩ := h
      refine zi_iald hO dX12_lay_56 rfl (zI (by decide)) s3 ?_
      refine zi_imul hO dX12_lay_57 ?_
      refine zi_iadd hO dX12_lay_58 ?_
      refine zi_iast hO dX12_lay_59 rfl (zI (by decide)) s2 ?_
      refine zi_iinc (v' := (x4 + 1)) (L' := [(0, vR 43 0), (1, vI x1), (2, vI x2), (3, vI x3), (4, vI (x4 + 1)), (5, vI v1)]) hO dX12_lay_60 4 rfl rfl (by decide) rfl rfl ?_
      refine zi_goto (tgt := 3) hO dX12_lay_63 (by decide) ?_
      refine zi_pick (L' := [(0, vR 43 0), (1, vI x1), (2, vI x2), (3, vI x3), (4, vI (x4 + 1))]) [0, 1, 2, 3, 4] rfl ?_
      exact h
theorem rX12_fits_0 {x : zX} {w : zWd} {im : zMem} {lv : Int64} {P : Int32 → zMem → Int64 → Prop} {x1 : Int32} {x2 : Int32} (hO : zOK x w zyX12_fits 4) (hR : zRetI x w zyX12_fits P) (hN : zN x 126 126)
 (h : zW x w 5 [(0, vR 43 0), (1, vI x1), (2, vI x2), (3, vI 1), (4, vI 0)] [] im lv) :
 zW x w 0 [(0, vR 43 0), (1, vI x1), (2, vI x2)] [] im lv := by
  refine zi_iconst (v := 1) hO dX12_fits_0 (by decide) ?_
  refine zi_istore_n (L' := [(0, vR 43 0), (1, vI x1), (2, vI x2), (3, vI 1)]) hO dX12_fits_1 (by decide) rfl rfl ?_
  refine zi_iconst (v := 0) hO dX12_fits_2 (by decide) ?_
  refine zi_istore (L' := [(0, vR 43 0), (1, vI x1), (2, vI x2), (3, vI 1), (4, vI 0)]) hO dX12_fits_3 (by decide) rfl rfl ?_
  exact h
theorem rX12_fits_5 {x : zX} {w : zWd} {im : zMem} {lv : Int64} {P : Int32 → zMem → Int64 → Prop} {x1 : Int32} {x2 : Int32} {x3 : Int32} {x4 : Int32} (hO : zOK x w zyX12_fits 4) (hR : zRetI x w zyX12_fits P) (hN : zN x 126 126)
 (h : ((48 ≤ x4 → ((x3 = 0 ∨ x3 = 1) ∧ P x3 im lv)) ∧
 (¬ (48 ≤ x4) → (∃ P1 : Int32 → zMem → Int64 → Prop, zSpecI x.2.1 w 2 zyX12_roomBy [vR 43 0, vI x1, vI (x2 / 5), vI (x2 - x2 / 5 * 5), vI x4] im lv P1 ∧ ∀ (v1 : Int32) (im1 : zMem) (lv1 : Int64), P1 v1 im1 lv1 → ((x3 = 0 → zW x w 5 [(0, vR 43 0), (1, vI x1), (2, vI x2), (3, vI 0), (4, vI (x4 + 1))] [] im1 lv1) ∧
 (¬ (x3 = 0) → ((v1 = (-1000000) → zW x w 5 [(0, vR 43 0), (1, vI x1), (2, vI x2), (3, vI 1), (4, vI (x4 + 1))] [] im1 lv1) ∧
 (¬ (v1 = (-1000000)) → (vp_in ((48 * v1) + x4) 384 ∧ (∃ P3 : Int32 → zMem → Int64 → Prop, zSpecI x.2.1 w 3 zyX12_safeOf [vR 43 0, vI v1, vI x4] im1 lv1 P3 ∧ ∀ (v3 : Int32) (im3 : zMem) (lv3 : Int64), P3 v3 im3 lv3 → ((v3 < (im1 63 0 (Int32.toNatClampNeg ((48 * v1) + x4))) → zW x w 5 [(0, vR 43 0), (1, vI x1), (2, vI x2), (3, vI 0), (4, vI (x4 + 1))] [] im3 lv3) ∧
 (¬ (v3 < (im1 63 0 (Int32.toNatClampNeg ((48 * v1) + x4)))) → zW x w 5 [(0, vR 43 0), (1, vI x1), (2, vI x2), (3, vI 1), (4, vI (x4 + 1))] [] im3 lv3)))))))))))) :
 zW x w 5 [(0, vR 43 0), (1, vI x1), (2, vI x2), (3, vI x3), (4, vI x4)] [] im lv := by
  refine zi_iload hO dX12_fits_5 4 rfl ?_
  refine zi_bipush (v := 48) hO dX12_fits_7 (by decide) ?_
  refine zi_icmp_ge (tgt := 74) hO dX12_fits_9 (by decide) (fun c1 => ?_) (fun c1 => ?_)
  · have h := h.1 c1
    refine zi_iload_n hO dX12_fits_74 3 rfl ?_
    obtain ⟨hz, h⟩ := h
    exact zr_Z hO hR rfl hz dX12_fits_75 h
  · have h := h.2 c1
    refine zi_aload_n hO dX12_fits_12 0 rfl ?_
    refine zi_iload_n hO dX12_fits_13 1 rfl ?_
    refine zi_iload_n hO dX12_fits_14 2 rfl ?_
    refine zi_iconst (v := 5) hO dX12_fits_15 (by decide) ?_
    refine zi_idiv hO dX12_fits_16 (by decide) ?_
    refine zi_iload_n hO dX12_fits_17 2 rfl ?_
    refine zi_iconst (v := 5) hO dX12_fits_18 (by decide) ?_
    refine zi_irem hO dX12_fits_19 (by decide) ?_
    refine zi_iload hO dX12_fits_20 4 rfl ?_
    obtain ⟨P1, hM1, h⟩ := h
    refine zc_VI (as := [vI x1, vI (x2 / 5), vI (x2 - x2 / 5 * 5), vI x4]) hO hN dX12_fits_22 kX12_241 (by decide) rfl (zI (by decide)) rfl rfl (Nat.le_of_ble_eq_true rfl) rfl rfl hM1 (fun v1 im1 lv1 hp1 => ?_)
    replace h := h v1 im1 lv1 hp1
    refine zi_istore (L' := [(0, vR 43 0), (1, vI x1), (2, vI x2), (3, vI x3), (4, vI x4), (5, vI v1)]) hO dX12_fits_25 (by decide) rfl rfl ?_
    refine zi_iload_n hO dX12_fits_27 3 rfl ?_
    refine zi_if_eq (tgt := 66) hO dX12_fits_28 (by decide) (fun c2 => ?_) (fun c2 => ?_)
    · have h := h.1 c2
      refine zi_iconst (v := 0) hO dX12_fits_66 (by decide) ?_
      refine zi_istore_n (L' := [(0, vR 43 0), (1, vI x1), (2, vI x2), (3, vI 0), (4, vI x4), (5, vI v1)]) hO dX12_fits_67 (by decide) rfl rfl ?_
      refine zi_iinc (v' := (x4 + 1)) (L' := [(0, vR 43 0), (1, vI x1), (2, vI x2), (3, vI 0), (4, vI (x4 + 1)), (5, vI v1)]) hO dX12_fits_68 4 rfl rfl (by decide) rfl rfl ?_
      refine zi_goto (tgt := 5) hO dX12_fits_71 (by decide) ?_
      refine zi_pick (L' := [(0, vR 43 0), (1, vI x1), (2, vI x2), (3, vI 0), (4, vI (x4 + 1))]) [0, 1, 2, 3, 4] rfl ?_
      exact h
    · have h := h.2 c2
      refine zi_iload hO dX12_fits_31 5 rfl ?_
      refine zi_ldc (v := (-1000000)) hO dX12_fits_33 nX12_131 ?_
      refine zi_icmp_eq (tgt := 62) hO dX12_fits_35 (by decide) (fun c3 => ?_) (fun c3 => ?_)
      · have h := h.1 c3
        refine zi_iconst (v := 1) hO dX12_fits_62 (by decide) ?_
        refine zi_goto (tgt := 67) hO dX12_fits_63 (by decide) ?_
        refine zi_istore_n (L' := [(0, vR 43 0), (1, vI x1), (2, vI x2), (3, vI 1), (4, vI x4), (5, vI v1)]) hO dX12_fits_67 (by decide) rfl rfl ?_
        refine zi_iinc (v' := (x4 + 1)) (L' := [(0, vR 43 0), (1, vI x1), (2, vI x2), (3, vI 1), (4, vI (x4 + 1)), (5, vI v1)]) hO dX12_fits_68 4 rfl rfl (by decide) rfl rfl ?_
        refine zi_goto (tgt := 5) hO dX12_fits_71 (by decide) ?_
        refine zi_pick (L' := [(0, vR 43 0), (1, vI x1), (2, vI x2), (3, vI 1), (4, vI (x4 + 1))]) [0, 1, 2, 3, 4] rfl ?_
        exact h
      · have h := h.2 c3
        refine zi_aload_n hO dX12_fits_38 0 rfl ?_
        refine zi_getR (r' := 63) (i' := 0) hO dX12_fits_39 fX12_95 rfl rfl (zI (by decide)) rfl ?_
        refine zi_bipush (v := 48) hO dX12_fits_42 (by decide) ?_
        refine zi_iload hO dX12_fits_44 5 rfl ?_
        refine zi_imul hO dX12_fits_46 ?_
        refine zi_iload hO dX12_fits_47 4 rfl ?_
        refine zi_iadd hO dX12_fits_49 ?_
        obtain ⟨s2, h⟩ := h
        refine zi_iald hO dX12_fits_50 rfl (zI (by decide)) s2 ?_
        refine zi_aload_n hO dX12_fits_51 0 rfl ?_
        refine zi_iload hO dX12_fits_52 5 rfl ?_
        refine zi_iload hO dX12_fits_54 4 rfl ?_
        obtain ⟨P3, hM3, h⟩ := h
        refine zc_VI (as := [vI v1, vI x4]) hO hN dX12_fits_56 kX12_134 (by decide) rfl (zI (by decide)) rfl rfl (Nat.le_of_ble_eq_true rfl) rfl rfl hM3 (fun v3 im3 lv3 hp3 => ?_)
        replace h := h v3 im3 lv3 hp3
        refine zi_icmp_gt (tgt := 66) hO dX12_fits_59 (by decide) (fun c4 => ?_) (fun c4 => ?_)
        · have h := h.1 c4
          refine zi_iconst (v := 0) hO dX12_fits_66 (by decide) ?_
          refine zi_istore_n (L' := [(0, vR 43 0), (1, vI x1), (2, vI x2), (3, vI 0), (4, vI x4), (5, vI v1)]) hO dX12_fits_67 (by decide) rfl rfl ?_
          refine zi_iinc (v' := (x4 + 1)) (L' := [(0, vR 43 0), (1, vI x1), (2, vI x2), (3, vI 0), (4, vI (x4 + 1)), (5, vI v1)]) hO dX12_fits_68 4 rfl rfl (by decide) rfl rfl ?_
          refine zi_goto (tgt := 5) hO dX12_fits_71 (by decide) ?_
          refine zi_pick (L' := [(0, vR 43 0), (1, vI x1), (2, vI x2), (3, vI 0), (4, vI (x4 + 1))]) [0, 1, 2, 3, 4] rfl ?_
          exact h
        · have h := h.2 c4
          refine zi_iconst (v := 1) hO dX12_fits_62 (by decide) ?_
          refine zi_goto (tgt := 67) hO dX12_fits_63 (by decide) ?_
          refine zi_istore_n (L' := [(0, vR 43 0), (1, vI x1), (2, vI x2), (3, vI 1), (4, vI x4), (5, vI v1)]) hO dX12_fits_67 (by decide) rfl rfl ?_
          refine zi_iinc (v' := (x4 + 1)) (L' := [(0, vR 43 0), (1, vI x1), (2, vI x2), (3, vI 1), (4, vI (x4 + 1)), (5, vI v1)]) hO dX12_fits_68 4 rfl rfl (by decide) rfl rfl ?_
          refine zi_goto (tgt := 5) hO dX12_fits_71 (by decide) ?_
          refine zi_pick (L' := [(0, vR 43 0), (1, vI x1), (2, vI x2), (3, vI 1), (4, vI (x4 + 1))]) [0, 1, 2, 3, 4] rfl ?_
          exact h
/-- where a flight is by a choice c (WAY c / 5, DELAY c % 5) -/
def isAt (m : zMem) (f c cell : Nat) : Bool := decide (room m f (c / 5) (c % 5) (cell % 48) = some (cell / 48))
def wAt (m : zMem) (f c cell : Nat) : Nat := if isAt m f c cell = true then wgt m f else 0
def put (m : zMem) (f c : Nat) (L : Nat → Nat) : Nat → Nat := fun cell => L cell + wAt m f c cell
theorem wAt_room {m : zMem} {f c r t : Nat} (ht : t < 48) (h : room m f (c / 5) (c % 5) t = some r) : wAt m f c (48 * r + t) = wgt m f := by
  unfold wAt isAt
  rw [show (48 * r + t) % 48 = t by omega, show (48 * r + t) / 48 = r by omega, h]
  simp
theorem wAt_le {m : zMem} (hW : WF m) {f c cell : Nat} (hf : f < nfl m) : wAt m f c cell ≤ 9 := by
  have := (hW.2.1 f hf).2.1.2.2
  unfold wAt
  split <;> omega
theorem zneg1 {a w : Nat} : nI (a + w) + (-1) * nI w = nI a := by
  rw [← nI_add, Int32.neg_mul, Int32.one_mul, ← Int32.sub_eq_add_neg, Int32.add_sub_cancel]
theorem C_X12_lay (l : Launch) (w : zWd) {m im : zMem} (lv : Int64) (hW : WF m) (hM : RM m im) {f c : Nat} (hf : f < nfl m) (hc : c < 15) {L L' : Nat → Nat} {x3 : Int32} (hx : (x3 = 1 ∧ ∀ cell, cell < 384 → L' cell = put m f c L cell) ∨ (x3 = -1 ∧ ∀ cell, cell < 384 → L cell = put m f c L' cell)) (h63 : ∀ cell, cell < 384 → im 63 0 cell = nI (L cell)) : zSpecV l w 3 zyX12_lay [vR 43 0, vI (nI f), vI (nI c), vI x3] im lv (fun im' lv' => ((∀ r, ¬ r = 63 → im' r = im r) ∧ ∀ cell, cell < 384 → im' 63 0 cell = nI (L' cell)) ∧ lv' = lv) := by
  refine ze_V (by decide) (Nat.le_of_ble_eq_true rfl) (fun x hO hR hN => rX12_lay_0 hO hR hN ?_)
  have h12 := hW.1.2
  obtain ⟨-, f1, -, -, f4, -, -, -⟩ := hW.2.1 f hf
  have e5 : nI c / 5 = nI (c / 5) := pk_div (d := 5) (by omega) (by omega) (by omega)
  have e5' : nI c - nI c / 5 * 5 = nI (c % 5) := pk_rem (d := 5) (by omega) (by omega) (by omega)
  have key : ∀ n t (im1 : zMem), n + t = 48 → (∀ r, ¬ r = 63 → im1 r = im r) → (∀ cell, cell < 384 → im1 63 0 cell = nI (if cell % 48 < t then L' cell else L cell)) → zW x w 3 [(0, vR 43 0), (1, vI (nI f)), (2, vI (nI c)), (3, vI x3), (4, vI (nI t))] [] im1 lv := by
    intro n
    induction n with
    | zero =>
      intro t im1 ht h1 h2
      have : t = 48 := by omega
      subst this
      exact rX12_lay_3 hO hR hN ⟨fun _ => ⟨⟨h1, fun cell hcell => by rw [h2 cell hcell, if_pos (by omega)]⟩, rfl⟩, fun q => absurd (by decide) q⟩
    | succ n ih =>
      intro t im1 ht h1 h2
      have hM1 : RM m im1 := hM.fr (fun r g1 g2 => h1 r (by omega))
      have ht1 : nI t + 1 = nI (t + 1) := nI_1 t
      refine rX12_lay_3 hO hR hN ?_
      rw [e5', e5, ht1]
      refine ⟨fun q => ?_, fun _ => ⟨_, C_X12_roomBy _ _ _ hW hM1 hf (by omega) (by omega) (by omega), ?_⟩⟩
      · exfalso
        have : nI 48 ≤ nI t := q
        rw [nI_leI (by omega) (by omega)] at this
        omega
      rintro _ im2 lv2 ⟨rfl, rfl, rfl⟩
      cases hr : room m f (c / 5) (c % 5) t with
      | none =>
        refine ⟨fun _ => ih (t + 1) im2 (by omega) h1 (fun cell hcell => ?_), fun z => absurd rfl z⟩
        rw [h2 cell hcell]
        by_cases hct : cell % 48 = t
        · rw [if_neg (by omega), if_pos (by omega)]
          have w0 : wAt m f c cell = 0 := by
            unfold wAt isAt
            rw [hct, hr]
            simp
          congr 1
          rcases hx with ⟨-, h⟩ | ⟨-, h⟩
          · rw [h cell hcell]; unfold put; omega
          · rw [h cell hcell]; unfold put; omega
        · by_cases hlt : cell % 48 < t
          · rw [if_pos hlt, if_pos (by omega)]
          · rw [if_neg hlt, if_neg (by omega)]
      | some r =>
        have hr7 := room_lt hW hf (by omega) hr
        have cr : Int32.toNatClampNeg (48 * nI r + nI t) = 48 * r + t := by simp (disch := omega) only [zlit, nI_add, pk_mul, nI_clamp]
        have vr : vp_in (48 * nI r + nI t) 384 := by simp (disch := omega) only [zlit, nI_add, pk_mul]; exact vp_in_nI (by omega) (by decide)
        have m1 : (5 : Int32) * nI f + 1 = nI (5 * f + 1) := by rw [show (5 : Int32) * nI f = nI (5 * f) from pk_mul 5 f]; exact nI_1 _
        have c1 : Int32.toNatClampNeg (5 * nI f + 1) = 5 * f + 1 := by rw [m1]; exact nI_clamp (by omega)
        have e50 : im2 50 0 (5 * f + 1) = nI (wgt m f) := by rw [hM1.1 50 (by decide) (by decide)]; exact f1.1
        refine ⟨fun z => absurd z (zO1 (by omega)), fun _ => ⟨vr, by rw [m1]; exact vp_in_nI (by omega) (by decide), ?_⟩⟩
        simp only [zOp]
        rw [cr, c1, e50, h2 _ (by omega), if_neg (by omega)]
        have hw := wAt_room (c := c) (show t < 48 by omega) hr
        have hval : nI (L (48 * r + t)) + x3 * nI (wgt m f) = nI (L' (48 * r + t)) := by
          rcases hx with ⟨rfl, h⟩ | ⟨rfl, h⟩
          · rw [h _ (by omega), Int32.one_mul, nI_add]
            unfold put
            rw [hw]
          · rw [h _ (by omega)]
            unfold put
            rw [hw]
            exact zneg1
        rw [hval]
        refine ih (t + 1) _ (by omega) (fun r' g => by rw [zwr_r g]; exact h1 r' g) (fun cell hcell => ?_)
        rw [zwr_app]
        by_cases hcc : cell = 48 * r + t
        · subst hcc; rw [if_pos ⟨rfl, rfl, rfl⟩, if_pos (by omega)]
        · rw [if_neg (fun z => hcc z.2.2), h2 cell hcell]
          by_cases hct : cell % 48 = t
          · rw [if_neg (by omega), if_pos (by omega)]
            have w0 : wAt m f c cell = 0 := by
              unfold wAt isAt
              rw [hct, hr, if_neg]
              simp
              omega
            congr 1
            rcases hx with ⟨-, h⟩ | ⟨-, h⟩
            · rw [h cell hcell]; unfold put; omega
            · rw [h cell hcell]; unfold put; omega
          · by_cases hlt : cell % 48 < t
            · rw [if_pos hlt, if_pos (by omega)]
            · rw [if_neg hlt, if_neg (by omega)]
  exact key 48 0 im rfl (fun _ _ => rfl) (fun cell hcell => by rw [if_neg (by omega)]; exact h63 cell hcell)
def okT (m : zMem) (f c : Nat) (L : Nat → Nat) : Nat → Bool
  | 0 => true
  | t + 1 => okT m f c L t && (match room m f (c / 5) (c % 5) t with
    | none => true
    | some r => decide (L (48 * r + t) ≤ safe m r t))
theorem C_X12_fits (l : Launch) (w : zWd) {m im : zMem} (lv : Int64) (hW : WF m) (hM : RM m im) {f c : Nat} (hf : f < nfl m) (hc : c < 15) {L : Nat → Nat} (hL : ∀ cell, cell < 384 → L cell < 2 ^ 30) (h63 : ∀ cell, cell < 384 → im 63 0 cell = nI (L cell)) : zSpecI l w 4 zyX12_fits [vR 43 0, vI (nI f), vI (nI c)] im lv (fun v im' lv' => v = (if okT m f c L 48 = true then 1 else 0) ∧ im' = im ∧ lv' = lv) := by
  refine ze_I (by decide) (Nat.le_of_ble_eq_true rfl) (fun x hO hR hN => rX12_fits_0 hO hR hN ?_)
  have h12 := hW.1.2
  obtain ⟨-, -, -, -, f4, -, -, -⟩ := hW.2.1 f hf
  have e5 : nI c / 5 = nI (c / 5) := pk_div (d := 5) (by omega) (by omega) (by omega)
  have e5' : nI c - nI c / 5 * 5 = nI (c % 5) := pk_rem (d := 5) (by omega) (by omega) (by omega)
  have key : ∀ n t, n + t = 48 → zW x w 5 [(0, vR 43 0), (1, vI (nI f)), (2, vI (nI c)), (3, vI (if okT m f c L t = true then 1 else 0)), (4, vI (nI t))] [] im lv := by
    intro n
    induction n with
    | zero =>
      intro t ht
      have : t = 48 := by omega
      subst this
      refine rX12_fits_5 hO hR hN ⟨fun _ => ⟨?_, rfl, rfl, rfl⟩, fun q => absurd (by decide) q⟩
      by_cases h : okT m f c L 48 = true
      · rw [if_pos h]; exact Or.inr rfl
      · rw [if_neg h]; exact Or.inl rfl
    | succ n ih =>
      intro t ht
      have ih := ih (t + 1) (by omega)
      rw [okT] at ih
      have ht1 : nI t + 1 = nI (t + 1) := nI_1 t
      refine rX12_fits_5 hO hR hN ?_
      rw [e5', e5, ht1]
      refine ⟨fun q => ?_, fun _ => ⟨_, C_X12_roomBy _ _ _ hW hM hf (by omega) (by omega) (by omega), ?_⟩⟩
      · exfalso
        have : nI 48 ≤ nI t := q
        rw [nI_leI (by omega) (by omega)] at this
        omega
      rintro _ im2 lv2 ⟨rfl, rfl, rfl⟩
      by_cases hk : okT m f c L t = true
      · rw [hk, Bool.true_and] at ih
        rw [if_pos hk]
        refine ⟨fun z => absurd z (by decide), fun _ => ?_⟩
        cases hr : room m f (c / 5) (c % 5) t with
        | none =>
          rw [hr] at ih
          exact ⟨fun _ => ih, fun z => absurd rfl z⟩
        | some r =>
          have hr7 := room_lt hW hf (by omega) hr
          rw [hr] at ih
          have cr : Int32.toNatClampNeg (48 * nI r + nI t) = 48 * r + t := by simp (disch := omega) only [zlit, nI_add, pk_mul, nI_clamp]
          have vr : vp_in (48 * nI r + nI t) 384 := by simp (disch := omega) only [zlit, nI_add, pk_mul]; exact vp_in_nI (by omega) (by decide)
          refine ⟨fun z => absurd z (zO1 (by omega)), fun _ => ⟨vr, _, C_X12_safeOf _ _ _ hW hM (by omega) (by omega), ?_⟩⟩
          rintro _ im3 lv3 ⟨rfl, rfl, rfl⟩
          simp only [zOp]
          have hs := safe_le hW (r := r) (t := t) (by omega) (by omega)
          have hl := hL (48 * r + t) (by omega)
          rw [cr, h63 _ (by omega), nI_ltI (by omega) (by omega)]
          refine ⟨fun z => ?_, fun z => ?_⟩
          · rw [if_neg (by simp; omega)] at ih; exact ih
          · rw [if_pos (by simp; omega)] at ih; exact ih
      · rw [if_neg hk]
        rw [if_neg (by simp [hk])] at ih
        exact ⟨fun _ => ih, fun z => absurd rfl z⟩
  exact key 48 0 rfl

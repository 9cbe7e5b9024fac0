theorem doN_le {m : zMem} (hW : WF m) {a : Option Nat} : ∀ f, f ≤ nfl m → doN m a f ≤ 4 * f
  | 0, _ => Nat.le_refl _
  | f + 1, h => by
    have := doN_le hW (a := a) f (by omega)
    have := (hW.2.1 f (by omega)).2.2.2.2.2.2.1.2
    rw [doN]
    split <;> omega
theorem dlOf_le {m : zMem} (hW : WF m) {a : Option Nat} : dlOf m a ≤ 48 := by
  have := doN_le hW (a := a) _ (Nat.le_refl _)
  have := hW.1.2
  unfold dlOf
  omega
theorem foN_le {m : zMem} {a : Nat} : ∀ f, foN m a f ≤ f
  | 0 => Nat.le_refl _
  | f + 1 => by
    have := foN_le (m := m) (a := a) f
    rw [foN]
    split <;> omega
theorem flOf_sum {m : zMem} (hW : WF m) : sum4 (flOf m) = nfl m := by
  have key : ∀ f, f ≤ nfl m → sum4 (fun a => foN m a f) = f := by
    intro f
    induction f with
    | zero => intro _; rfl
    | succ f ih =>
      intro h
      have ih := ih (by omega)
      have h3 := (hW.2.1 f (by omega)).1.2
      unfold sum4 at *
      simp only [foN] at *
      rcases (show own m f = 0 ∨ own m f = 1 ∨ own m f = 2 ∨ own m f = 3 by omega) with q | q | q | q <;> simp [q] <;> omega
  exact key (nfl m) (Nat.le_refl _)
def shr (m : zMem) (a : Nat) : Nat := gsh (dlOf m none) (flOf m) (nfl m) a
theorem rX12_kindOf_0 {x : zX} {w : zWd} {im : zMem} {lv : Int64} {P : Int32 → zMem → Int64 → Prop} {x1 : Int32} (hO : zOK x w zyX12_kindOf 5) (hR : zRetI x w zyX12_kindOf P) (hN : zN x 126 126)
 (h : (vp_in x1 12 ∧ (((im 54 0 (Int32.toNatClampNeg x1)) ≤ 0 → zW x w 28 [(0, vR 43 0), (1, vI x1), (2, vI 1), (3, vI 0)] [] im lv) ∧
 (¬ ((im 54 0 (Int32.toNatClampNeg x1)) ≤ 0) → (((im 53 0 (Int32.toNatClampNeg x1)) ≤ 0 → P 1 im lv) ∧
 (¬ ((im 53 0 (Int32.toNatClampNeg x1)) ≤ 0) → P 2 im lv)))))) :
 zW x w 0 [(0, vR 43 0), (1, vI x1)] [] im lv := by
  refine zi_aload_n hO dX12_kindOf_0 0 rfl ?_
  refine zi_getR (r' := 54) (i' := 0) hO dX12_kindOf_1 fX12_68 rfl rfl (zI (by decide)) rfl ?_
  refine zi_iload_n hO dX12_kindOf_4 1 rfl ?_
  obtain ⟨s1, h⟩ := h
  refine zi_iald hO dX12_kindOf_5 rfl (zI (by decide)) s1 ?_
  refine zi_if_le (tgt := 24) hO dX12_kindOf_6 (by decide) (fun c1 => ?_) (fun c1 => ?_)
  · have h := h.1 c1
    refine zi_iconst (v := 1) hO dX12_kindOf_24 (by decide) ?_
    refine zi_istore_n (L' := [(0, vR 43 0), (1, vI x1), (2, vI 1)]) hO dX12_kindOf_25 (by decide) rfl rfl ?_
    refine zi_iconst (v := 0) hO dX12_kindOf_26 (by decide) ?_
    refine zi_istore_n (L' := [(0, vR 43 0), (1, vI x1), (2, vI 1), (3, vI 0)]) hO dX12_kindOf_27 (by decide) rfl rfl ?_
    exact h
  · have h := h.2 c1
    refine zi_aload_n hO dX12_kindOf_9 0 rfl ?_
    refine zi_getR (r' := 53) (i' := 0) hO dX12_kindOf_10 fX12_65 rfl rfl (zI (by decide)) rfl ?_
    refine zi_iload_n hO dX12_kindOf_13 1 rfl ?_
    refine zi_iald hO dX12_kindOf_14 rfl (zI (by decide)) s1 ?_
    refine zi_if_le (tgt := 22) hO dX12_kindOf_15 (by decide) (fun c2 => ?_) (fun c2 => ?_)
    · have h := h.1 c2
      refine zi_iconst (v := 1) hO dX12_kindOf_22 (by decide) ?_
      exact zr_I hO hR rfl dX12_kindOf_23 h
    · have h := h.2 c2
      refine zi_iconst (v := 2) hO dX12_kindOf_18 (by decide) ?_
      refine zi_goto (tgt := 23) hO dX12_kindOf_19 (by decide) ?_
      exact zr_I hO hR rfl dX12_kindOf_23 h
theorem rX12_kindOf_28 {x : zX} {w : zWd} {im : zMem} {lv : Int64} {P : Int32 → zMem → Int64 → Prop} {x1 : Int32} {x2 : Int32} {x3 : Int32} (hO : zOK x w zyX12_kindOf 5) (hR : zRetI x w zyX12_kindOf P) (hN : zN x 126 126)
 (h : ((48 ≤ x3 → ((x2 = 0 → P 0 im lv) ∧
 (¬ (x2 = 0) → P 3 im lv))) ∧
 (¬ (48 ≤ x3) → (vp_in x1 12 ∧ (∃ P2 : Int32 → zMem → Int64 → Prop, zSpecI x.2.1 w 2 zyX12_roomBy [vR 43 0, vI x1, vI (im 53 0 (Int32.toNatClampNeg x1)), vI 0, vI x3] im lv P2 ∧ ∀ (v2 : Int32) (im2 : zMem) (lv2 : Int64), P2 v2 im2 lv2 → ((x2 = 0 → zW x w 28 [(0, vR 43 0), (1, vI x1), (2, vI 0), (3, vI (x3 + 1))] [] im2 lv2) ∧
 (¬ (x2 = 0) → ((v2 = (-1000000) → zW x w 28 [(0, vR 43 0), (1, vI x1), (2, vI 1), (3, vI (x3 + 1))] [] im2 lv2) ∧
 (¬ (v2 = (-1000000)) → (∃ P3 : Int32 → zMem → Int64 → Prop, zSpecI x.2.1 w 4 zyX12_overOf [vR 43 0, vI v2, vI x3] im2 lv2 P3 ∧ ∀ (v3 : Int32) (im3 : zMem) (lv3 : Int64), P3 v3 im3 lv3 → ((¬ (v3 = 0) → zW x w 28 [(0, vR 43 0), (1, vI x1), (2, vI 0), (3, vI (x3 + 1))] [] im3 lv3) ∧
 (v3 = 0 → zW x w 28 [(0, vR 43 0), (1, vI x1), (2, vI 1), (3, vI (x3 + 1))] [] im3 lv3)))))))))))) :
 zW x w 28 [(0, vR 43 0), (1, vI x1), (2, vI x2), (3, vI x3)] [] im lv := by
  refine zi_iload_n hO dX12_kindOf_28 3 rfl ?_
  refine zi_bipush (v := 48) hO dX12_kindOf_29 (by decide) ?_
  refine zi_icmp_ge (tgt := 82) hO dX12_kindOf_31 (by decide) (fun c1 => ?_) (fun c1 => ?_)
  · have h := h.1 c1
    refine zi_iload_n hO dX12_kindOf_82 2 rfl ?_
    refine zi_if_eq (tgt := 90) hO dX12_kindOf_83 (by decide) (fun c2 => ?_) (fun c2 => ?_)
    · have h := h.1 c2
      refine zi_iconst (v := 0) hO dX12_kindOf_90 (by decide) ?_
      exact zr_I hO hR rfl dX12_kindOf_91 h
    · have h := h.2 c2
      refine zi_iconst (v := 3) hO dX12_kindOf_86 (by decide) ?_
      refine zi_goto (tgt := 91) hO dX12_kindOf_87 (by decide) ?_
      exact zr_I hO hR rfl dX12_kindOf_91 h
  · have h := h.2 c1
    refine zi_aload_n hO dX12_kindOf_34 0 rfl ?_
    refine zi_iload_n hO dX12_kindOf_35 1 rfl ?_
    refine zi_aload_n hO dX12_kindOf_36 0 rfl ?_
    refine zi_getR (r' := 53) (i' := 0) hO dX12_kindOf_37 fX12_65 rfl rfl (zI (by decide)) rfl ?_
    refine zi_iload_n hO dX12_kindOf_40 1 rfl ?_
    obtain ⟨s1, h⟩ := h
    refine zi_iald hO dX12_kindOf_41 rfl (zI (by decide)) s1 ?_
    refine zi_iconst (v := 0) hO dX12_kindOf_42 (by decide) ?_
    refine zi_iload_n hO dX12_kindOf_43 3 rfl ?_
    obtain ⟨P2, hM2, h⟩ := h
    refine zc_VI (as := [vI x1, vI (im 53 0 (Int32.toNatClampNeg x1)), vI 0, vI x3]) hO hN dX12_kindOf_44 kX12_241 (by decide) rfl (zI (by decide)) rfl rfl (Nat.le_of_ble_eq_true rfl) rfl rfl hM2 (fun v2 im2 lv2 hp2 => ?_)
    replace h := h v2 im2 lv2 hp2
    refine zi_istore (L' := [(0, vR 43 0), (1, vI x1), (2, vI x2), (3, vI x3), (4, vI v2)]) hO dX12_kindOf_47 (by decide) rfl rfl ?_
    refine zi_iload_n hO dX12_kindOf_49 2 rfl ?_
    refine zi_if_eq (tgt := 74) hO dX12_kindOf_50 (by decide) (fun c3 => ?_) (fun c3 => ?_)
    · have h := h.1 c3
      refine zi_iconst (v := 0) hO dX12_kindOf_74 (by decide) ?_
      refine zi_istore_n (L' := [(0, vR 43 0), (1, vI x1), (2, vI 0), (3, vI x3), (4, vI v2)]) hO dX12_kindOf_75 (by decide) rfl rfl ?_
      refine zi_iinc (v' := (x3 + 1)) (L' := [(0, vR 43 0), (1, vI x1), (2, vI 0), (3, vI (x3 + 1)), (4, vI v2)]) hO dX12_kindOf_76 3 rfl rfl (by decide) rfl rfl ?_
      refine zi_goto (tgt := 28) hO dX12_kindOf_79 (by decide) ?_
      refine zi_pick (L' := [(0, vR 43 0), (1, vI x1), (2, vI 0), (3, vI (x3 + 1))]) [0, 1, 2, 3] rfl ?_
      exact h
    · have h := h.2 c3
      refine zi_iload hO dX12_kindOf_53 4 rfl ?_
      refine zi_ldc (v := (-1000000)) hO dX12_kindOf_55 nX12_131 ?_
      refine zi_icmp_eq (tgt := 70) hO dX12_kindOf_57 (by decide) (fun c4 => ?_) (fun c4 => ?_)
      · have h := h.1 c4
        refine zi_iconst (v := 1) hO dX12_kindOf_70 (by decide) ?_
        refine zi_goto (tgt := 75) hO dX12_kindOf_71 (by decide) ?_
        refine zi_istore_n (L' := [(0, vR 43 0), (1, vI x1), (2, vI 1), (3, vI x3), (4, vI v2)]) hO dX12_kindOf_75 (by decide) rfl rfl ?_
        refine zi_iinc (v' := (x3 + 1)) (L' := [(0, vR 43 0), (1, vI x1), (2, vI 1), (3, vI (x3 + 1)), (4, vI v2)]) hO dX12_kindOf_76 3 rfl rfl (by decide) rfl rfl ?_
        refine zi_goto (tgt := 28) hO dX12_kindOf_79 (by decide) ?_
        refine zi_pick (L' := [(0, vR 43 0), (1, vI x1), (2, vI 1), (3, vI (x3 + 1))]) [0, 1, 2, 3] rfl ?_
        exact h
      · have h := h.2 c4
        refine zi_aload_n hO dX12_kindOf_60 0 rfl ?_
        refine zi_iload hO dX12_kindOf_61 4 rfl ?_
        refine zi_iload_n hO dX12_kindOf_63 3 rfl ?_
        obtain ⟨P3, hM3, h⟩ := h
        refine zc_VI (as := [vI v2, vI x3]) hO hN dX12_kindOf_64 kX12_247 (by decide) rfl (zI (by decide)) rfl rfl (Nat.le_of_ble_eq_true rfl) rfl rfl hM3 (fun v3 im3 lv3 hp3 => ?_)
        replace h := h v3 im3 lv3 hp3
        refine zi_if_ne (tgt := 74) hO dX12_kindOf_67 (by decide) (fun c5 => ?_) (fun c5 => ?_)
        · have h := h.1 c5
          refine zi_iconst (v := 0) hO dX12_kindOf_74 (by decide) ?_
          refine zi_istore_n (L' := [(0, vR 43 0), (1, vI x1), (2, vI 0), (3, vI x3), (4, vI v2)]) hO dX12_kindOf_75 (by decide) rfl rfl ?_
          refine zi_iinc (v' := (x3 + 1)) (L' := [(0, vR 43 0), (1, vI x1), (2, vI 0), (3, vI (x3 + 1)), (4, vI v2)]) hO dX12_kindOf_76 3 rfl rfl (by decide) rfl rfl ?_
          refine zi_goto (tgt := 28) hO dX12_kindOf_79 (by decide) ?_
          refine zi_pick (L' := [(0, vR 43 0), (1, vI x1), (2, vI 0), (3, vI (x3 + 1))]) [0, 1, 2, 3] rfl ?_
          exact h
        · have h := h.2 c5
          refine zi_iconst (v := 1) hO dX12_kindOf_70 (by decide) ?_
          refine zi_goto (tgt := 75) hO dX12_kindOf_71 (by decide) ?_
          refine zi_istore_n (L' := [(0, vR 43 0), (1, vI x1), (2, vI 1), (3, vI x3), (4, vI v2)]) hO dX12_kindOf_75 (by decide) rfl rfl ?_
          refine zi_iinc (v' := (x3 + 1)) (L' := [(0, vR 43 0), (1, vI x1), (2, vI 1), (3, vI (x3 + 1)), (4, vI v2)]) hO dX12_kindOf_76 3 rfl rfl (by decide) rfl rfl ?_
          refine zi_goto (tgt := 28) hO dX12_kindOf_79 (by decide) ?_
          refine zi_pick (L' := [(0, vR 43 0), (1, vI x1), (2, vI 1), (3, vI (x3 + 1))]) [0, 1, 2, 3] rfl ?_
          exact h
theorem rX12_all_0 {x : zX} {w : zWd} {im : zMem} {lv : Int64} {P : Int32 → zMem → Int64 → Prop} {x1 : Int32} (hO : zOK x w zyX12_all 6) (hR : zRetI x w zyX12_all P) (hN : zN x 126 126)
 (h : ((0 ≤ x1 ∧ x1 ≤ 5 → ((¬ (x1 = 0) → ((¬ (x1 = 2) → ((¬ (x1 = 1) → ((¬ (x1 = 3) → zW x w 119 [(0, vR 43 0), (1, vI x1), (2, vI 0), (3, vI 0)] [] (zwr im 43 0 0 0) lv) ∧
 (x1 = 3 → (∃ P2 : zMem → Int64 → Prop, zSpecV x.2.1 w 3 zyX12_shares [vR 43 0] (zwr im 43 0 0 0) lv P2 ∧ ∀ (im2 : zMem) (lv2 : Int64), P2 im2 lv2 → zW x w 85 [(0, vR 43 0), (1, vI x1), (2, vI 0), (3, vI 0)] [] im2 lv2)))) ∧
 (x1 = 1 → zW x w 49 [(0, vR 43 0), (1, vI x1), (2, vI 0), (3, vI 0)] [] (zwr im 43 0 0 0) lv))) ∧
 (x1 = 2 → (∃ P3 : Int32 → zMem → Int64 → Prop, zSpecI x.2.1 w 2 zyX12_delaysOf [vR 43 0, vI (-1)] (zwr im 43 0 0 0) lv P3 ∧ ∀ (v3 : Int32) (im3 : zMem) (lv3 : Int64), P3 v3 im3 lv3 → P v3 im3 lv3)))) ∧
 (x1 = 0 → (∃ P4 : Int32 → zMem → Int64 → Prop, zSpecI x.2.1 w 5 zyX12_overAll [vR 43 0] (zwr im 43 0 0 0) lv P4 ∧ ∀ (v4 : Int32) (im4 : zMem) (lv4 : Int64), P4 v4 im4 lv4 → P v4 im4 lv4)))) ∧
 (¬ (0 ≤ x1 ∧ x1 ≤ 5) → P (-1000001) (zwr im 43 0 0 0) lv))) :
 zW x w 0 [(0, vR 43 0), (1, vI x1)] [] im lv := by
  refine zi_aload_n hO dX12_all_0 0 rfl ?_
  refine zi_iconst (v := 0) hO dX12_all_1 (by decide) ?_
  refine zi_putI hO dX12_all_2 gX12_1 rfl rfl (zI (by decide)) ?_
  refine zi_iload_n hO dX12_all_5 1 rfl ?_
  refine zi_i2l hO dX12_all_6 ?_
  refine zi_lconst (v := 0) hO dX12_all_7 (by decide) ?_
  refine zi_ldc2 (v := 5) hO dX12_all_8 nX12_260 ?_
  refine zc_SI (as := [vL (Int32.toInt64 x1), vL (0 : Int64), vL (5 : Int64)]) hO hN dX12_all_11 kX12_13 (by decide) rfl (Nat.le_of_ble_eq_true rfl) rfl rfl (C_X12_in _ _ _ _ (a := x1) (b := 0) (c := 5) rfl (by decide) (by decide)) (fun v1 im1 lv1 hp1 => ?_)
  rw [hp1.1, hp1.2.1, hp1.2.2]
  refine zi_if_ne (tgt := 20) hO dX12_all_14 (by decide) (fun c1 => ?_) (fun c1 => ?_)
  · have h := h.1 (vB_1.mp (vB_01.resolve_left c1))
    refine zi_iconst (v := 0) hO dX12_all_20 (by decide) ?_
    refine zi_istore_n (L' := [(0, vR 43 0), (1, vI x1), (2, vI 0)]) hO dX12_all_21 (by decide) rfl rfl ?_
    refine zi_iload_n hO dX12_all_22 1 rfl ?_
    refine zi_if_ne (tgt := 31) hO dX12_all_23 (by decide) (fun c2 => ?_) (fun c2 => ?_)
    · have h := h.1 c2
      refine zi_iload_n hO dX12_all_31 1 rfl ?_
      refine zi_iconst (v := 2) hO dX12_all_32 (by decide) ?_
      refine zi_icmp_ne (tgt := 42) hO dX12_all_33 (by decide) (fun c3 => ?_) (fun c3 => ?_)
      · have h := h.1 c3
        refine zi_iload_n hO dX12_all_42 1 rfl ?_
        refine zi_iconst (v := 1) hO dX12_all_43 (by decide) ?_
        refine zi_icmp_ne (tgt := 74) hO dX12_all_44 (by decide) (fun c4 => ?_) (fun c4 => ?_)
        · have h := h.1 c4
          refine zi_iload_n hO dX12_all_74 1 rfl ?_
          refine zi_iconst (v := 3) hO dX12_all_75 (by decide) ?_
          refine zi_icmp_ne (tgt := 117) hO dX12_all_76 (by decide) (fun c5 => ?_) (fun c5 => ?_)
          · have h := h.1 c5
            refine zi_iconst (v := 0) hO dX12_all_117 (by decide) ?_
            refine zi_istore_n (L' := [(0, vR 43 0), (1, vI x1), (2, vI 0), (3, vI 0)]) hO dX12_all_118 (by decide) rfl rfl ?_
            exact h
          · have h := h.2 c5
            refine zi_aload_n hO dX12_all_79 0 rfl ?_
            obtain ⟨P2, hM2, h⟩ := h
            refine zc_VV (as := []) hO hN dX12_all_80 kX12_266 (by decide) rfl (zI (by decide)) rfl rfl (Nat.le_of_ble_eq_true rfl) rfl rfl hM2 (fun im2 lv2 hp2 => ?_)
            replace h := h im2 lv2 hp2
            refine zi_iconst (v := 0) hO dX12_all_83 (by decide) ?_
            refine zi_istore_n (L' := [(0, vR 43 0), (1, vI x1), (2, vI 0), (3, vI 0)]) hO dX12_all_84 (by decide) rfl rfl ?_
            exact h
        · have h := h.2 c4
          refine zi_iconst (v := 0) hO dX12_all_47 (by decide) ?_
          refine zi_istore_n (L' := [(0, vR 43 0), (1, vI x1), (2, vI 0), (3, vI 0)]) hO dX12_all_48 (by decide) rfl rfl ?_
          exact h
      · have h := h.2 c3
        refine zi_aload_n hO dX12_all_36 0 rfl ?_
        refine zi_iconst (v := (-1)) hO dX12_all_37 (by decide) ?_
        obtain ⟨P3, hM3, h⟩ := h
        refine zc_VI (as := [vI (-1)]) hO hN dX12_all_38 kX12_253 (by decide) rfl (zI (by decide)) rfl rfl (Nat.le_of_ble_eq_true rfl) rfl rfl hM3 (fun v3 im3 lv3 hp3 => ?_)
        replace h := h v3 im3 lv3 hp3
        exact zr_I hO hR rfl dX12_all_41 h
    · have h := h.2 c2
      refine zi_aload_n hO dX12_all_26 0 rfl ?_
      obtain ⟨P4, hM4, h⟩ := h
      refine zc_VI (as := []) hO hN dX12_all_27 kX12_262 (by decide) rfl (zI (by decide)) rfl rfl (Nat.le_of_ble_eq_true rfl) rfl rfl hM4 (fun v4 im4 lv4 hp4 => ?_)
      replace h := h v4 im4 lv4 hp4
      exact zr_I hO hR rfl dX12_all_30 h
  · have h := h.2 (vB_0.mp c1)
    refine zi_ldc (v := (-1000001)) hO dX12_all_17 nX12_23 ?_
    exact zr_I hO hR rfl dX12_all_19 h
theorem rX12_all_49 {x : zX} {w : zWd} {im : zMem} {lv : Int64} {P : Int32 → zMem → Int64 → Prop} {x1 : Int32} {x2 : Int32} {x3 : Int32} (hO : zOK x w zyX12_all 6) (hR : zRetI x w zyX12_all P) (hN : zN x 126 126)
 (h : (((im 43 0 10) ≤ x3 → P x2 im lv) ∧
 (¬ ((im 43 0 10) ≤ x3) → (vp_in x3 12 ∧ (vp_in ((5 * x3) + 3) 60 ∧ zW x w 49 [(0, vR 43 0), (1, vI x1), (2, vI (x2 + (((im 50 0 (Int32.toNatClampNeg ((5 * x3) + 3))) * (im 54 0 (Int32.toNatClampNeg x3))) + (10 * (im 53 0 (Int32.toNatClampNeg x3)))))), (3, vI (x3 + 1))] [] im lv))))) :
 zW x w 49 [(0, vR 43 0), (1, vI x1), (2, vI x2), (3, vI x3)] [] im lv := by
  refine zi_iload_n hO dX12_all_49 3 rfl ?_
  refine zi_aload_n hO dX12_all_50 0 rfl ?_
  refine zi_getI hO dX12_all_51 fX12_138 rfl rfl (zI (by decide)) ?_
  refine zi_icmp_ge (tgt := 71) hO dX12_all_54 (by decide) (fun c1 => ?_) (fun c1 => ?_)
  · have h := h.1 c1
    refine zi_goto (tgt := 191) hO dX12_all_71 (by decide) ?_
    refine zi_iload_n hO dX12_all_191 2 rfl ?_
    exact zr_I hO hR rfl dX12_all_192 h
  · have h := h.2 c1
    refine zi_iload_n hO dX12_all_57 2 rfl ?_
    refine zi_aload_n hO dX12_all_58 0 rfl ?_
    refine zi_iload_n hO dX12_all_59 3 rfl ?_
    obtain ⟨s2, h⟩ := h
    obtain ⟨s3, h⟩ := h
    refine zc_VI (as := [vI x3]) hO hN dX12_all_60 kX12_236 (by decide) rfl (zI (by decide)) rfl rfl (Nat.le_of_ble_eq_true rfl) rfl rfl (C_X12_costOf _ _ _ _ s2 s3) (fun v1 im1 lv1 hp1 => ?_)
    rw [hp1.1, hp1.2.1, hp1.2.2]
    refine zi_iadd hO dX12_all_63 ?_
    refine zi_istore_n (L' := [(0, vR 43 0), (1, vI x1), (2, vI (x2 + (((im 50 0 (Int32.toNatClampNeg ((5 * x3) + 3))) * (im 54 0 (Int32.toNatClampNeg x3))) + (10 * (im 53 0 (Int32.toNatClampNeg x3)))))), (3, vI x3)]) hO dX12_all_64 (by decide) rfl rfl ?_
    refine zi_iinc (v' := (x3 + 1)) (L' := [(0, vR 43 0), (1, vI x1), (2, vI (x2 + (((im 50 0 (Int32.toNatClampNeg ((5 * x3) + 3))) * (im 54 0 (Int32.toNatClampNeg x3))) + (10 * (im 53 0 (Int32.toNatClampNeg x3)))))), (3, vI (x3 + 1))]) hO dX12_all_65 3 rfl rfl (by decide) rfl rfl ?_
    refine zi_goto (tgt := 49) hO dX12_all_68 (by decide) ?_
    exact h
theorem rX12_all_85 {x : zX} {w : zWd} {im : zMem} {lv : Int64} {P : Int32 → zMem → Int64 → Prop} {x1 : Int32} {x2 : Int32} {x3 : Int32} (hO : zOK x w zyX12_all 6) (hR : zRetI x w zyX12_all P) (hN : zN x 126 126)
 (h : ((4 ≤ x3 → P x2 im lv) ∧
 (¬ (4 ≤ x3) → (∃ P1 : Int32 → zMem → Int64 → Prop, zSpecI x.2.1 w 2 zyX12_delaysOf [vR 43 0, vI x3] im lv P1 ∧ ∀ (v1 : Int32) (im1 : zMem) (lv1 : Int64), P1 v1 im1 lv1 → (vp_in x3 4 ∧ zW x w 85 [(0, vR 43 0), (1, vI x1), (2, vI (x2 + (if (v1 - (im1 59 0 (Int32.toNatClampNeg x3))) < 0 then 0 - (v1 - (im1 59 0 (Int32.toNatClampNeg x3))) else (v1 - (im1 59 0 (Int32.toNatClampNeg x3)))))), (3, vI (x3 + 1))] [] im1 lv1))))) :
 zW x w 85 [(0, vR 43 0), (1, vI x1), (2, vI x2), (3, vI x3)] [] im lv := by
  refine zi_iload_n hO dX12_all_85 3 rfl ?_
  refine zi_iconst (v := 4) hO dX12_all_86 (by decide) ?_
  refine zi_icmp_ge (tgt := 114) hO dX12_all_87 (by decide) (fun c1 => ?_) (fun c1 => ?_)
  · have h := h.1 c1
    refine zi_goto (tgt := 191) hO dX12_all_114 (by decide) ?_
    refine zi_iload_n hO dX12_all_191 2 rfl ?_
    exact zr_I hO hR rfl dX12_all_192 h
  · have h := h.2 c1
    refine zi_iload_n hO dX12_all_90 2 rfl ?_
    refine zi_aload_n hO dX12_all_91 0 rfl ?_
    refine zi_iload_n hO dX12_all_92 3 rfl ?_
    obtain ⟨P1, hM1, h⟩ := h
    refine zc_VI (as := [vI x3]) hO hN dX12_all_93 kX12_253 (by decide) rfl (zI (by decide)) rfl rfl (Nat.le_of_ble_eq_true rfl) rfl rfl hM1 (fun v1 im1 lv1 hp1 => ?_)
    replace h := h v1 im1 lv1 hp1
    refine zi_aload_n hO dX12_all_96 0 rfl ?_
    refine zi_getR (r' := 59) (i' := 0) hO dX12_all_97 fX12_83 rfl rfl (zI (by decide)) rfl ?_
    refine zi_iload_n hO dX12_all_100 3 rfl ?_
    obtain ⟨s2, h⟩ := h
    refine zi_iald hO dX12_all_101 rfl (zI (by decide)) s2 ?_
    refine zi_isub hO dX12_all_102 ?_
    refine zc_SI (as := [vI (v1 - (im1 59 0 (Int32.toNatClampNeg x3)))]) hO hN dX12_all_103 kX12_269 (by decide) rfl (Nat.le_of_ble_eq_true rfl) rfl rfl (C_X12_distance _ _ _ _) (fun v3 im3 lv3 hp3 => ?_)
    rw [hp3.1, hp3.2.1, hp3.2.2]
    refine zi_iadd hO dX12_all_106 ?_
    refine zi_istore_n (L' := [(0, vR 43 0), (1, vI x1), (2, vI (x2 + (if (v1 - (im1 59 0 (Int32.toNatClampNeg x3))) < 0 then 0 - (v1 - (im1 59 0 (Int32.toNatClampNeg x3))) else (v1 - (im1 59 0 (Int32.toNatClampNeg x3)))))), (3, vI x3)]) hO dX12_all_107 (by decide) rfl rfl ?_
    refine zi_iinc (v' := (x3 + 1)) (L' := [(0, vR 43 0), (1, vI x1), (2, vI (x2 + (if (v1 - (im1 59 0 (Int32.toNatClampNeg x3))) < 0 then 0 - (v1 - (im1 59 0 (Int32.toNatClampNeg x3))) else (v1 - (im1 59 0 (Int32.toNatClampNeg x3)))))), (3, vI (x3 + 1))]) hO dX12_all_108 3 rfl rfl (by decide) rfl rfl ?_
    refine zi_goto (tgt := 85) hO dX12_all_111 (by decide) ?_
    exact h
theorem rX12_all_119 {x : zX} {w : zWd} {im : zMem} {lv : Int64} {P : Int32 → zMem → Int64 → Prop} {x1 : Int32} {x2 : Int32} {x3 : Int32} (hO : zOK x w zyX12_all 6) (hR : zRetI x w zyX12_all P) (hN : zN x 126 126)
 (h : ((384 ≤ x3 → P x2 im lv) ∧
 (¬ (384 ≤ x3) → (∃ P1 : Int32 → zMem → Int64 → Prop, zSpecI x.2.1 w 3 zyX12_loadOf [vR 43 0, vI (x3 / 48), vI (x3 - x3 / 48 * 48)] im lv P1 ∧ ∀ (v1 : Int32) (im1 : zMem) (lv1 : Int64), P1 v1 im1 lv1 → ((¬ (x1 = 5) → (∃ P2 : Int32 → zMem → Int64 → Prop, zSpecI x.2.1 w 3 zyX12_safeOf [vR 43 0, vI (x3 / 48), vI (x3 - x3 / 48 * 48)] im1 lv1 P2 ∧ ∀ (v2 : Int32) (im2 : zMem) (lv2 : Int64), P2 v2 im2 lv2 → ((v1 ≤ v2 → zW x w 119 [(0, vR 43 0), (1, vI x1), (2, vI (x2 + 0)), (3, vI (x3 + 1))] [] im2 lv2) ∧
 (¬ (v1 ≤ v2) → zW x w 119 [(0, vR 43 0), (1, vI x1), (2, vI (x2 + 1)), (3, vI (x3 + 1))] [] im2 lv2)))) ∧
 (x1 = 5 → ((v1 ≤ x2 → zW x w 119 [(0, vR 43 0), (1, vI x1), (2, vI x2), (3, vI (x3 + 1))] [] im1 lv1) ∧
 (¬ (v1 ≤ x2) → zW x w 119 [(0, vR 43 0), (1, vI x1), (2, vI v1), (3, vI (x3 + 1))] [] im1 lv1)))))))) :
 zW x w 119 [(0, vR 43 0), (1, vI x1), (2, vI x2), (3, vI x3)] [] im lv := by
  refine zi_iload_n hO dX12_all_119 3 rfl ?_
  refine zi_sipush (v := 384) hO dX12_all_120 (by decide) ?_
  refine zi_icmp_ge (tgt := 191) hO dX12_all_123 (by decide) (fun c1 => ?_) (fun c1 => ?_)
  · have h := h.1 c1
    refine zi_iload_n hO dX12_all_191 2 rfl ?_
    exact zr_I hO hR rfl dX12_all_192 h
  · have h := h.2 c1
    refine zi_aload_n hO dX12_all_126 0 rfl ?_
    refine zi_iload_n hO dX12_all_127 3 rfl ?_
    refine zi_bipush (v := 48) hO dX12_all_128 (by decide) ?_
    refine zi_idiv hO dX12_all_130 (by decide) ?_
    refine zi_iload_n hO dX12_all_131 3 rfl ?_
    refine zi_bipush (v := 48) hO dX12_all_132 (by decide) ?_
    refine zi_irem hO dX12_all_134 (by decide) ?_
    obtain ⟨P1, hM1, h⟩ := h
    refine zc_VI (as := [vI (x3 / 48), vI (x3 - x3 / 48 * 48)]) hO hN dX12_all_135 kX12_244 (by decide) rfl (zI (by decide)) rfl rfl (Nat.le_of_ble_eq_true rfl) rfl rfl hM1 (fun v1 im1 lv1 hp1 => ?_)
    replace h := h v1 im1 lv1 hp1
    refine zi_istore (L' := [(0, vR 43 0), (1, vI x1), (2, vI x2), (3, vI x3), (4, vI v1)]) hO dX12_all_138 (by decide) rfl rfl ?_
    refine zi_iload_n hO dX12_all_140 1 rfl ?_
    refine zi_iconst (v := 5) hO dX12_all_141 (by decide) ?_
    refine zi_icmp_ne (tgt := 160) hO dX12_all_142 (by decide) (fun c2 => ?_) (fun c2 => ?_)
    · have h := h.1 c2
      refine zi_iload_n hO dX12_all_160 2 rfl ?_
      refine zi_iload hO dX12_all_161 4 rfl ?_
      refine zi_aload_n hO dX12_all_163 0 rfl ?_
      refine zi_iload_n hO dX12_all_164 3 rfl ?_
      refine zi_bipush (v := 48) hO dX12_all_165 (by decide) ?_
      refine zi_idiv hO dX12_all_167 (by decide) ?_
      refine zi_iload_n hO dX12_all_168 3 rfl ?_
      refine zi_bipush (v := 48) hO dX12_all_169 (by decide) ?_
      refine zi_irem hO dX12_all_171 (by decide) ?_
      obtain ⟨P2, hM2, h⟩ := h
      refine zc_VI (as := [vI (x3 / 48), vI (x3 - x3 / 48 * 48)]) hO hN dX12_all_172 kX12_134 (by decide) rfl (zI (by decide)) rfl rfl (Nat.le_of_ble_eq_true rfl) rfl rfl hM2 (fun v2 im2 lv2 hp2 => ?_)
      replace h := h v2 im2 lv2 hp2
      refine zi_icmp_le (tgt := 182) hO dX12_all_175 (by decide) (fun c3 => ?_) (fun c3 => ?_)
      · have h := h.1 c3
        refine zi_iconst (v := 0) hO dX12_all_182 (by decide) ?_
        refine zi_iadd hO dX12_all_183 ?_
        refine zi_istore_n (L' := [(0, vR 43 0), (1, vI x1), (2, vI (x2 + 0)), (3, vI x3), (4, vI v1)]) hO dX12_all_184 (by decide) rfl rfl ?_
        refine zi_iinc (v' := (x3 + 1)) (L' := [(0, vR 43 0), (1, vI x1), (2, vI (x2 + 0)), (3, vI (x3 + 1)), (4, vI v1)]) hO dX12_all_185 3 rfl rfl (by decide) rfl rfl ?_
        refine zi_goto (tgt := 119) hO dX12_all_188 (by decide) ?_
        refine zi_pick (L' := [(0, vR 43 0), (1, vI x1), (2, vI (x2 + 0)), (3, vI (x3 + 1))]) [0, 1, 2, 3] rfl ?_
        exact h
      · have h := h.2 c3
        refine zi_iconst (v := 1) hO dX12_all_178 (by decide) ?_
        refine zi_goto (tgt := 183) hO dX12_all_179 (by decide) ?_
        refine zi_iadd hO dX12_all_183 ?_
        refine zi_istore_n (L' := [(0, vR 43 0), (1, vI x1), (2, vI (x2 + 1)), (3, vI x3), (4, vI v1)]) hO dX12_all_184 (by decide) rfl rfl ?_
        refine zi_iinc (v' := (x3 + 1)) (L' := [(0, vR 43 0), (1, vI x1), (2, vI (x2 + 1)), (3, vI (x3 + 1)), (4, vI v1)]) hO dX12_all_185 3 rfl rfl (by decide) rfl rfl ?_
        refine zi_goto (tgt := 119) hO dX12_all_188 (by decide) ?_
        refine zi_pick (L' := [(0, vR 43 0), (1, vI x1), (2, vI (x2 + 1)), (3, vI (x3 + 1))]) [0, 1, 2, 3] rfl ?_
        exact h
    · have h := h.2 c2
      refine zi_iload hO dX12_all_145 4 rfl ?_
      refine zi_iload_n hO dX12_all_147 2 rfl ?_
      refine zi_icmp_le (tgt := 156) hO dX12_all_148 (by decide) (fun c4 => ?_) (fun c4 => ?_)
      · have h := h.1 c4
        refine zi_iload_n hO dX12_all_156 2 rfl ?_
        refine zi_goto (tgt := 184) hO dX12_all_157 (by decide) ?_
        refine zi_istore_n (L' := [(0, vR 43 0), (1, vI x1), (2, vI x2), (3, vI x3), (4, vI v1)]) hO dX12_all_184 (by decide) rfl rfl ?_
        refine zi_iinc (v' := (x3 + 1)) (L' := [(0, vR 43 0), (1, vI x1), (2, vI x2), (3, vI (x3 + 1)), (4, vI v1)]) hO dX12_all_185 3 rfl rfl (by decide) rfl rfl ?_
        refine zi_goto (tgt := 119) hO dX12_all_188 (by decide) ?_
        refine zi_pick (L' := [(0, vR 43 0), (1, vI x1), (2, vI x2), (3, vI (x3 + 1))]) [0, 1, 2, 3] rfl ?_
        exact h
      · have h := h.2 c4
        refine zi_iload hO dX12_all_151 4 rfl ?_
        refine zi_goto (tgt := 184) hO dX12_all_153 (by decide) ?_
        refine zi_istore_n (L' := [(0, vR 43 0), (1, vI x1), (2, vI v1), (3, vI x3), (4, vI v1)]) hO dX12_all_184 (by decide) rfl rfl ?_
        refine zi_iinc (v' := (x3 + 1)) (L' := [(0, vR 43 0), (1, vI x1), (2, vI v1), (3, vI (x3 + 1)), (4, vI v1)]) hO dX12_all_185 3 rfl rfl (by decide) rfl rfl ?_
        refine zi_goto (tgt := 119) hO dX12_all_188 (by decide) ?_
        refine zi_pick (L' := [(0, vR 43 0), (1, vI x1), (2, vI v1), (3, vI (x3 + 1))]) [0, 1, 2, 3] rfl ?_
        exact h
theorem C_X12_shares (l : Launch) (w : zWd) {m im : zMem} (lv : Int64) (hW : WF m) (hM : RM m im) : zSpecV l w 3 zyX12_shares [vR 43 0] im lv (fun im' lv' => ((∀ r, ¬ r = 58 → ¬ r = 59 → im' r = im r) ∧ ∀ a, a < 4 → im' 59 0 a = nI (shr m a)) ∧ lv' = lv) := by
  refine ze_V (by decide) (Nat.le_of_ble_eq_true rfl) (fun x hO hR hN => rX12_shares_0 hO hR hN ?_)
  have h12 := hW.1.2
  have key : ∀ n k (im1 : zMem), n + k = 4 → (∀ r, ¬ r = 58 → im1 r = im r) → (∀ a, a < k → im1 58 0 a = nI (flOf m a)) → zW x w 2 [(0, vR 43 0), (1, vI (nI k))] [] im1 lv := by
    intro n
    induction n with
    | zero =>
      intro k im1 hk h1 h2
      have : k = 4 := by omega
      subst this
      have hM1 : RM m im1 := hM.fr (fun r g1 g2 => h1 r (by omega))
      refine rX12_shares_2 hO hR hN ⟨fun _ => ⟨_, C_X12_delaysOf _ _ _ hW hM1 (a := none) (fun k h => by cases h) rfl, ?_⟩, fun q => absurd (by decide) q⟩
      rintro _ _ _ ⟨rfl, rfl, rfl⟩
      rw [hM1.2.2.2, hW.1.1]
      refine ⟨_, C_X12_give _ _ _ (by have := dlOf_le hW (a := none); omega) (by omega) (c := flOf m) (fun a ha => ⟨h2 a ha, by have := foN_le (m := m) (a := a) (nfl m); unfold flOf; omega⟩) (fun _ => flOf_sum hW) (fun q => by unfold dlOf; rw [q]; rfl), ?_⟩
      rintro im2 _ ⟨⟨g1, g2⟩, rfl⟩
      exact ⟨⟨fun r n1 n2 => (g1 r n2).trans (h1 r n1), g2⟩, rfl⟩
    | succ n ih =>
      intro k im1 hk h1 h2
      have hM1 : RM m im1 := hM.fr (fun r g1 g2 => h1 r (by omega))
      refine rX12_shares_2 hO hR hN ⟨fun q => ?_, fun _ => ⟨_, C_X12_flightsOf _ _ _ hW hM1 (by omega), ?_⟩⟩
      · exfalso
        have : nI 4 ≤ nI k := q
        rw [nI_leI (by omega) (by omega)] at this
        omega
      · rintro _ _ _ ⟨rfl, rfl, rfl⟩
        refine ⟨vp_in_nI (by omega) (by decide), ?_⟩
        simp (disch := omega) only [zlit, nI_add, nI_clamp]
        refine ih (k + 1) _ (by omega) (fun r hr => by rw [zwr_r hr]; exact h1 r hr) (fun a ha => ?_)
        rw [zwr_app]
        by_cases hak : a = k
        · subst hak; rw [if_pos ⟨rfl, rfl, rfl⟩]
        · rw [if_neg (fun q => hak q.2.2)]; exact h2 a (by omega)
  exact key 4 0 im rfl (fun _ _ => rfl) (fun a ha => absurd ha (by omega))
/-- nothing is too much where f is, in the slots before t -/
def calmN (m : zMem) (f : Nat) : Nat → Bool
  | 0 => true
  | t + 1 => calmN m f t && (match room m f (way m f) 0 t with
    | none => true
    | some r => decide (over m r t = 0))
def knd (m : zMem) (f : Nat) : Nat := if 0 < dly m f then (if 0 < way m f then 2 else 1) else if calmN m f 48 = true then 3 else 0
theorem C_X12_kindOf (l : Launch) (w : zWd) {m im : zMem} (lv : Int64) (hW : WF m) (hM : RM m im) {f : Nat} (hf : f < nfl m) : zSpecI l w 5 zyX12_kindOf [vR 43 0, vI (nI f)] im lv (fun v im' lv' => v = nI (knd m f) ∧ im' = im ∧ lv' = lv) := by
  refine ze_I (by decide) (Nat.le_of_ble_eq_true rfl) (fun x hO hR hN => rX12_kindOf_0 hO hR hN ?_)
  have e53 := hM.1 53 (by decide) (by decide)
  have e54 := hM.1 54 (by decide) (by decide)
  have h12 := hW.1.2
  obtain ⟨-, -, -, -, f4, f5, f6, -⟩ := hW.2.1 f hf
  have vf : vp_in (nI f) 12 := vp_in_nI (by omega) (by decide)
  have key : ¬ 0 < dly m f → ∀ n k, n + k = 48 → zW x w 28 [(0, vR 43 0), (1, vI (nI f)), (2, vI (nI (if calmN m f k = true then 1 else 0))), (3, vI (nI k))] [] im lv := by
    intro hd n
    induction n with
    | zero =>
      intro k hk
      have : k = 48 := by omega
      subst this
      refine rX12_kindOf_28 hO hR hN ⟨fun _ => ?_, fun q => absurd (by decide) q⟩
      unfold knd
      rw [if_neg hd]
      by_cases hc : calmN m f 48 = true
      · rw [if_pos hc, if_pos hc]
        exact ⟨fun q => absurd q (by decide), fun _ => ⟨rfl, rfl, rfl⟩⟩
      · rw [if_neg hc, if_neg hc]
        exact ⟨fun _ => ⟨rfl, rfl, rfl⟩, fun q => absurd rfl q⟩
    | succ n ih =>
      intro k hk
      have ih := ih (k + 1) (by omega)
      rw [calmN] at ih
      have hk1 : nI k + 1 = nI (k + 1) := nI_1 k
      have ew : im 53 0 (Int32.toNatClampNeg (nI f)) = nI (way m f) := by rw [nI_clamp (by omega), e53, f5.1]
      refine rX12_kindOf_28 hO hR hN ?_
      rw [ew]
      refine ⟨fun q => ?_, fun _ => ⟨vf, _, C_X12_roomBy _ _ _ hW hM hf (d := 0) (t := k) (by omega) (by omega) (by omega), ?_⟩⟩
      · exfalso
        have : nI 48 ≤ nI k := q
        rw [nI_leI (by omega) (by omega)] at this
        omega
      · rintro _ _ _ ⟨rfl, rfl, rfl⟩
        rw [hk1]
        refine ⟨fun q => ?_, fun q => ?_⟩
        · have hc : ¬ calmN m f k = true := by
            intro z
            rw [if_pos z] at q
            exact absurd q (by decide)
          rw [if_neg (by simp [hc])] at ih
          exact ih
        · have hc : calmN m f k = true := by
            by_cases z : calmN m f k = true
            · exact z
            · rw [if_neg z] at q
              exact absurd rfl q
          rw [hc, Bool.true_and] at ih
          cases hr : room m f (way m f) 0 k with
          | none =>
            rw [hr] at ih
            exact ⟨fun _ => ih, fun z => absurd rfl z⟩
          | some r =>
            have hr7 := room_lt hW hf (by omega) hr
            rw [hr] at ih
            dsimp only at ih
            refine ⟨fun z => absurd z (zO1 (by omega)), fun _ => ⟨_, C_X12_overOf _ _ _ hW hM (by omega) (by omega), ?_⟩⟩
            rintro _ _ _ ⟨rfl, rfl, rfl⟩
            have ho : over m r k ≤ 108 := Nat.le_trans (Nat.sub_le _ _) (load_le hW)
            have he : (nI (over m r k) = 0) ↔ over m r k = 0 := nI_eq (by omega) (by decide)
            rw [he]
            refine ⟨fun z => ?_, fun z => ?_⟩
            · rw [if_neg (by simpa using z)] at ih; exact ih
            · rw [if_pos (by simpa using z)] at ih; exact ih
  simp (disch := omega) only [zlit, nI_clamp, nI_leI, e53, e54, f5.1, f6.1]
  refine ⟨vf, fun q => ?_, fun q => ⟨fun q2 => ⟨?_, trivial, trivial⟩, fun q2 => ⟨?_, trivial, trivial⟩⟩⟩
  · exact key (by omega) 48 0 rfl
  · unfold knd; rw [if_pos (by omega), if_neg (by omega)]
  · unfold knd; rw [if_pos (by omega), if_pos (by omega)]
def csN (m : zMem) : Nat → Nat
  | 0 => 0
  | f + 1 => csN m f + cost m f
def ndist (p q : Nat) : Nat := if p < q then q - p else p - q
def frN (m : zMem) : Nat → Nat
  | 0 => 0
  | a + 1 => frN m a + ndist (dlOf m (some a)) (shr m a)
def crN (m : zMem) : Nat → Nat
  | 0 => 0
  | k + 1 => crN m k + if load m (k / 48) (k % 48) ≤ safe m (k / 48) (k % 48) then 0 else 1
def grN (m : zMem) : Nat → Nat
  | 0 => 0
  | k + 1 => if load m (k / 48) (k % 48) ≤ grN m k then grN m k else load m (k / 48) (k % 48)
theorem grN_le {m : zMem} (hW : WF m) : ∀ k, grN m k ≤ 108
  | 0 => Nat.zero_le _
  | k + 1 => by
    have := grN_le hW k
    have := load_le hW (r := k / 48) (t := k % 48)
    rw [grN]
    split <;> omega
def aAllN (m : zMem) (k : Nat) : Nat := if k = 0 then overAll m else if k = 1 then csN m (nfl m) else if k = 2 then dlOf m none else if k = 3 then frN m 4 else if k = 4 then crN m 384 else grN m 384
def aAll (m : zMem) (x : Int32) : Int32 := if 0 ≤ x ∧ x < nI 6 then nI (aAllN m (cN x)) else -1000001
theorem gvN_lt {rest : Nat → Nat} : ∀ {n M : Nat}, M < 16 → gvN rest n M < 16
  | 0, M, h => h
  | n + 1, M, h => by
    rw [gvN]
    cases hb : bestN rest M 4 with
    | none => exact h
    | some b =>
      obtain ⟨b1, b2⟩ := bestN_spec hb
      exact gvN_lt (mbits M h b b1 b2).2.1
theorem gsh_le {A O : Nat} {c : Nat → Nat} {a : Nat} (h : ¬ O = 0 → c a ≤ O) : gsh A c O a ≤ A + 1 := by
  unfold gsh
  split
  · omega
  · rename_i h0
    have h1 : A * c a / O ≤ A := by
      apply Nat.div_le_of_le_mul
      rw [Nat.mul_comm]
      exact Nat.mul_le_mul_right _ (h h0)
    have := Nat.mod_lt (gvN (fun a => A * c a % O) (A - sum4 (fun a => A * c a / O)) 0 / 2 ^ a) (show 0 < 2 by decide)
    omega
theorem shr_le {m : zMem} (hW : WF m) {a : Nat} : shr m a ≤ 49 := by
  have := dlOf_le hW (a := none)
  have := gsh_le (A := dlOf m none) (O := nfl m) (c := flOf m) (a := a) (fun _ => foN_le _)
  unfold shr
  omega
theorem ndist_i {p q : Nat} (hp : p < 1000) (hq : q < 1000) : (if (nI p - nI q) < 0 then 0 - (nI p - nI q) else (nI p - nI q)) = nI (ndist p q) := by
  unfold ndist
  by_cases h : p < q
  · rw [if_pos (pk_sneg (by omega) h), if_pos h]
    have e : (0 : Int32) - (nI p - nI q) = nI q - nI p := by
      rw [Int32.zero_sub, Int32.neg_sub]
    rw [e, pk_sub (by omega)]
  · rw [pk_sub (by omega), if_neg h, if_neg (nI_pos (by omega))]
theorem C_X12_all (l : Launch) (w : zWd) {m im : zMem} (lv : Int64) (hW : WF m) (hM : RM m im) (h0 : im 43 0 0 = 0) (x1 : Int32) : zSpecI l w 6 zyX12_all [vR 43 0, vI x1] im lv (fun v im' lv' => v = aAll m x1 ∧ (∀ r, ¬ r = 58 → ¬ r = 59 → im' r = im r) ∧ lv' = lv) := by
  refine ze_I (by decide) (Nat.le_of_ble_eq_true rfl) (fun x hO hR hN => rX12_all_0 hO hR hN ?_)
  rw [zwr_id h0]
  have q5 : (0 ≤ x1 ∧ x1 ≤ 5) ↔ (0 ≤ x1 ∧ x1 < nI 6) := zrl (by decide)
  rw [q5]
  have e10 := hM.2.2.2
  have e50 := hM.1 50 (by decide) (by decide)
  have e53 := hM.1 53 (by decide) (by decide)
  have e54 := hM.1 54 (by decide) (by decide)
  have h12 := hW.1.2
  refine ⟨fun q => ?_, fun q => ⟨(if_neg q).symm, fun _ _ _ => rfl, rfl⟩⟩
  have hA : aAll m x1 = nI (aAllN m (cN x1)) := if_pos q
  obtain ⟨k, hk, rfl⟩ := zrx (by decide) q
  rw [cNn (by omega)] at hA
  rw [hA] at hR
  have lk : ∀ j : Nat, j < 10 → ((nI k = nI j) ↔ k = j) := fun j hj => nI_eq (by omega) (by omega)
  have l0 : (nI k = 0) ↔ k = 0 := lk 0 (by decide)
  have l1 : (nI k = 1) ↔ k = 1 := lk 1 (by decide)
  have l2 : (nI k = 2) ↔ k = 2 := lk 2 (by decide)
  have l3 : (nI k = 3) ↔ k = 3 := lk 3 (by decide)
  have l5 : (nI k = 5) ↔ k = 5 := lk 5 (by decide)
  rw [l0, l1, l2, l3]
  refine ⟨fun k0 => ⟨fun k2 => ⟨fun k1 => ⟨fun k3 => ?_, fun k3 => ?_⟩, fun k1 => ?_⟩, fun k2 => ?_⟩, fun k0 => ?_⟩
  · -- 4, 5
    have hfin : aAllN m k = if k = 5 then grN m 384 else crN m 384 := by
      unfold aAllN
      rw [if_neg k0, if_neg k1, if_neg k2, if_neg k3]
      by_cases k5 : k = 5
      · rw [if_neg (by omega), if_pos k5]
      · rw [if_pos (by omega), if_neg k5]
    have key : ∀ n j, n + j = 384 → zW x w 119 [(0, vR 43 0), (1, vI (nI k)), (2, vI (nI (if k = 5 then grN m j else crN m j))), (3, vI (nI j))] [] im lv := by
      intro n
      induction n with
      | zero =>
        intro j hj
        have : j = 384 := by omega
        subst this
        exact rX12_all_119 hO hR hN ⟨fun _ => ⟨by rw [hfin], fun _ _ _ => rfl, rfl⟩, fun q => absurd (by decide) q⟩
      | succ n ih =>
        intro j hj
        have ih := ih (j + 1) (by omega)
        rw [grN, crN] at ih
        have e1 : nI j / 48 = nI (j / 48) := pk_div (d := 48) (by omega) (by omega) (by omega)
        have e2 : nI j - nI j / 48 * 48 = nI (j % 48) := pk_rem (d := 48) (by omega) (by omega) (by omega)
        refine rX12_all_119 hO hR hN ?_
        rw [e2, e1, l5]
        have hl := load_le hW (r := j / 48) (t := j % 48)
        have hg := grN_le hW j
        refine ⟨fun q => ?_, fun _ => ⟨_, C_X12_loadOf _ _ _ hW hM (by omega) (by omega), ?_⟩⟩
        · exfalso
          have : nI 384 ≤ nI j := q
          rw [nI_leI (by omega) (by omega)] at this
          omega
        rintro _ _ _ ⟨rfl, rfl, rfl⟩
        have hj1 : nI j + 1 = nI (j + 1) := nI_1 j
        rw [hj1]
        refine ⟨fun k5 => ⟨_, C_X12_safeOf _ _ _ hW hM (by omega) (by omega), ?_⟩, fun k5 => ?_⟩
        · rintro _ _ _ ⟨rfl, rfl, rfl⟩
          have hs := safe_le hW (r := j / 48) (t := j % 48) (by omega) (by omega)
          rw [nI_leI (by omega) (by omega)]
          rw [if_neg k5] at ih ⊢
          refine ⟨fun z => ?_, fun z => ?_⟩
          · rw [if_pos z] at ih
            show zW x w 119 [(0, vR 43 0), (1, vI (nI k)), (2, vI (nI (crN m j) + nI 0)), (3, vI (nI (j + 1)))] [] _ _
            rw [nI_add]
            exact ih
          · rw [if_neg z] at ih
            show zW x w 119 [(0, vR 43 0), (1, vI (nI k)), (2, vI (nI (crN m j) + nI 1)), (3, vI (nI (j + 1)))] [] _ _
            rw [nI_add]
            exact ih
        · rw [if_pos k5] at ih ⊢
          rw [nI_leI (by omega) (by omega)]
          refine ⟨fun z => ?_, fun z => ?_⟩
          · rw [if_pos z] at ih; exact ih
          · rw [if_neg z] at ih; exact ih
    have := key 384 0 rfl
    have ez : (if k = 5 then grN m 0 else crN m 0) = 0 := by split <;> rfl
    rw [ez] at this
    exact this
  · -- 3
    refine ⟨_, C_X12_shares _ _ _ hW hM, ?_⟩
    rintro im2 lv2 ⟨⟨g1, g2⟩, rfl⟩
    have hM2 : RM m im2 := hM.fr (fun r z1 z2 => g1 r (by omega) (by omega))
    have key : ∀ n j, n + j = 4 → zW x w 85 [(0, vR 43 0), (1, vI (nI k)), (2, vI (nI (frN m j))), (3, vI (nI j))] [] im2 lv2 := by
      intro n
      induction n with
      | zero =>
        intro j hj
        have : j = 4 := by omega
        subst this
        exact rX12_all_85 hO hR hN ⟨fun _ => ⟨by unfold aAllN; rw [if_neg k0, if_neg k1, if_neg k2, if_pos k3], g1, rfl⟩, fun q => absurd (by decide) q⟩
      | succ n ih =>
        intro j hj
        have ih := ih (j + 1) (by omega)
        rw [frN] at ih
        refine rX12_all_85 hO hR hN ⟨fun q => ?_, fun _ => ⟨_, C_X12_delaysOf _ _ _ hW hM2 (a := some j) (fun k h => by cases h; omega) rfl, ?_⟩⟩
        · exfalso
          have : nI 4 ≤ nI j := q
          rw [nI_leI (by omega) (by omega)] at this
          omega
        rintro _ _ _ ⟨rfl, rfl, rfl⟩
        refine ⟨vp_in_nI (by omega) (by decide), ?_⟩
        have hj1 : nI j + 1 = nI (j + 1) := nI_1 j
        have hcl : Int32.toNatClampNeg (nI j) = j := nI_clamp (by omega)
        rw [hj1, hcl, g2 j (by omega), ndist_i (by have := dlOf_le hW (a := some j); omega) (by have := shr_le hW (a := j); omega), nI_add]
        exact ih
    exact key 4 0 rfl
  · -- 1
    have key : ∀ n j, n + j = nfl m → zW x w 49 [(0, vR 43 0), (1, vI (nI k)), (2, vI (nI (csN m j))), (3, vI (nI j))] [] im lv := by
      intro n
      induction n with
      | zero =>
        intro j hj
        have : j = nfl m := by omega
        subst this
        refine rX12_all_49 hO hR hN ?_
        rw [e10, hW.1.1]
        exact ⟨fun _ => ⟨by unfold aAllN; rw [if_neg k0, if_pos k1], fun _ _ _ => rfl, rfl⟩, fun q => absurd (by simp) q⟩
      | succ n ih =>
        intro j hj
        have ih := ih (j + 1) (by omega)
        rw [csN] at ih
        obtain ⟨-, -, -, f3, -, f5, f6, -⟩ := hW.2.1 j (by omega)
        refine rX12_all_49 hO hR hN ?_
        simp (disch := omega) only [zlit, nI_add, pk_mul, nI_clamp, nI_leI, e10, hW.1.1, e50, e53, e54, f3.1, f5.1, f6.1]
        exact ⟨fun q => by omega, fun _ => ⟨vp_in_nI (by omega) (by decide), vp_in_nI (by omega) (by decide), ih⟩⟩
    exact key (nfl m) 0 (by omega)
  · refine ⟨_, C_X12_delaysOf _ _ _ hW hM (a := none) (fun k h => by cases h) rfl, ?_⟩
    rintro _ _ _ ⟨rfl, rfl, rfl⟩
    exact ⟨by rw [hA]; unfold aAllN; rw [if_neg k0, if_neg (by omega), if_pos k2], fun _ _ _ => rfl, rfl⟩
  · refine ⟨_, C_X12_overAll _ _ _ hW hM, ?_⟩
    rintro _ _ _ ⟨rfl, rfl, rfl⟩
    exact ⟨by rw [hA]; unfold aAllN; rw [if_pos k0], fun _ _ _ => rfl, rfl⟩

/-! the constructors (printed by ctorgen.py) -/
def RX7_init (i : Nat) (rf : zRef) : zRef := zwR (rf) 41 i 2 (42, i)
def IX7_init (i : Nat) (im : zMem) : zMem := zwr (im) 41 i 0 (-1)
set_option maxRecDepth 100000 in
set_option maxHeartbeats 4000000 in
theorem C_X7_init (l : Launch) (w : zWd) {rf : zRef} {im : zMem} {i : Nat} (hi : i < 8) (h41 : im 41 i = fun _ => 0) (h42 : im 42 i = fun _ => 0) : zSpecg l w 2 zyX7_init (86 + 2 * i) rf (86 + 2 * i + 1) [vR 41 i] im 0 (fun _ rf' im' lv' => rf' = RX7_init i rf ∧ im' = IX7_init i im ∧ lv' = 0) := by
  refine zenter (by omega) (by omega) (by decide) (Nat.le_of_ble_eq_true rfl) (fun x hO hR hN => ?_)
  show zWg x w (86 + 2 * i) rf 0 [(0, vR 41 i)] [] im 0
  refine zi_aload_n hO dX7_init_0 0 rfl ?_
  refine zi_objInit hO (by decide) dX7_init_1 oX7_3 o_i o_c (Nat.le_of_ble_eq_true rfl) ?_
  refine zi_aload_n hO dX7_init_4 0 rfl ?_
  refine zi_iconst (v := (-1)) hO dX7_init_5 (by decide) ?_
  refine zk_putI hO dX7_init_6 gX7_11 rfl rfl ⟨hi, by show 85 + 2 * i < _; omega⟩ ?_
  refine zi_aload_n hO dX7_init_9 0 rfl ?_
  refine zi_iconst (v := 0) hO dX7_init_10 (by decide) ?_
  refine zk_putI0 hO dX7_init_11 gX7_15 rfl rfl ⟨hi, by show 85 + 2 * i < _; omega⟩ (by rw [zwr_k (by decide)]; exact (congrFun h41 1)) ?_
  refine zi_aload_n hO dX7_init_14 0 rfl ?_
  refine zi_bipush (v := 48) hO dX7_init_15 (by decide) ?_
  refine zk_newarr (n' := 86 + 2 * i + 1) (r := 42) (i := i) hO (zN_to hN (by omega) (by omega) (by omega)) (by omega) (by omega) dX7_init_17 (zky hi (by show _ = 86 + 2 * i; omega)) rfl h42 (by decide) (by decide) (by decide) ?_
  refine zk_putR hO hR rfl dX7_init_19 gX7_18 rfl rfl ⟨hi, by show 85 + 2 * i < _; omega⟩ ?_
  exact zi_vreturn hO hR rfl dX7_init_22 ⟨rfl, rfl, rfl⟩
def RX2_init (i : Nat) (rf : zRef) : zRef := zwR (zwR (zwR (rf) 12 i 5 (13, i)) 12 i 6 (14, i)) 12 i 7 (15, i)
def IX2_init (i : Nat) (im : zMem) : zMem := zwr (im) 12 i 1 1
set_option maxRecDepth 100000 in
set_option maxHeartbeats 4000000 in
theorem C_X2_init (l : Launch) (w : zWd) {rf : zRef} {im : zMem} {i : Nat} (hi : i < 12) (h12 : im 12 i = fun _ => 0) (h13 : im 13 i = fun _ => 0) (h14 : im 14 i = fun _ => 0) (h15 : im 15 i = fun _ => 0) : zSpecg l w 2 zyX2_init (13 + 4 * i) rf (13 + 4 * i + 3) [vR 12 i] im 0 (fun _ rf' im' lv' => rf' = RX2_init i rf ∧ im' = IX2_init i im ∧ lv' = 0) := by
  refine zenter (by omega) (by omega) (by decide) (Nat.le_of_ble_eq_true rfl) (fun x hO hR hN => ?_)
  show zWg x w (13 + 4 * i) rf 0 [(0, vR 12 i)] [] im 0
  refine zi_aload_n hO dX2_init_0 0 rfl ?_
  refine zi_objInit hO (by decide) dX2_init_1 oX2_3 o_i o_c (Nat.le_of_ble_eq_true rfl) ?_
  refine zi_aload_n hO dX2_init_4 0 rfl ?_
  refine zi_iconst (v := 0) hO dX2_init_5 (by decide) ?_
  refine zk_putI0 hO dX2_init_6 gX2_9 rfl rfl ⟨hi, by show 12 + 4 * i < _; omega⟩ (congrFun h12 0) ?_
  refine zi_aload_n hO dX2_init_9 0 rfl ?_
  refine zi_iconst (v := 1) hO dX2_init_10 (by decide) ?_
  refine zk_putI hO dX2_init_11 gX2_15 rfl rfl ⟨hi, by show 12 + 4 * i < _; omega⟩ ?_
  refine zi_aload_n hO dX2_init_14 0 rfl ?_
  refine zi_iconst (v := 0) hO dX2_init_15 (by decide) ?_
  refine zk_putI0 hO dX2_init_16 gX2_18 rfl rfl ⟨hi, by show 12 + 4 * i < _; omega⟩ (by rw [zwr_k (by decide)]; exact (congrFun h12 2)) ?_
  refine zi_aload_n hO dX2_init_19 0 rfl ?_
  refine zi_iconst (v := 0) hO dX2_init_20 (by decide) ?_
  refine zk_putI0 hO dX2_init_21 gX2_21 rfl rfl ⟨hi, by show 12 + 4 * i < _; omega⟩ (by rw [zwr_k (by decide)]; exact (congrFun h12 3)) ?_
  refine zi_aload_n hO dX2_init_24 0 rfl ?_
  refine zi_iconst (v := 0) hO dX2_init_25 (by decide) ?_
  refine zk_putI0 hO dX2_init_26 gX2_24 rfl rfl ⟨hi, by show 12 + 4 * i < _; omega⟩ (by rw [zwr_k (by decide)]; exact (congrFun h12 4)) ?_
  refine zi_aload_n hO dX2_init_29 0 rfl ?_
  refine zi_iconst (v := 3) hO dX2_init_30 (by decide) ?_
  refine zk_newarr (n' := 13 + 4 * i + 1) (r := 13) (i := i) hO (zN_to hN (by omega) (by omega) (by omega)) (by omega) (by omega) dX2_init_31 (zky hi (by show _ = 13 + 4 * i; omega)) rfl h13 (by decide) (by decide) (by decide) ?_
  refine zk_putR hO hR rfl dX2_init_33 gX2_27 rfl rfl ⟨hi, by show 12 + 4 * i < _; omega⟩ ?_
  refine zi_aload_n hO dX2_init_36 0 rfl ?_
  refine zi_bipush (v := 15) hO dX2_init_37 (by decide) ?_
  refine zk_newarr (n' := 13 + 4 * i + 2) (r := 14) (i := i) hO (zN_to hN (by omega) (by omega) (by omega)) (by omega) (by omega) dX2_init_39 (zky hi (by show _ = 14 + 4 * i; omega)) rfl h14 (by decide) (by decide) (by decide) ?_
  refine zk_putR hO hR rfl dX2_init_41 gX2_31 rfl rfl ⟨hi, by show 12 + 4 * i < _; omega⟩ ?_
  refine zi_aload_n hO dX2_init_44 0 rfl ?_
  refine zi_bipush (v := 15) hO dX2_init_45 (by decide) ?_
  refine zk_newarr (n' := 13 + 4 * i + 3) (r := 15) (i := i) hO (zN_to hN (by omega) (by omega) (by omega)) (by omega) (by omega) dX2_init_47 (zky hi (by show _ = 15 + 4 * i; omega)) rfl h15 (by decide) (by decide) (by decide) ?_
  refine zk_putR hO hR rfl dX2_init_49 gX2_34 rfl rfl ⟨hi, by show 12 + 4 * i < _; omega⟩ ?_
  refine zi_aload_n hO dX2_init_52 0 rfl ?_
  refine zi_iconst (v := 0) hO dX2_init_53 (by decide) ?_
  refine zk_putI0 hO dX2_init_54 gX2_37 rfl rfl ⟨hi, by show 12 + 4 * i < _; omega⟩ (by rw [zwr_k (by decide)]; exact (congrFun h12 8)) ?_
  refine zi_aload_n hO dX2_init_57 0 rfl ?_
  refine zi_iconst (v := 0) hO dX2_init_58 (by decide) ?_
  refine zk_putI0 hO dX2_init_59 gX2_40 rfl rfl ⟨hi, by show 12 + 4 * i < _; omega⟩ (by rw [zwr_k (by decide)]; exact (congrFun h12 9)) ?_
  exact zi_vreturn hO hR rfl dX2_init_62 ⟨rfl, rfl, rfl⟩
def RX3_init (rf : zRef) : zRef := zwR (zwR (zwR (zwR (zwR (zwR (zwR (rf) 2 0 0 (3, 0)) 2 0 1 (4, 0)) 2 0 2 (5, 0)) 2 0 3 (6, 0)) 2 0 4 (7, 0)) 2 0 5 (8, 0)) 2 0 6 (9, 0)
def IX3_init (im : zMem) : zMem := zflt (zwr (im) 2 0 8 1) 3 0 384 9
set_option maxRecDepth 100000 in
set_option maxHeartbeats 4000000 in
theorem C_X3_init (l : Launch) (w : zWd) {rf : zRef} {im : zMem} (h2 : im 2 0 = fun _ => 0) (h3 : im 3 0 = fun _ => 0) (h4 : im 4 0 = fun _ => 0) (h5 : im 5 0 = fun _ => 0) (h6 : im 6 0 = fun _ => 0) (h7 : im 7 0 = fun _ => 0) (h8 : im 8 0 = fun _ => 0) (h9 : im 9 0 = fun _ => 0) : zSpecg l w 3 zyX3_init (3) rf (10) [vR 2 0] im 0 (fun _ rf' im' lv' => rf' = RX3_init rf ∧ im' = IX3_init im ∧ lv' = 0) := by
  refine zenter (by omega) (by omega) (by decide) (Nat.le_of_ble_eq_true rfl) (fun x hO hR hN => ?_)
  show zWg x w (3) rf 0 [(0, vR 2 0)] [] im 0
  refine zi_aload_n hO dX3_init_0 0 rfl ?_
  refine zi_objInit hO (by decide) dX3_init_1 oX3_3 o_i o_c (Nat.le_of_ble_eq_true rfl) ?_
  refine zi_aload_n hO dX3_init_4 0 rfl ?_
  refine zi_sipush (v := 384) hO dX3_init_5 (by decide) ?_
  refine zk_newarr (n' := 4) (r := 3) (i := 0) hO (zN_to hN (by omega) (by omega) (by omega)) (by omega) (by omega) dX3_init_8 rfl rfl h3 (by decide) (by decide) (by decide) ?_
  refine zk_putR hO hR rfl dX3_init_10 gX3_9 rfl rfl ⟨by decide, by decide⟩ ?_
  refine zi_aload_n hO dX3_init_13 0 rfl ?_
  refine zi_bipush (v := 48) hO dX3_init_14 (by decide) ?_
  refine zk_newarr (n' := 5) (r := 4) (i := 0) hO (zN_to hN (by omega) (by omega) (by omega)) (by omega) (by omega) dX3_init_16 rfl rfl h4 (by decide) (by decide) (by decide) ?_
  refine zk_putR hO hR rfl dX3_init_18 gX3_15 rfl rfl ⟨by decide, by decide⟩ ?_
  refine zi_aload_n hO dX3_init_21 0 rfl ?_
  refine zi_bipush (v := 20) hO dX3_init_22 (by decide) ?_
  refine zk_newarr (n' := 6) (r := 5) (i := 0) hO (zN_to hN (by omega) (by omega) (by omega)) (by omega) (by omega) dX3_init_24 rfl rfl h5 (by decide) (by decide) (by decide) ?_
  refine zk_putR hO hR rfl dX3_init_26 gX3_18 rfl rfl ⟨by decide, by decide⟩ ?_
  refine zi_aload_n hO dX3_init_29 0 rfl ?_
  refine zi_bipush (v := 20) hO dX3_init_30 (by decide) ?_
  refine zk_newarr (n' := 7) (r := 6) (i := 0) hO (zN_to hN (by omega) (by omega) (by omega)) (by omega) (by omega) dX3_init_32 rfl rfl h6 (by decide) (by decide) (by decide) ?_
  refine zk_putR hO hR rfl dX3_init_34 gX3_21 rfl rfl ⟨by decide, by decide⟩ ?_
  refine zi_aload_n hO dX3_init_37 0 rfl ?_
  refine zi_bipush (v := 20) hO dX3_init_38 (by decide) ?_
  refine zk_newarr (n' := 8) (r := 7) (i := 0) hO (zN_to hN (by omega) (by omega) (by omega)) (by omega) (by omega) dX3_init_40 rfl rfl h7 (by decide) (by decide) (by decide) ?_
  refine zk_putR hO hR rfl dX3_init_42 gX3_24 rfl rfl ⟨by decide, by decide⟩ ?_
  refine zi_aload_n hO dX3_init_45 0 rfl ?_
  refine zi_bipush (v := 20) hO dX3_init_46 (by decide) ?_
  refine zk_newarr (n' := 9) (r := 8) (i := 0) hO (zN_to hN (by omega) (by omega) (by omega)) (by omega) (by omega) dX3_init_48 rfl rfl h8 (by decide) (by decide) (by decide) ?_
  refine zk_putR hO hR rfl dX3_init_50 gX3_27 rfl rfl ⟨by decide, by decide⟩ ?_
  refine zi_aload_n hO dX3_init_53 0 rfl ?_
  refine zi_bipush (v := 20) hO dX3_init_54 (by decide) ?_
  refine zk_newarr (n' := 10) (r := 9) (i := 0) hO (zN_to hN (by omega) (by omega) (by omega)) (by omega) (by omega) dX3_init_56 rfl rfl h9 (by decide) (by decide) (by decide) ?_
  refine zk_putR hO hR rfl dX3_init_58 gX3_30 rfl rfl ⟨by decide, by decide⟩ ?_
  refine zi_aload_n hO dX3_init_61 0 rfl ?_
  refine zi_iconst (v := 0) hO dX3_init_62 (by decide) ?_
  refine zk_putI0 hO dX3_init_63 gX3_33 rfl rfl ⟨by decide, by decide⟩ (congrFun h2 7) ?_
  refine zi_aload_n hO dX3_init_66 0 rfl ?_
  refine zi_iconst (v := 1) hO dX3_init_67 (by decide) ?_
  refine zk_putI hO dX3_init_68 gX3_37 rfl rfl ⟨by decide, by decide⟩ ?_
  refine zi_aload_n hO dX3_init_71 0 rfl ?_
  refine zi_getR (r' := 3) (i' := 0) hO dX3_init_72 fX3_9 rfl rfl ⟨by decide, by decide⟩ rfl ?_
  refine zi_bipush (v := 9) hO dX3_init_75 (by decide) ?_
  refine zi_callS (n2 := 10) (as := [vR 3 0, vI 9]) hO (zN_to hN (by omega) (by omega) (by omega)) (by decide) dX3_init_77 kX3_40 (by decide) rfl (Nat.le_of_ble_eq_true rfl) rfl (C_fill_g _ _ _ (by decide) rfl ⟨by decide, by decide⟩ (by decide)) (fun _ _ _ _ hp => ?_)
  obtain ⟨rfl, rfl, rfl⟩ := hp
  show zWg x w 10 _ 80 [(0, vR 2 0)] [] _ _
  exact zi_vreturn hO hR rfl dX3_init_80 ⟨rfl, rfl, rfl⟩
def RX1_init (rf : zRef) : zRef := zwR (RX2_init 11 (zwR (RX2_init 10 (zwR (RX2_init 9 (zwR (RX2_init 8 (zwR (RX2_init 7 (zwR (RX2_init 6 (zwR (RX2_init 5 (zwR (RX2_init 4 (zwR (RX2_init 3 (zwR (RX2_init 2 (zwR (RX2_init 1 (zwR (RX2_init 0 (zwR (rf) 10 0 0 (11, 0))) 11 0 0 (12, 0))) 11 0 1 (12, 1))) 11 0 2 (12, 2))) 11 0 3 (12, 3))) 11 0 4 (12, 4))) 11 0 5 (12, 5))) 11 0 6 (12, 6))) 11 0 7 (12, 7))) 11 0 8 (12, 8))) 11 0 9 (12, 9))) 11 0 10 (12, 10))) 11 0 11 (12, 11)
def IX1_init (im : zMem) : zMem := IX2_init 11 (IX2_init 10 (IX2_init 9 (IX2_init 8 (IX2_init 7 (IX2_init 6 (IX2_init 5 (IX2_init 4 (IX2_init 3 (IX2_init 2 (IX2_init 1 (IX2_init 0 (im))))))))))))
set_option maxRecDepth 100000 in
set_option maxHeartbeats 4000000 in
theorem C_X1_init (l : Launch) (w : zWd) {rf : zRef} {im : zMem} (h10 : im 10 0 = fun _ => 0) (h12 : ∀ i, im 12 i = fun _ => 0) (h13 : ∀ i, im 13 i = fun _ => 0) (h14 : ∀ i, im 14 i = fun _ => 0) (h15 : ∀ i, im 15 i = fun _ => 0) (g11 : rf 11 0 = fun _ => none) (g12 : ∀ i, rf 12 i = fun _ => none) : zSpecg l w 3 zyX1_init (11) rf (60) [vR 10 0] im 0 (fun _ rf' im' lv' => rf' = RX1_init rf ∧ im' = IX1_init im ∧ lv' = 0) := by
  refine zenter (by omega) (by omega) (by decide) (Nat.le_of_ble_eq_true rfl) (fun x hO hR hN => ?_)
  show zWg x w (11) rf 0 [(0, vR 10 0)] [] im 0
  refine zi_aload_n hO dX1_init_0 0 rfl ?_
  refine zi_objInit hO (by decide) dX1_init_1 oX1_3 o_i o_c (Nat.le_of_ble_eq_true rfl) ?_
  refine zi_aload_n hO dX1_init_4 0 rfl ?_
  refine zi_bipush (v := 12) hO dX1_init_5 (by decide) ?_
  refine zk_anew (n' := 12) (r := 11) (i := 0) (t := 1) hO (zN_to hN (by omega) (by omega) (by omega)) (by omega) (by omega) dX1_init_7 hX1_9 (Or.inr ⟨rfl, rfl⟩) rfl rfl g11 (by decide) (by decide) (by decide) ?_
  refine zk_putR hO hR rfl dX1_init_10 gX1_11 rfl rfl ⟨by decide, by decide⟩ ?_
  refine zi_aload_n hO dX1_init_13 0 rfl ?_
  refine zi_iconst (v := 0) hO dX1_init_14 (by decide) ?_
  refine zk_putI0 hO dX1_init_15 gX1_17 rfl rfl ⟨by decide, by decide⟩ (congrFun h10 1) ?_
  refine zi_iconst (v := 0) hO dX1_init_18 (by decide) ?_
  refine zi_istore_n (L' := [(0, vR 10 0), (1, vI 0)]) hO dX1_init_19 (by decide) rfl rfl ?_
  refine zi_iload_n hO dX1_init_20 1 rfl ?_
  refine zi_bipush (v := 12) hO dX1_init_21 (by decide) ?_
  refine zi_icmp_ge (tgt := 45) hO dX1_init_23 (by decide) (fun c => absurd c (by decide)) (fun _ => ?_)
  refine zi_aload_n hO dX1_init_26 0 rfl ?_
  refine zi_getR (r' := 11) (i' := 0) hO dX1_init_27 fX1_11 rfl rfl ⟨by decide, by decide⟩ rfl ?_
  refine zi_iload_n hO dX1_init_30 1 rfl ?_
  refine zk_new (n' := 13) (ci := 2) (r := 12) (i := 0) hO (zN_to hN (by omega) (by omega) (by omega)) (by omega) (by omega) dX1_init_31 hX1_9 rfl rfl rfl (h12 0) (g12 0) rfl (by decide) (by decide) ?_
  refine zi_dup hO dX1_init_34 rfl ?_
  refine zi_callIN (n2 := 16) (as := []) hO (zN_to hN (by omega) (by omega) (by omega)) (by decide) dX1_init_35 kX1_21 ksX1_21 rfl rfl (by decide) rfl (Nat.le_of_ble_eq_true rfl) rfl (C_X2_init _ _ (i := 0) (by decide) (h12 0) (h13 0) (h14 0) (h15 0)) (fun _ _ _ _ hp => ?_)
  obtain ⟨rfl, rfl, rfl⟩ := hp
  refine zk_aast (t := 1) (k := 0) hO dX1_init_38 rfl ⟨by decide, by decide⟩ (vp_in_nI (n := 0) (by decide) (by decide)) (by decide) rfl ⟨by decide, by decide⟩ rfl ?_
  refine zi_iinc (v' := 1) (L' := [(0, vR 10 0), (1, vI 1)]) hO dX1_init_39 1 rfl (by decide) (by decide) rfl rfl ?_
  refine zi_goto (tgt := 20) hO dX1_init_42 (by decide) ?_
  refine zi_iload_n hO dX1_init_20 1 rfl ?_
  refine zi_bipush (v := 12) hO dX1_init_21 (by decide) ?_
  refine zi_icmp_ge (tgt := 45) hO dX1_init_23 (by decide) (fun c => absurd c (by decide)) (fun _ => ?_)
  refine zi_aload_n hO dX1_init_26 0 rfl ?_
  refine zi_getR (r' := 11) (i' := 0) hO dX1_init_27 fX1_11 rfl rfl ⟨by decide, by decide⟩ rfl ?_
  refine zi_iload_n hO dX1_init_30 1 rfl ?_
  refine zk_new (n' := 17) (ci := 2) (r := 12) (i := 1) hO (zN_to hN (by omega) (by omega) (by omega)) (by omega) (by omega) dX1_init_31 hX1_9 rfl rfl rfl (h12 1) (g12 1) rfl (by decide) (by decide) ?_
  refine zi_dup hO dX1_init_34 rfl ?_
  refine zi_callIN (n2 := 20) (as := []) hO (zN_to hN (by omega) (by omega) (by omega)) (by decide) dX1_init_35 kX1_21 ksX1_21 rfl rfl (by decide) rfl (Nat.le_of_ble_eq_true rfl) rfl (C_X2_init _ _ (i := 1) (by decide) (h12 1) (h13 1) (h14 1) (h15 1)) (fun _ _ _ _ hp => ?_)
  obtain ⟨rfl, rfl, rfl⟩ := hp
  refine zk_aast (t := 1) (k := 1) hO dX1_init_38 rfl ⟨by decide, by decide⟩ (vp_in_nI (n := 1) (by decide) (by decide)) (by decide) rfl ⟨by decide, by decide⟩ rfl ?_
  refine zi_iinc (v' := 2) (L' := [(0, vR 10 0), (1, vI 2)]) hO dX1_init_39 1 rfl (by decide) (by decide) rfl rfl ?_
  refine zi_goto (tgt := 20) hO dX1_init_42 (by decide) ?_
  refine zi_iload_n hO dX1_init_20 1 rfl ?_
  refine zi_bipush (v := 12) hO dX1_init_21 (by decide) ?_
  refine zi_icmp_ge (tgt := 45) hO dX1_init_23 (by decide) (fun c => absurd c (by decide)) (fun _ => ?_)
  refine zi_aload_n hO dX1_init_26 0 rfl ?_
  refine zi_getR (r' := 11) (i' := 0) hO dX1_init_27 fX1_11 rfl rfl ⟨by decide, by decide⟩ rfl ?_
  refine zi_iload_n hO dX1_init_30 1 rfl ?_
  refine zk_new (n' := 21) (ci := 2) (r := 12) (i := 2) hO (zN_to hN (by omega) (by omega) (by omega)) (by omega) (by omega) dX1_init_31 hX1_9 rfl rfl rfl (h12 2) (g12 2) rfl (by decide) (by decide) ?_
  refine zi_dup hO dX1_init_34 rfl ?_
  refine zi_callIN (n2 := 24) (as := []) hO (zN_to hN (by omega) (by omega) (by omega)) (by decide) dX1_init_35 kX1_21 ksX1_21 rfl rfl (by decide) rfl (Nat.le_of_ble_eq_true rfl) rfl (C_X2_init _ _ (i := 2) (by decide) (h12 2) (h13 2) (h14 2) (h15 2)) (fun _ _ _ _ hp => ?_)
  obtain ⟨rfl, rfl, rfl⟩ := hp
  refine zk_aast (t := 1) (k := 2) hO dX1_init_38 rfl ⟨by decide, by decide⟩ (vp_in_nI (n := 2) (by decide) (by decide)) (by decide) rfl ⟨by decide, by decide⟩ rfl ?_
  refine zi_iinc (v' := 3) (L' := [(0, vR 10 0), (1, vI 3)]) hO dX1_init_39 1 rfl (by decide) (by decide) rfl rfl ?_
  refine zi_goto (tgt := 20) hO dX1_init_42 (by decide) ?_
  refine zi_iload_n hO dX1_init_20 1 rfl ?_
  refine zi_bipush (v := 12) hO dX1_init_21 (by decide) ?_
  refine zi_icmp_ge (tgt := 45) hO dX1_init_23 (by decide) (fun c => absurd c (by decide)) (fun _ => ?_)
  refine zi_aload_n hO dX1_init_26 0 rfl ?_
  refine zi_getR (r' := 11) (i' := 0) hO dX1_init_27 fX1_11 rfl rfl ⟨by decide, by decide⟩ rfl ?_
  refine zi_iload_n hO dX1_init_30 1 rfl ?_
  refine zk_new (n' := 25) (ci := 2) (r := 12) (i := 3) hO (zN_to hN (by omega) (by omega) (by omega)) (by omega) (by omega) dX1_init_31 hX1_9 rfl rfl rfl (h12 3) (g12 3) rfl (by decide) (by decide) ?_
  refine zi_dup hO dX1_init_34 rfl ?_
  refine zi_callIN (n2 := 28) (as := []) hO (zN_to hN (by omega) (by omega) (by omega)) (by decide) dX1_init_35 kX1_21 ksX1_21 rfl rfl (by decide) rfl (Nat.le_of_ble_eq_true rfl) rfl (C_X2_init _ _ (i := 3) (by decide) (h12 3) (h13 3) (h14 3) (h15 3)) (fun _ _ _ _ hp => ?_)
  obtain ⟨rfl, rfl, rfl⟩ := hp
  refine zk_aast (t := 1) (k := 3) hO dX1_init_38 rfl ⟨by decide, by decide⟩ (vp_in_nI (n := 3) (by decide) (by decide)) (by decide) rfl ⟨by decide, by decide⟩ rfl ?_
  refine zi_iinc (v' := 4) (L' := [(0, vR 10 0), (1, vI 4)]) hO dX1_init_39 1 rfl (by decide) (by decide) rfl rfl ?_
  refine zi_goto (tgt := 20) hO dX1_init_42 (by decide) ?_
  refine zi_iload_n hO dX1_init_20 1 rfl ?_
  refine zi_bipush (v := 12) hO dX1_init_21 (by decide) ?_
  refine zi_icmp_ge (tgt := 45) hO dX1_init_23 (by decide) (fun c => absurd c (by decide)) (fun _ => ?_)
  refine zi_aload_n hO dX1_init_26 0 rfl ?_
  refine zi_getR (r' := 11) (i' := 0) hO dX1_init_27 fX1_11 rfl rfl ⟨by decide, by decide⟩ rfl ?_
  refine zi_iload_n hO dX1_init_30 1 rfl ?_
  refine zk_new (n' := 29) (ci := 2) (r := 12) (i := 4) hO (zN_to hN (by omega) (by omega) (by omega)) (by omega) (by omega) dX1_init_31 hX1_9 rfl rfl rfl (h12 4) (g12 4) rfl (by decide) (by decide) ?_
  refine zi_dup hO dX1_init_34 rfl ?_
  refine zi_callIN (n2 := 32) (as := []) hO (zN_to hN (by omega) (by omega) (by omega)) (by decide) dX1_init_35 kX1_21 ksX1_21 rfl rfl (by decide) rfl (Nat.le_of_ble_eq_true rfl) rfl (C_X2_init _ _ (i := 4) (by decide) (h12 4) (h13 4) (h14 4) (h15 4)) (fun _ _ _ _ hp => ?_)
  obtain ⟨rfl, rfl, rfl⟩ := hp
  refine zk_aast (t := 1) (k := 4) hO dX1_init_38 rfl ⟨by decide, by decide⟩ (vp_in_nI (n := 4) (by decide) (by decide)) (by decide) rfl ⟨by decide, by decide⟩ rfl ?_
  refine zi_iinc (v' := 5) (L' := [(0, vR 10 0), (1, vI 5)]) hO dX1_init_39 1 rfl (by decide) (by decide) rfl rfl ?_
  refine zi_goto (tgt := 20) hO dX1_init_42 (by decide) ?_
  refine zi_iload_n hO dX1_init_20 1 rfl ?_
  refine zi_bipush (v := 12) hO dX1_init_21 (by decide) ?_
  refine zi_icmp_ge (tgt := 45) hO dX1_init_23 (by decide) (fun c => absurd c (by decide)) (fun _ => ?_)
  refine zi_aload_n hO dX1_init_26 0 rfl ?_
  refine zi_getR (r' := 11) (i' := 0) hO dX1_init_27 fX1_11 rfl rfl ⟨by decide, by decide⟩ rfl ?_
  refine zi_iload_n hO dX1_init_30 1 rfl ?_
  refine zk_new (n' := 33) (ci := 2) (r := 12) (i := 5) hO (zN_to hN (by omega) (by omega) (by omega)) (by omega) (by omega) dX1_init_31 hX1_9 rfl rfl rfl (h12 5) (g12 5) rfl (by decide) (by decide) ?_
  refine zi_dup hO dX1_init_34 rfl ?_
  refine zi_callIN (n2 := 36) (as := []) hO (zN_to hN (by omega) (by omega) (by omega)) (by decide) dX1_init_35 kX1_21 ksX1_21 rfl rfl (by decide) rfl (Nat.le_of_ble_eq_true rfl) rfl (C_X2_init _ _ (i := 5) (by decide) (h12 5) (h13 5) (h14 5) (h15 5)) (fun _ _ _ _ hp => ?_)
  obtain ⟨rfl, rfl, rfl⟩ := hp
  refine zk_aast (t := 1) (k := 5) hO dX1_init_38 rfl ⟨by decide, by decide⟩ (vp_in_nI (n := 5) (by decide) (by decide)) (by decide) rfl ⟨by decide, by decide⟩ rfl ?_
  refine zi_iinc (v' := 6) (L' := [(0, vR 10 0), (1, vI 6)]) hO dX1_init_39 1 rfl (by decide) (by decide) rfl rfl ?_
  refine zi_goto (tgt := 20) hO dX1_init_42 (by decide) ?_
  refine zi_iload_n hO dX1_init_20 1 rfl ?_
  refine zi_bipush (v := 12) hO dX1_init_21 (by decide) ?_
  refine zi_icmp_ge (tgt := 45) hO dX1_init_23 (by decide) (fun c => absurd c (by decide)) (fun _ => ?_)
  refine zi_aload_n hO dX1_init_26 0 rfl ?_
  refine zi_getR (r' := 11) (i' := 0) hO dX1_init_27 fX1_11 rfl rfl ⟨by decide, by decide⟩ rfl ?_
  refine zi_iload_n hO dX1_init_30 1 rfl ?_
  refine zk_new (n' := 37) (ci := 2) (r := 12) (i := 6) hO (zN_to hN (by omega) (by omega) (by omega)) (by omega) (by omega) dX1_init_31 hX1_9 rfl rfl rfl (h12 6) (g12 6) rfl (by decide) (by decide) ?_
  refine zi_dup hO dX1_init_34 rfl ?_
  refine zi_callIN (n2 := 40) (as := []) hO (zN_to hN (by omega) (by omega) (by omega)) (by decide) dX1_init_35 kX1_21 ksX1_21 rfl rfl (by decide) rfl (Nat.le_of_ble_eq_true rfl) rfl (C_X2_init _ _ (i := 6) (by decide) (h12 6) (h13 6) (h14 6) (h15 6)) (fun _ _ _ _ hp => ?_)
  obtain ⟨rfl, rfl, rfl⟩ := hp
  refine zk_aast (t := 1) (k := 6) hO dX1_init_38 rfl ⟨by decide, by decide⟩ (vp_in_nI (n := 6) (by decide) (by decide)) (by decide) rfl ⟨by decide, by decide⟩ rfl ?_
  refine zi_iinc (v' := 7) (L' := [(0, vR 10 0), (1, vI 7)]) hO dX1_init_39 1 rfl (by decide) (by decide) rfl rfl ?_
  refine zi_goto (tgt := 20) hO dX1_init_42 (by decide) ?_
  refine zi_iload_n hO dX1_init_20 1 rfl ?_
  refine zi_bipush (v := 12) hO dX1_init_21 (by decide) ?_
  refine zi_icmp_ge (tgt := 45) hO dX1_init_23 (by decide) (fun c => absurd c (by decide)) (fun _ => ?_)
  refine zi_aload_n hO dX1_init_26 0 rfl ?_
  refine zi_getR (r' := 11) (i' := 0) hO dX1_init_27 fX1_11 rfl rfl ⟨by decide, by decide⟩ rfl ?_
  refine zi_iload_n hO dX1_init_30 1 rfl ?_
  refine zk_new (n' := 41) (ci := 2) (r := 12) (i := 7) hO (zN_to hN (by omega) (by omega) (by omega)) (by omega) (by omega) dX1_init_31 hX1_9 rfl rfl rfl (h12 7) (g12 7) rfl (by decide) (by decide) ?_
  refine zi_dup hO dX1_init_34 rfl ?_
  refine zi_callIN (n2 := 44) (as := []) hO (zN_to hN (by omega) (by omega) (by omega)) (by decide) dX1_init_35 kX1_21 ksX1_21 rfl rfl (by decide) rfl (Nat.le_of_ble_eq_true rfl) rfl (C_X2_init _ _ (i := 7) (by decide) (h12 7) (h13 7) (h14 7) (h15 7)) (fun _ _ _ _ hp => ?_)
  obtain ⟨rfl, rfl, rfl⟩ := hp
  refine zk_aast (t := 1) (k := 7) hO dX1_init_38 rfl ⟨by decide, by decide⟩ (vp_in_nI (n := 7) (by decide) (by decide)) (by decide) rfl ⟨by decide, by decide⟩ rfl ?_
  refine zi_iinc (v' := 8) (L' := [(0, vR 10 0), (1, vI 8)]) hO dX1_init_39 1 rfl (by decide) (by decide) rfl rfl ?_
  refine zi_goto (tgt := 20) hO dX1_init_42 (by decide) ?_
  refine zi_iload_n hO dX1_init_20 1 rfl ?_
  refine zi_bipush (v := 12) hO dX1_init_21 (by decide) ?_
  refine zi_icmp_ge (tgt := 45) hO dX1_init_23 (by decide) (fun c => absurd c (by decide)) (fun _ => ?_)
  refine zi_aload_n hO dX1_init_26 0 rfl ?_
  refine zi_getR (r' := 11) (i' := 0) hO dX1_init_27 fX1_11 rfl rfl ⟨by decide, by decide⟩ rfl ?_
  refine zi_iload_n hO dX1_init_30 1 rfl ?_
  refine zk_new (n' := 45) (ci := 2) (r := 12) (i := 8) hO (zN_to hN (by omega) (by omega) (by omega)) (by omega) (by omega) dX1_init_31 hX1_9 rfl rfl rfl (h12 8) (g12 8) rfl (by decide) (by decide) ?_
  refine zi_dup hO dX1_init_34 rfl ?_
  refine zi_callIN (n2 := 48) (as := []) hO (zN_to hN (by omega) (by omega) (by omega)) (by decide) dX1_init_35 kX1_21 ksX1_21 rfl rfl (by decide) rfl (Nat.le_of_ble_eq_true rfl) rfl (C_X2_init _ _ (i := 8) (by decide) (h12 8) (h13 8) (h14 8) (h15 8)) (fun _ _ _ _ hp => ?_)
  obtain ⟨rfl, rfl, rfl⟩ := hp
  refine zk_aast (t := 1) (k := 8) hO dX1_init_38 rfl ⟨by decide, by decide⟩ (vp_in_nI (n := 8) (by decide) (by decide)) (by decide) rfl ⟨by decide, by decide⟩ rfl ?_
  refine zi_iinc (v' := 9) (L' := [(0, vR 10 0), (1, vI 9)]) hO dX1_init_39 1 rfl (by decide) (by decide) rfl rfl ?_
  refine zi_goto (tgt := 20) hO dX1_init_42 (by decide) ?_
  refine zi_iload_n hO dX1_init_20 1 rfl ?_
  refine zi_bipush (v := 12) hO dX1_init_21 (by decide) ?_
  refine zi_icmp_ge (tgt := 45) hO dX1_init_23 (by decide) (fun c => absurd c (by decide)) (fun _ => ?_)
  refine zi_aload_n hO dX1_init_26 0 rfl ?_
  refine zi_getR (r' := 11) (i' := 0) hO dX1_init_27 fX1_11 rfl rfl ⟨by decide, by decide⟩ rfl ?_
  refine zi_iload_n hO dX1_init_30 1 rfl ?_
  refine zk_new (n' := 49) (ci := 2) (r := 12) (i := 9) hO (zN_to hN (by omega) (by omega) (by omega)) (by omega) (by omega) dX1_init_31 hX1_9 rfl rfl rfl (h12 9) (g12 9) rfl (by decide) (by decide) ?_
  refine zi_dup hO dX1_init_34 rfl ?_
  refine zi_callIN (n2 := 52) (as := []) hO (zN_to hN (by omega) (by omega) (by omega)) (by decide) dX1_init_35 kX1_21 ksX1_21 rfl rfl (by decide) rfl (Nat.le_of_ble_eq_true rfl) rfl (C_X2_init _ _ (i := 9) (by decide) (h12 9) (h13 9) (h14 9) (h15 9)) (fun _ _ _ _ hp => ?_)
  obtain ⟨rfl, rfl, rfl⟩ := hp
  refine zk_aast (t := 1) (k := 9) hO dX1_init_38 rfl ⟨by decide, by decide⟩ (vp_in_nI (n := 9) (by decide) (by decide)) (by decide) rfl ⟨by decide, by decide⟩ rfl ?_
  refine zi_iinc (v' := 10) (L' := [(0, vR 10 0), (1, vI 10)]) hO dX1_init_39 1 rfl (by decide) (by decide) rfl rfl ?_
  refine zi_goto (tgt := 20) hO dX1_init_42 (by decide) ?_
  refine zi_iload_n hO dX1_init_20 1 rfl ?_
  refine zi_bipush (v := 12) hO dX1_init_21 (by decide) ?_
  refine zi_icmp_ge (tgt := 45) hO dX1_init_23 (by decide) (fun c => absurd c (by decide)) (fun _ => ?_)
  refine zi_aload_n hO dX1_init_26 0 rfl ?_
  refine zi_getR (r' := 11) (i' := 0) hO dX1_init_27 fX1_11 rfl rfl ⟨by decide, by decide⟩ rfl ?_
  refine zi_iload_n hO dX1_init_30 1 rfl ?_
  refine zk_new (n' := 53) (ci := 2) (r := 12) (i := 10) hO (zN_to hN (by omega) (by omega) (by omega)) (by omega) (by omega) dX1_init_31 hX1_9 rfl rfl rfl (h12 10) (g12 10) rfl (by decide) (by decide) ?_
  refine zi_dup hO dX1_init_34 rfl ?_
  refine zi_callIN (n2 := 56) (as := []) hO (zN_to hN (by omega) (by omega) (by omega)) (by decide) dX1_init_35 kX1_21 ksX1_21 rfl rfl (by decide) rfl (Nat.le_of_ble_eq_true rfl) rfl (C_X2_init _ _ (i := 10) (by decide) (h12 10) (h13 10) (h14 10) (h15 10)) (fun _ _ _ _ hp => ?_)
  obtain ⟨rfl, rfl, rfl⟩ := hp
  refine zk_aast (t := 1) (k := 10) hO dX1_init_38 rfl ⟨by decide, by decide⟩ (vp_in_nI (n := 10) (by decide) (by decide)) (by decide) rfl ⟨by decide, by decide⟩ rfl ?_
  refine zi_iinc (v' := 11) (L' := [(0, vR 10 0), (1, vI 11)]) hO dX1_init_39 1 rfl (by decide) (by decide) rfl rfl ?_
  refine zi_goto (tgt := 20) hO dX1_init_42 (by decide) ?_
  refine zi_iload_n hO dX1_init_20 1 rfl ?_
  refine zi_bipush (v := 12) hO dX1_init_21 (by decide) ?_
  refine zi_icmp_ge (tgt := 45) hO dX1_init_23 (by decide) (fun c => absurd c (by decide)) (fun _ => ?_)
  refine zi_aload_n hO dX1_init_26 0 rfl ?_
  refine zi_getR (r' := 11) (i' := 0) hO dX1_init_27 fX1_11 rfl rfl ⟨by decide, by decide⟩ rfl ?_
  refine zi_iload_n hO dX1_init_30 1 rfl ?_
  refine zk_new (n' := 57) (ci := 2) (r := 12) (i := 11) hO (zN_to hN (by omega) (by omega) (by omega)) (by omega) (by omega) dX1_init_31 hX1_9 rfl rfl rfl (h12 11) (g12 11) rfl (by decide) (by decide) ?_
  refine zi_dup hO dX1_init_34 rfl ?_
  refine zi_callIN (n2 := 60) (as := []) hO (zN_to hN (by omega) (by omega) (by omega)) (by decide) dX1_init_35 kX1_21 ksX1_21 rfl rfl (by decide) rfl (Nat.le_of_ble_eq_true rfl) rfl (C_X2_init _ _ (i := 11) (by decide) (h12 11) (h13 11) (h14 11) (h15 11)) (fun _ _ _ _ hp => ?_)
  obtain ⟨rfl, rfl, rfl⟩ := hp
  refine zk_aast (t := 1) (k := 11) hO dX1_init_38 rfl ⟨by decide, by decide⟩ (vp_in_nI (n := 11) (by decide) (by decide)) (by decide) rfl ⟨by decide, by decide⟩ rfl ?_
  refine zi_iinc (v' := 12) (L' := [(0, vR 10 0), (1, vI 12)]) hO dX1_init_39 1 rfl (by decide) (by decide) rfl rfl ?_
  refine zi_goto (tgt := 20) hO dX1_init_42 (by decide) ?_
  refine zi_iload_n hO dX1_init_20 1 rfl ?_
  refine zi_bipush (v := 12) hO dX1_init_21 (by decide) ?_
  refine zi_icmp_ge (tgt := 45) hO dX1_init_23 (by decide) (fun _ => ?_) (fun c => absurd (by decide) c)
  exact zi_vreturn hO hR rfl dX1_init_45 ⟨rfl, rfl, rfl⟩
def RX10_init (rf : zRef) : zRef := zwR (rf) 16 0 0 (17, 0)
set_option maxRecDepth 100000 in
set_option maxHeartbeats 4000000 in
theorem C_X10_init (l : Launch) (w : zWd) {rf : zRef} {im : zMem} (h16 : im 16 0 = fun _ => 0) (h17 : im 17 0 = fun _ => 0) : zSpecg l w 3 zyX10_init (61) rf (62) [vR 16 0] im 0 (fun _ rf' im' lv' => rf' = RX10_init rf ∧ im' = im ∧ lv' = 0) := by
  refine zenter (by omega) (by omega) (by decide) (Nat.le_of_ble_eq_true rfl) (fun x hO hR hN => ?_)
  show zWg x w (61) rf 0 [(0, vR 16 0)] [] im 0
  refine zi_aload_n hO dX10_init_0 0 rfl ?_
  refine zi_objInit hO (by decide) dX10_init_1 oX10_3 o_i o_c (Nat.le_of_ble_eq_true rfl) ?_
  refine zi_aload_n hO dX10_init_4 0 rfl ?_
  refine zi_sipush (v := 500) hO dX10_init_5 (by decide) ?_
  refine zk_newarr (n' := 62) (r := 17) (i := 0) hO (zN_to hN (by omega) (by omega) (by omega)) (by omega) (by omega) dX10_init_8 rfl rfl h17 (by decide) (by decide) (by decide) ?_
  refine zk_putR hO hR rfl dX10_init_10 gX10_9 rfl rfl ⟨by decide, by decide⟩ ?_
  refine zi_aload_n hO dX10_init_13 0 rfl ?_
  refine zi_iconst (v := 0) hO dX10_init_14 (by decide) ?_
  refine zk_putI0 hO dX10_init_15 gX10_15 rfl rfl ⟨by decide, by decide⟩ (congrFun h16 1) ?_
  refine zi_aload_n hO dX10_init_18 0 rfl ?_
  refine zi_iconst (v := 0) hO dX10_init_19 (by decide) ?_
  refine zk_putI0 hO dX10_init_20 gX10_19 rfl rfl ⟨by decide, by decide⟩ (congrFun h16 2) ?_
  refine zi_aload_n hO dX10_init_23 0 rfl ?_
  refine zi_iconst (v := 0) hO dX10_init_24 (by decide) ?_
  refine zk_putI0 hO dX10_init_25 gX10_22 rfl rfl ⟨by decide, by decide⟩ (congrFun h16 3) ?_
  refine zi_aload_n hO dX10_init_28 0 rfl ?_
  refine zi_iconst (v := 0) hO dX10_init_29 (by decide) ?_
  refine zk_putI0 hO dX10_init_30 gX10_25 rfl rfl ⟨by decide, by decide⟩ (congrFun h16 4) ?_
  refine zi_aload_n hO dX10_init_33 0 rfl ?_
  refine zi_lconst (v := 0) hO dX10_init_34 (by decide) ?_
  refine zi_putL hO dX10_init_35 gX10_28 rfl ⟨by decide, by decide⟩ ?_
  exact zi_vreturn hO hR rfl dX10_init_38 ⟨rfl, rfl, rfl⟩
def RX5_init (rf : zRef) : zRef := zwR (zwR (zwR (zwR (rf) 18 0 3 (19, 0)) 18 0 0 (16, 0)) 18 0 1 (2, 0)) 18 0 2 (10, 0)
set_option maxRecDepth 100000 in
set_option maxHeartbeats 4000000 in
theorem C_X5_init (l : Launch) (w : zWd) {rf : zRef} {im : zMem} (h18 : im 18 0 = fun _ => 0) (h19 : im 19 0 = fun _ => 0) : zSpecg l w 3 zyX5_init (63) rf (64) [vR 18 0, vR 16 0, vR 2 0, vR 10 0] im 0 (fun _ rf' im' lv' => rf' = RX5_init rf ∧ im' = im ∧ lv' = 0) := by
  refine zenter (by omega) (by omega) (by decide) (Nat.le_of_ble_eq_true rfl) (fun x hO hR hN => ?_)
  show zWg x w (63) rf 0 [(0, vR 18 0), (1, vR 16 0), (2, vR 2 0), (3, vR 10 0)] [] im 0
  refine zi_aload_n hO dX5_init_0 0 rfl ?_
  refine zi_objInit hO (by decide) dX5_init_1 oX5_3 o_i o_c (Nat.le_of_ble_eq_true rfl) ?_
  refine zi_aload_n hO dX5_init_4 0 rfl ?_
  refine zi_bipush (v := 8) hO dX5_init_5 (by decide) ?_
  refine zk_newarr (n' := 64) (r := 19) (i := 0) hO (zN_to hN (by omega) (by omega) (by omega)) (by omega) (by omega) dX5_init_7 rfl rfl h19 (by decide) (by decide) (by decide) ?_
  refine zk_putR hO hR rfl dX5_init_9 gX5_9 rfl rfl ⟨by decide, by decide⟩ ?_
  refine zi_aload_n hO dX5_init_12 0 rfl ?_
  refine zi_iconst (v := 0) hO dX5_init_13 (by decide) ?_
  refine zk_putI0 hO dX5_init_14 gX5_15 rfl rfl ⟨by decide, by decide⟩ (congrFun h18 4) ?_
  refine zi_aload_n hO dX5_init_17 0 rfl ?_
  refine zi_iconst (v := 0) hO dX5_init_18 (by decide) ?_
  refine zk_putI0 hO dX5_init_19 gX5_19 rfl rfl ⟨by decide, by decide⟩ (congrFun h18 5) ?_
  refine zi_aload_n hO dX5_init_22 0 rfl ?_
  refine zi_iconst (v := 0) hO dX5_init_23 (by decide) ?_
  refine zk_putI0 hO dX5_init_24 gX5_22 rfl rfl ⟨by decide, by decide⟩ (congrFun h18 6) ?_
  refine zi_aload_n hO dX5_init_27 0 rfl ?_
  refine zi_iconst (v := 0) hO dX5_init_28 (by decide) ?_
  refine zk_putI0 hO dX5_init_29 gX5_25 rfl rfl ⟨by decide, by decide⟩ (congrFun h18 7) ?_
  refine zi_aload_n hO dX5_init_32 0 rfl ?_
  refine zi_aload_n hO dX5_init_33 1 rfl ?_
  refine zk_putR hO hR rfl dX5_init_34 gX5_28 rfl rfl ⟨by decide, by decide⟩ ?_
  refine zi_aload_n hO dX5_init_37 0 rfl ?_
  refine zi_aload_n hO dX5_init_38 2 rfl ?_
  refine zk_putR hO hR rfl dX5_init_39 gX5_32 rfl rfl ⟨by decide, by decide⟩ ?_
  refine zi_aload_n hO dX5_init_42 0 rfl ?_
  refine zi_aload_n hO dX5_init_43 3 rfl ?_
  refine zk_putR hO hR rfl dX5_init_44 gX5_36 rfl rfl ⟨by decide, by decide⟩ ?_
  exact zi_vreturn hO hR rfl dX5_init_47 ⟨rfl, rfl, rfl⟩
def RX8_init (rf : zRef) : zRef := zwR (zwR (zwR (zwR (zwR (rf) 20 0 2 (21, 0)) 20 0 3 (22, 0)) 20 0 4 (23, 0)) 20 0 0 (2, 0)) 20 0 1 (10, 0)
set_option maxRecDepth 100000 in
set_option maxHeartbeats 4000000 in
theorem C_X8_init (l : Launch) (w : zWd) {rf : zRef} {im : zMem} (h21 : im 21 0 = fun _ => 0) (h22 : im 22 0 = fun _ => 0) (h23 : im 23 0 = fun _ => 0) : zSpecg l w 3 zyX8_init (65) rf (68) [vR 20 0, vR 2 0, vR 10 0] im 0 (fun _ rf' im' lv' => rf' = RX8_init rf ∧ im' = im ∧ lv' = 0) := by
  refine zenter (by omega) (by omega) (by decide) (Nat.le_of_ble_eq_true rfl) (fun x hO hR hN => ?_)
  show zWg x w (65) rf 0 [(0, vR 20 0), (1, vR 2 0), (2, vR 10 0)] [] im 0
  refine zi_aload_n hO dX8_init_0 0 rfl ?_
  refine zi_objInit hO (by decide) dX8_init_1 oX8_3 o_i o_c (Nat.le_of_ble_eq_true rfl) ?_
  refine zi_aload_n hO dX8_init_4 0 rfl ?_
  refine zi_sipush (v := 384) hO dX8_init_5 (by decide) ?_
  refine zk_newarr (n' := 66) (r := 21) (i := 0) hO (zN_to hN (by omega) (by omega) (by omega)) (by omega) (by omega) dX8_init_8 rfl rfl h21 (by decide) (by decide) (by decide) ?_
  refine zk_putR hO hR rfl dX8_init_10 gX8_9 rfl rfl ⟨by decide, by decide⟩ ?_
  refine zi_aload_n hO dX8_init_13 0 rfl ?_
  refine zi_sipush (v := 384) hO dX8_init_14 (by decide) ?_
  refine zk_newarr (n' := 67) (r := 22) (i := 0) hO (zN_to hN (by omega) (by omega) (by omega)) (by omega) (by omega) dX8_init_17 rfl rfl h22 (by decide) (by decide) (by decide) ?_
  refine zk_putR hO hR rfl dX8_init_19 gX8_15 rfl rfl ⟨by decide, by decide⟩ ?_
  refine zi_aload_n hO dX8_init_22 0 rfl ?_
  refine zi_bipush (v := 20) hO dX8_init_23 (by decide) ?_
  refine zk_newarr (n' := 68) (r := 23) (i := 0) hO (zN_to hN (by omega) (by omega) (by omega)) (by omega) (by omega) dX8_init_25 rfl rfl h23 (by decide) (by decide) (by decide) ?_
  refine zk_putR hO hR rfl dX8_init_27 gX8_18 rfl rfl ⟨by decide, by decide⟩ ?_
  refine zi_aload_n hO dX8_init_30 0 rfl ?_
  refine zi_aload_n hO dX8_init_31 1 rfl ?_
  refine zk_putR hO hR rfl dX8_init_32 gX8_21 rfl rfl ⟨by decide, by decide⟩ ?_
  refine zi_aload_n hO dX8_init_35 0 rfl ?_
  refine zi_aload_n hO dX8_init_36 2 rfl ?_
  refine zk_putR hO hR rfl dX8_init_37 gX8_25 rfl rfl ⟨by decide, by decide⟩ ?_
  exact zi_vreturn hO hR rfl dX8_init_40 ⟨rfl, rfl, rfl⟩
def RX9_init (rf : zRef) : zRef := zwR (zwR (zwR (zwR (zwR (zwR (rf) 24 0 2 (25, 0)) 24 0 3 (26, 0)) 24 0 4 (27, 0)) 24 0 5 (28, 0)) 24 0 0 (2, 0)) 24 0 1 (20, 0)
set_option maxRecDepth 100000 in
set_option maxHeartbeats 4000000 in
theorem C_X9_init (l : Launch) (w : zWd) {rf : zRef} {im : zMem} (h24 : im 24 0 = fun _ => 0) (h25 : im 25 0 = fun _ => 0) (h26 : im 26 0 = fun _ => 0) (h27 : im 27 0 = fun _ => 0) (h28 : im 28 0 = fun _ => 0) : zSpecg l w 3 zyX9_init (69) rf (73) [vR 24 0, vR 2 0, vR 20 0] im 0 (fun _ rf' im' lv' => rf' = RX9_init rf ∧ im' = im ∧ lv' = 0) := by
  refine zenter (by omega) (by omega) (by decide) (Nat.le_of_ble_eq_true rfl) (fun x hO hR hN => ?_)
  show zWg x w (69) rf 0 [(0, vR 24 0), (1, vR 2 0), (2, vR 20 0)] [] im 0
  refine zi_aload_n hO dX9_init_0 0 rfl ?_
  refine zi_objInit hO (by decide) dX9_init_1 oX9_5 o_i o_c (Nat.le_of_ble_eq_true rfl) ?_
  refine zi_aload_n hO dX9_init_4 0 rfl ?_
  refine zi_sipush (v := 3072) hO dX9_init_5 (by decide) ?_
  refine zk_newarr (n' := 70) (r := 25) (i := 0) hO (zN_to hN (by omega) (by omega) (by omega)) (by omega) (by omega) dX9_init_8 rfl rfl h25 (by decide) (by decide) (by decide) ?_
  refine zk_putR hO hR rfl dX9_init_10 gX9_11 rfl rfl ⟨by decide, by decide⟩ ?_
  refine zi_aload_n hO dX9_init_13 0 rfl ?_
  refine zi_bipush (v := 64) hO dX9_init_14 (by decide) ?_
  refine zk_newarr (n' := 71) (r := 26) (i := 0) hO (zN_to hN (by omega) (by omega) (by omega)) (by omega) (by omega) dX9_init_16 rfl rfl h26 (by decide) (by decide) (by decide) ?_
  refine zk_putR hO hR rfl dX9_init_18 gX9_15 rfl rfl ⟨by decide, by decide⟩ ?_
  refine zi_aload_n hO dX9_init_21 0 rfl ?_
  refine zi_bipush (v := 64) hO dX9_init_22 (by decide) ?_
  refine zk_newarr (n' := 72) (r := 27) (i := 0) hO (zN_to hN (by omega) (by omega) (by omega)) (by omega) (by omega) dX9_init_24 rfl rfl h27 (by decide) (by decide) (by decide) ?_
  refine zk_putR hO hR rfl dX9_init_26 gX9_18 rfl rfl ⟨by decide, by decide⟩ ?_
  refine zi_aload_n hO dX9_init_29 0 rfl ?_
  refine zi_bipush (v := 48) hO dX9_init_30 (by decide) ?_
  refine zk_newarr (n' := 73) (r := 28) (i := 0) hO (zN_to hN (by omega) (by omega) (by omega)) (by omega) (by omega) dX9_init_32 rfl rfl h28 (by decide) (by decide) (by decide) ?_
  refine zk_putR hO hR rfl dX9_init_34 gX9_21 rfl rfl ⟨by decide, by decide⟩ ?_
  refine zi_aload_n hO dX9_init_37 0 rfl ?_
  refine zi_iconst (v := 0) hO dX9_init_38 (by decide) ?_
  refine zk_putI0 hO dX9_init_39 gX9_24 rfl rfl ⟨by decide, by decide⟩ (congrFun h24 6) ?_
  refine zi_aload_n hO dX9_init_42 0 rfl ?_
  refine zi_aload_n hO dX9_init_43 1 rfl ?_
  refine zk_putR hO hR rfl dX9_init_44 gX9_28 rfl rfl ⟨by decide, by decide⟩ ?_
  refine zi_aload_n hO dX9_init_47 0 rfl ?_
  refine zi_aload_n hO dX9_init_48 2 rfl ?_
  refine zk_putR hO hR rfl dX9_init_49 gX9_32 rfl rfl ⟨by decide, by decide⟩ ?_
  exact zi_vreturn hO hR rfl dX9_init_52 ⟨rfl, rfl, rfl⟩
def RX6_init (rf : zRef) : zRef := zwR (zwR (zwR (zwR (zwR (zwR (zwR (rf) 29 0 2 (30, 0)) 29 0 3 (31, 0)) 29 0 4 (32, 0)) 29 0 5 (33, 0)) 29 0 6 (34, 0)) 29 0 0 (10, 0)) 29 0 1 (20, 0)
def IX6_init (im : zMem) : zMem := zwr (im) 29 0 8 100000000
set_option maxRecDepth 100000 in
set_option maxHeartbeats 4000000 in
theorem C_X6_init (l : Launch) (w : zWd) {rf : zRef} {im : zMem} (h29 : im 29 0 = fun _ => 0) (h30 : im 30 0 = fun _ => 0) (h31 : im 31 0 = fun _ => 0) (h32 : im 32 0 = fun _ => 0) (h33 : im 33 0 = fun _ => 0) (h34 : im 34 0 = fun _ => 0) : zSpecg l w 3 zyX6_init (74) rf (79) [vR 29 0, vR 10 0, vR 20 0] im 0 (fun _ rf' im' lv' => rf' = RX6_init rf ∧ im' = IX6_init im ∧ lv' = 0) := by
  refine zenter (by omega) (by omega) (by decide) (Nat.le_of_ble_eq_true rfl) (fun x hO hR hN => ?_)
  show zWg x w (74) rf 0 [(0, vR 29 0), (1, vR 10 0), (2, vR 20 0)] [] im 0
  refine zi_aload_n hO dX6_init_0 0 rfl ?_
  refine zi_objInit hO (by decide) dX6_init_1 oX6_3 o_i o_c (Nat.le_of_ble_eq_true rfl) ?_
  refine zi_aload_n hO dX6_init_4 0 rfl ?_
  refine zi_sipush (v := 384) hO dX6_init_5 (by decide) ?_
  refine zk_newarr (n' := 75) (r := 30) (i := 0) hO (zN_to hN (by omega) (by omega) (by omega)) (by omega) (by omega) dX6_init_8 rfl rfl h30 (by decide) (by decide) (by decide) ?_
  refine zk_putR hO hR rfl dX6_init_10 gX6_9 rfl rfl ⟨by decide, by decide⟩ ?_
  refine zi_aload_n hO dX6_init_13 0 rfl ?_
  refine zi_bipush (v := 20) hO dX6_init_14 (by decide) ?_
  refine zk_newarr (n' := 76) (r := 31) (i := 0) hO (zN_to hN (by omega) (by omega) (by omega)) (by omega) (by omega) dX6_init_16 rfl rfl h31 (by decide) (by decide) (by decide) ?_
  refine zk_putR hO hR rfl dX6_init_18 gX6_15 rfl rfl ⟨by decide, by decide⟩ ?_
  refine zi_aload_n hO dX6_init_21 0 rfl ?_
  refine zi_iconst (v := 5) hO dX6_init_22 (by decide) ?_
  refine zk_newarr (n' := 77) (r := 32) (i := 0) hO (zN_to hN (by omega) (by omega) (by omega)) (by omega) (by omega) dX6_init_23 rfl rfl h32 (by decide) (by decide) (by decide) ?_
  refine zk_putR hO hR rfl dX6_init_25 gX6_18 rfl rfl ⟨by decide, by decide⟩ ?_
  refine zi_aload_n hO dX6_init_28 0 rfl ?_
  refine zi_iconst (v := 5) hO dX6_init_29 (by decide) ?_
  refine zk_newarr (n' := 78) (r := 33) (i := 0) hO (zN_to hN (by omega) (by omega) (by omega)) (by omega) (by omega) dX6_init_30 rfl rfl h33 (by decide) (by decide) (by decide) ?_
  refine zk_putR hO hR rfl dX6_init_32 gX6_21 rfl rfl ⟨by decide, by decide⟩ ?_
  refine zi_aload_n hO dX6_init_35 0 rfl ?_
  refine zi_iconst (v := 5) hO dX6_init_36 (by decide) ?_
  refine zk_newarr (n' := 79) (r := 34) (i := 0) hO (zN_to hN (by omega) (by omega) (by omega)) (by omega) (by omega) dX6_init_37 rfl rfl h34 (by decide) (by decide) (by decide) ?_
  refine zk_putR hO hR rfl dX6_init_39 gX6_24 rfl rfl ⟨by decide, by decide⟩ ?_
  refine zi_aload_n hO dX6_init_42 0 rfl ?_
  refine zi_iconst (v := 0) hO dX6_init_43 (by decide) ?_
  refine zk_putI0 hO dX6_init_44 gX6_27 rfl rfl ⟨by decide, by decide⟩ (congrFun h29 7) ?_
  refine zi_aload_n hO dX6_init_47 0 rfl ?_
  refine zi_ldc (v := 100000000) hO dX6_init_48 nX6_31 ?_
  refine zk_putI hO dX6_init_50 gX6_32 rfl rfl ⟨by decide, by decide⟩ ?_
  refine zi_aload_n hO dX6_init_53 0 rfl ?_
  refine zi_aload_n hO dX6_init_54 1 rfl ?_
  refine zk_putR hO hR rfl dX6_init_55 gX6_35 rfl rfl ⟨by decide, by decide⟩ ?_
  refine zi_aload_n hO dX6_init_58 0 rfl ?_
  refine zi_aload_n hO dX6_init_59 2 rfl ?_
  refine zk_putR hO hR rfl dX6_init_60 gX6_39 rfl rfl ⟨by decide, by decide⟩ ?_
  exact zi_vreturn hO hR rfl dX6_init_63 ⟨rfl, rfl, rfl⟩
def RX4_init (rf : zRef) : zRef := zwR (zwR (zwR (zwR (zwR (rf) 35 0 2 (36, 0)) 35 0 3 (37, 0)) 35 0 4 (38, 0)) 35 0 0 (10, 0)) 35 0 1 (20, 0)
set_option maxRecDepth 100000 in
set_option maxHeartbeats 4000000 in
theorem C_X4_init (l : Launch) (w : zWd) {rf : zRef} {im : zMem} (h36 : im 36 0 = fun _ => 0) (h37 : im 37 0 = fun _ => 0) (h38 : im 38 0 = fun _ => 0) : zSpecg l w 3 zyX4_init (80) rf (83) [vR 35 0, vR 10 0, vR 20 0] im 0 (fun _ rf' im' lv' => rf' = RX4_init rf ∧ im' = im ∧ lv' = 0) := by
  refine zenter (by omega) (by omega) (by decide) (Nat.le_of_ble_eq_true rfl) (fun x hO hR hN => ?_)
  show zWg x w (80) rf 0 [(0, vR 35 0), (1, vR 10 0), (2, vR 20 0)] [] im 0
  refine zi_aload_n hO dX4_init_0 0 rfl ?_
  refine zi_objInit hO (by decide) dX4_init_1 oX4_3 o_i o_c (Nat.le_of_ble_eq_true rfl) ?_
  refine zi_aload_n hO dX4_init_4 0 rfl ?_
  refine zi_iconst (v := 4) hO dX4_init_5 (by decide) ?_
  refine zk_newarr (n' := 81) (r := 36) (i := 0) hO (zN_to hN (by omega) (by omega) (by omega)) (by omega) (by omega) dX4_init_6 rfl rfl h36 (by decide) (by decide) (by decide) ?_
  refine zk_putR hO hR rfl dX4_init_8 gX4_9 rfl rfl ⟨by decide, by decide⟩ ?_
  refine zi_aload_n hO dX4_init_11 0 rfl ?_
  refine zi_iconst (v := 4) hO dX4_init_12 (by decide) ?_
  refine zk_newarr (n' := 82) (r := 37) (i := 0) hO (zN_to hN (by omega) (by omega) (by omega)) (by omega) (by omega) dX4_init_13 rfl rfl h37 (by decide) (by decide) (by decide) ?_
  refine zk_putR hO hR rfl dX4_init_15 gX4_15 rfl rfl ⟨by decide, by decide⟩ ?_
  refine zi_aload_n hO dX4_init_18 0 rfl ?_
  refine zi_iconst (v := 4) hO dX4_init_19 (by decide) ?_
  refine zk_newarr (n' := 83) (r := 38) (i := 0) hO (zN_to hN (by omega) (by omega) (by omega)) (by omega) (by omega) dX4_init_20 rfl rfl h38 (by decide) (by decide) (by decide) ?_
  refine zk_putR hO hR rfl dX4_init_22 gX4_18 rfl rfl ⟨by decide, by decide⟩ ?_
  refine zi_aload_n hO dX4_init_25 0 rfl ?_
  refine zi_aload_n hO dX4_init_26 1 rfl ?_
  refine zk_putR hO hR rfl dX4_init_27 gX4_21 rfl rfl ⟨by decide, by decide⟩ ?_
  refine zi_aload_n hO dX4_init_30 0 rfl ?_
  refine zi_aload_n hO dX4_init_31 2 rfl ?_
  refine zk_putR hO hR rfl dX4_init_32 gX4_25 rfl rfl ⟨by decide, by decide⟩ ?_
  exact zi_vreturn hO hR rfl dX4_init_35 ⟨rfl, rfl, rfl⟩
def RX0_init (rf : zRef) : zRef := zwR (zwR (rf) 39 0 1 (40, 0)) 39 0 0 (20, 0)
set_option maxRecDepth 100000 in
set_option maxHeartbeats 4000000 in
theorem C_X0_init (l : Launch) (w : zWd) {rf : zRef} {im : zMem} (h39 : im 39 0 = fun _ => 0) (h40 : im 40 0 = fun _ => 0) : zSpecg l w 3 zyX0_init (84) rf (85) [vR 39 0, vR 20 0] im 0 (fun _ rf' im' lv' => rf' = RX0_init rf ∧ im' = im ∧ lv' = 0) := by
  refine zenter (by omega) (by omega) (by decide) (Nat.le_of_ble_eq_true rfl) (fun x hO hR hN => ?_)
  show zWg x w (84) rf 0 [(0, vR 39 0), (1, vR 20 0)] [] im 0
  refine zi_aload_n hO dX0_init_0 0 rfl ?_
  refine zi_objInit hO (by decide) dX0_init_1 oX0_3 o_i o_c (Nat.le_of_ble_eq_true rfl) ?_
  refine zi_aload_n hO dX0_init_4 0 rfl ?_
  refine zi_bipush (v := 16) hO dX0_init_5 (by decide) ?_
  refine zk_newarr (n' := 85) (r := 40) (i := 0) hO (zN_to hN (by omega) (by omega) (by omega)) (by omega) (by omega) dX0_init_7 rfl rfl h40 (by decide) (by decide) (by decide) ?_
  refine zk_putR hO hR rfl dX0_init_9 gX0_9 rfl rfl ⟨by decide, by decide⟩ ?_
  refine zi_aload_n hO dX0_init_12 0 rfl ?_
  refine zi_iconst (v := 0) hO dX0_init_13 (by decide) ?_
  refine zk_putI0 hO dX0_init_14 gX0_15 rfl rfl ⟨by decide, by decide⟩ (congrFun h39 2) ?_
  refine zi_aload_n hO dX0_init_17 0 rfl ?_
  refine zi_aload_n hO dX0_init_18 1 rfl ?_
  refine zk_putR hO hR rfl dX0_init_19 gX0_19 rfl rfl ⟨by decide, by decide⟩ ?_
  exact zi_vreturn hO hR rfl dX0_init_22 ⟨rfl, rfl, rfl⟩
def RX12_init (rf : zRef) : zRef := zwR (zwR (zwR (zwR (zwR (zwR (zwR (zwR (zwR (zwR (zwR (zwR (zwR (zwR (zwR (zwR (zwR (zwR (zwR (zwR (zwR (zwR (zwR (zwR (rf) 43 0 2 (44, 0)) 43 0 3 (45, 0)) 43 0 4 (46, 0)) 43 0 5 (47, 0)) 43 0 6 (48, 0)) 43 0 9 (49, 0)) 43 0 11 (50, 0)) 43 0 12 (51, 0)) 43 0 13 (52, 0)) 43 0 14 (53, 0)) 43 0 15 (54, 0)) 43 0 16 (55, 0)) 43 0 29 (56, 0)) 43 0 30 (57, 0)) 43 0 31 (58, 0)) 43 0 32 (59, 0)) 43 0 33 (60, 0)) 43 0 34 (61, 0)) 43 0 35 (62, 0)) 43 0 36 (63, 0)) 43 0 37 (64, 0)) 43 0 38 (65, 0)) 43 0 39 (66, 0)) 43 0 40 (67, 0)
def IX12_init (im : zMem) : zMem := zflt (zwr (zwr (zwr (zwr (zwr (zwr (zwr (zwr (zwr (im) 44 0 0 (-1)) 44 0 1 (-1)) 44 0 2 (-1)) 44 0 3 (-1)) 44 0 4 (-1)) 44 0 5 (-1)) 44 0 6 (-1)) 44 0 7 (-1)) 43 0 7 1) 47 0 384 9
set_option maxRecDepth 100000 in
set_option maxHeartbeats 4000000 in
theorem C_X12_init (l : Launch) (w : zWd) {rf : zRef} {im : zMem} (h44 : im 44 0 = fun _ => 0) (h45 : im 45 0 = fun _ => 0) (h46 : im 46 0 = fun _ => 0) (h47 : im 47 0 = fun _ => 0) (h48 : im 48 0 = fun _ => 0) (h49 : im 49 0 = fun _ => 0) (h50 : im 50 0 = fun _ => 0) (h51 : im 51 0 = fun _ => 0) (h52 : im 52 0 = fun _ => 0) (h53 : im 53 0 = fun _ => 0) (h54 : im 54 0 = fun _ => 0) (h55 : im 55 0 = fun _ => 0) (h56 : im 56 0 = fun _ => 0) (h57 : im 57 0 = fun _ => 0) (h58 : im 58 0 = fun _ => 0) (h59 : im 59 0 = fun _ => 0) (h60 : im 60 0 = fun _ => 0) (h61 : im 61 0 = fun _ => 0) (h62 : im 62 0 = fun _ => 0) (h63 : im 63 0 = fun _ => 0) (h64 : im 64 0 = fun _ => 0) (h65 : im 65 0 = fun _ => 0) (h66 : im 66 0 = fun _ => 0) (h67 : im 67 0 = fun _ => 0) : zSpecg l w 4 zyX12_init (102) rf (126) [vR 43 0] im 0 (fun _ rf' im' lv' => rf' = RX12_init rf ∧ im' = IX12_init im ∧ lv' = 0) := by
  refine zenter (by omega) (by omega) (by decide) (Nat.le_of_ble_eq_true rfl) (fun x hO hR hN => ?_)
  show zWg x w (102) rf 0 [(0, vR 43 0)] [] im 0
  refine zi_aload_n hO dX12_init_0 0 rfl ?_
  refine zi_objInit hO (by decide) dX12_init_1 oX12_38 o_i o_c (Nat.le_of_ble_eq_true rfl) ?_
  refine zi_aload_n hO dX12_init_4 0 rfl ?_
  refine zi_bipush (v := 8) hO dX12_init_5 (by decide) ?_
  refine zk_newarr (n' := 103) (r := 44) (i := 0) hO (zN_to hN (by omega) (by omega) (by omega)) (by omega) (by omega) dX12_init_7 rfl rfl h44 (by decide) (by decide) (by decide) ?_
  refine zi_dup hO dX12_init_9 rfl ?_
  refine zi_iconst (v := 0) hO dX12_init_10 (by decide) ?_
  refine zi_iconst (v := (-1)) hO dX12_init_11 (by decide) ?_
  refine zk_iast (k := 0) hO dX12_init_12 rfl ⟨by decide, by decide⟩ (vp_in_nI (n := 0) (by decide) (by decide)) (by decide) ?_
  refine zi_dup hO dX12_init_13 rfl ?_
  refine zi_iconst (v := 1) hO dX12_init_14 (by decide) ?_
  refine zi_iconst (v := (-1)) hO dX12_init_15 (by decide) ?_
  refine zk_iast (k := 1) hO dX12_init_16 rfl ⟨by decide, by decide⟩ (vp_in_nI (n := 1) (by decide) (by decide)) (by decide) ?_
  refine zi_dup hO dX12_init_17 rfl ?_
  refine zi_iconst (v := 2) hO dX12_init_18 (by decide) ?_
  refine zi_iconst (v := (-1)) hO dX12_init_19 (by decide) ?_
  refine zk_iast (k := 2) hO dX12_init_20 rfl ⟨by decide, by decide⟩ (vp_in_nI (n := 2) (by decide) (by decide)) (by decide) ?_
  refine zi_dup hO dX12_init_21 rfl ?_
  refine zi_iconst (v := 3) hO dX12_init_22 (by decide) ?_
  refine zi_iconst (v := (-1)) hO dX12_init_23 (by decide) ?_
  refine zk_iast (k := 3) hO dX12_init_24 rfl ⟨by decide, by decide⟩ (vp_in_nI (n := 3) (by decide) (by decide)) (by decide) ?_
  refine zi_dup hO dX12_init_25 rfl ?_
  refine zi_iconst (v := 4) hO dX12_init_26 (by decide) ?_
  refine zi_iconst (v := (-1)) hO dX12_init_27 (by decide) ?_
  refine zk_iast (k := 4) hO dX12_init_28 rfl ⟨by decide, by decide⟩ (vp_in_nI (n := 4) (by decide) (by decide)) (by decide) ?_
  refine zi_dup hO dX12_init_29 rfl ?_
  refine zi_iconst (v := 5) hO dX12_init_30 (by decide) ?_
  refine zi_iconst (v := (-1)) hO dX12_init_31 (by decide) ?_
  refine zk_iast (k := 5) hO dX12_init_32 rfl ⟨by decide, by decide⟩ (vp_in_nI (n := 5) (by decide) (by decide)) (by decide) ?_
  refine zi_dup hO dX12_init_33 rfl ?_
  refine zi_bipush (v := 6) hO dX12_init_34 (by decide) ?_
  refine zi_iconst (v := (-1)) hO dX12_init_36 (by decide) ?_
  refine zk_iast (k := 6) hO dX12_init_37 rfl ⟨by decide, by decide⟩ (vp_in_nI (n := 6) (by decide) (by decide)) (by decide) ?_
  refine zi_dup hO dX12_init_38 rfl ?_
  refine zi_bipush (v := 7) hO dX12_init_39 (by decide) ?_
  refine zi_iconst (v := (-1)) hO dX12_init_41 (by decide) ?_
  refine zk_iast (k := 7) hO dX12_init_42 rfl ⟨by decide, by decide⟩ (vp_in_nI (n := 7) (by decide) (by decide)) (by decide) ?_
  refine zk_putR hO hR rfl dX12_init_43 gX12_28 rfl rfl ⟨by decide, by decide⟩ ?_
  refine zi_aload_n hO dX12_init_46 0 rfl ?_
  refine zi_bipush (v := 8) hO dX12_init_47 (by decide) ?_
  refine zk_newarr (n' := 104) (r := 45) (i := 0) hO (zN_to hN (by omega) (by omega) (by omega)) (by omega) (by omega) dX12_init_49 rfl rfl h45 (by decide) (by decide) (by decide) ?_
  refine zk_putR hO hR rfl dX12_init_51 gX12_32 rfl rfl ⟨by decide, by decide⟩ ?_
  refine zi_aload_n hO dX12_init_54 0 rfl ?_
  refine zi_sipush (v := 384) hO dX12_init_55 (by decide) ?_
  refine zk_newarr (n' := 105) (r := 46) (i := 0) hO (zN_to hN (by omega) (by omega) (by omega)) (by omega) (by omega) dX12_init_58 rfl rfl h46 (by decide) (by decide) (by decide) ?_
  refine zk_putR hO hR rfl dX12_init_60 gX12_35 rfl rfl ⟨by decide, by decide⟩ ?_
  refine zi_aload_n hO dX12_init_63 0 rfl ?_
  refine zi_sipush (v := 384) hO dX12_init_64 (by decide) ?_
  refine zk_newarr (n' := 106) (r := 47) (i := 0) hO (zN_to hN (by omega) (by omega) (by omega)) (by omega) (by omega) dX12_init_67 rfl rfl h47 (by decide) (by decide) (by decide) ?_
  refine zk_putR hO hR rfl dX12_init_69 gX12_44 rfl rfl ⟨by decide, by decide⟩ ?_
  refine zi_aload_n hO dX12_init_72 0 rfl ?_
  refine zi_bipush (v := 48) hO dX12_init_73 (by decide) ?_
  refine zk_newarr (n' := 107) (r := 48) (i := 0) hO (zN_to hN (by omega) (by omega) (by omega)) (by omega) (by omega) dX12_init_75 rfl rfl h48 (by decide) (by decide) (by decide) ?_
  refine zk_putR hO hR rfl dX12_init_77 gX12_47 rfl rfl ⟨by decide, by decide⟩ ?_
  refine zi_aload_n hO dX12_init_80 0 rfl ?_
  refine zi_iconst (v := 1) hO dX12_init_81 (by decide) ?_
  refine zk_putI hO dX12_init_82 gX12_50 rfl rfl ⟨by decide, by decide⟩ ?_
  refine zi_aload_n hO dX12_init_85 0 rfl ?_
  refine zi_bipush (v := 100) hO dX12_init_86 (by decide) ?_
  refine zk_newarr (n' := 108) (r := 49) (i := 0) hO (zN_to hN (by omega) (by omega) (by omega)) (by omega) (by omega) dX12_init_88 rfl rfl h49 (by decide) (by decide) (by decide) ?_
  refine zk_putR hO hR rfl dX12_init_90 gX12_53 rfl rfl ⟨by decide, by decide⟩ ?_
  refine zi_aload_n hO dX12_init_93 0 rfl ?_
  refine zi_bipush (v := 60) hO dX12_init_94 (by decide) ?_
  refine zk_newarr (n' := 109) (r := 50) (i := 0) hO (zN_to hN (by omega) (by omega) (by omega)) (by omega) (by omega) dX12_init_96 rfl rfl h50 (by decide) (by decide) (by decide) ?_
  refine zk_putR hO hR rfl dX12_init_98 gX12_56 rfl rfl ⟨by decide, by decide⟩ ?_
  refine zi_aload_n hO dX12_init_101 0 rfl ?_
  refine zi_sipush (v := 180) hO dX12_init_102 (by decide) ?_
  refine zk_newarr (n' := 110) (r := 51) (i := 0) hO (zN_to hN (by omega) (by omega) (by omega)) (by omega) (by omega) dX12_init_105 rfl rfl h51 (by decide) (by decide) (by decide) ?_
  refine zk_putR hO hR rfl dX12_init_107 gX12_59 rfl rfl ⟨by decide, by decide⟩ ?_
  refine zi_aload_n hO dX12_init_110 0 rfl ?_
  refine zi_sipush (v := 180) hO dX12_init_111 (by decide) ?_
  refine zk_newarr (n' := 111) (r := 52) (i := 0) hO (zN_to hN (by omega) (by omega) (by omega)) (by omega) (by omega) dX12_init_114 rfl rfl h52 (by decide) (by decide) (by decide) ?_
  refine zk_putR hO hR rfl dX12_init_116 gX12_62 rfl rfl ⟨by decide, by decide⟩ ?_
  refine zi_aload_n hO dX12_init_119 0 rfl ?_
  refine zi_bipush (v := 12) hO dX12_init_120 (by decide) ?_
  refine zk_newarr (n' := 112) (r := 53) (i := 0) hO (zN_to hN (by omega) (by omega) (by omega)) (by omega) (by omega) dX12_init_122 rfl rfl h53 (by decide) (by decide) (by decide) ?_
  refine zk_putR hO hR rfl dX12_init_124 gX12_65 rfl rfl ⟨by decide, by decide⟩ ?_
  refine zi_aload_n hO dX12_init_127 0 rfl ?_
  refine zi_bipush (v := 12) hO dX12_init_128 (by decide) ?_
  refine zk_newarr (n' := 113) (r := 54) (i := 0) hO (zN_to hN (by omega) (by omega) (by omega)) (by omega) (by omega) dX12_init_130 rfl rfl h54 (by decide) (by decide) (by decide) ?_
  refine zk_putR hO hR rfl dX12_init_132 gX12_68 rfl rfl ⟨by decide, by decide⟩ ?_
  refine zi_aload_n hO dX12_init_135 0 rfl ?_
  refine zi_sipush (v := 500) hO dX12_init_136 (by decide) ?_
  refine zk_newarr (n' := 114) (r := 55) (i := 0) hO (zN_to hN (by omega) (by omega) (by omega)) (by omega) (by omega) dX12_init_139 rfl rfl h55 (by decide) (by decide) (by decide) ?_
  refine zk_putR hO hR rfl dX12_init_141 gX12_71 rfl rfl ⟨by decide, by decide⟩ ?_
  refine zi_aload_n hO dX12_init_144 0 rfl ?_
  refine zi_bipush (v := 64) hO dX12_init_145 (by decide) ?_
  refine zk_newarr (n' := 115) (r := 56) (i := 0) hO (zN_to hN (by omega) (by omega) (by omega)) (by omega) (by omega) dX12_init_147 rfl rfl h56 (by decide) (by decide) (by decide) ?_
  refine zk_putR hO hR rfl dX12_init_149 gX12_74 rfl rfl ⟨by decide, by decide⟩ ?_
  refine zi_aload_n hO dX12_init_152 0 rfl ?_
  refine zi_bipush (v := 64) hO dX12_init_153 (by decide) ?_
  refine zk_newarr (n' := 116) (r := 57) (i := 0) hO (zN_to hN (by omega) (by omega) (by omega)) (by omega) (by omega) dX12_init_155 rfl rfl h57 (by decide) (by decide) (by decide) ?_
  refine zk_putR hO hR rfl dX12_init_157 gX12_77 rfl rfl ⟨by decide, by decide⟩ ?_
  refine zi_aload_n hO dX12_init_160 0 rfl ?_
  refine zi_iconst (v := 4) hO dX12_init_161 (by decide) ?_
  refine zk_newarr (n' := 117) (r := 58) (i := 0) hO (zN_to hN (by omega) (by omega) (by omega)) (by omega) (by omega) dX12_init_162 rfl rfl h58 (by decide) (by decide) (by decide) ?_
  refine zk_putR hO hR rfl dX12_init_164 gX12_80 rfl rfl ⟨by decide, by decide⟩ ?_
  refine zi_aload_n hO dX12_init_167 0 rfl ?_
  refine zi_iconst (v := 4) hO dX12_init_168 (by decide) ?_
  refine zk_newarr (n' := 118) (r := 59) (i := 0) hO (zN_to hN (by omega) (by omega) (by omega)) (by omega) (by omega) dX12_init_169 rfl rfl h59 (by decide) (by decide) (by decide) ?_
  refine zk_putR hO hR rfl dX12_init_171 gX12_83 rfl rfl ⟨by decide, by decide⟩ ?_
  refine zi_aload_n hO dX12_init_174 0 rfl ?_
  refine zi_sipush (v := 3072) hO dX12_init_175 (by decide) ?_
  refine zk_newarr (n' := 119) (r := 60) (i := 0) hO (zN_to hN (by omega) (by omega) (by omega)) (by omega) (by omega) dX12_init_178 rfl rfl h60 (by decide) (by decide) (by decide) ?_
  refine zk_putR hO hR rfl dX12_init_180 gX12_86 rfl rfl ⟨by decide, by decide⟩ ?_
  refine zi_aload_n hO dX12_init_183 0 rfl ?_
  refine zi_sipush (v := 3136) hO dX12_init_184 (by decide) ?_
  refine zk_newarr (n' := 120) (r := 61) (i := 0) hO (zN_to hN (by omega) (by omega) (by omega)) (by omega) (by omega) dX12_init_187 rfl rfl h61 (by decide) (by decide) (by decide) ?_
  refine zk_putR hO hR rfl dX12_init_189 gX12_89 rfl rfl ⟨by decide, by decide⟩ ?_
  refine zi_aload_n hO dX12_init_192 0 rfl ?_
  refine zi_bipush (v := 48) hO dX12_init_193 (by decide) ?_
  refine zk_newarr (n' := 121) (r := 62) (i := 0) hO (zN_to hN (by omega) (by omega) (by omega)) (by omega) (by omega) dX12_init_195 rfl rfl h62 (by decide) (by decide) (by decide) ?_
  refine zk_putR hO hR rfl dX12_init_197 gX12_92 rfl rfl ⟨by decide, by decide⟩ ?_
  refine zi_aload_n hO dX12_init_200 0 rfl ?_
  refine zi_sipush (v := 384) hO dX12_init_201 (by decide) ?_
  refine zk_newarr (n' := 122) (r := 63) (i := 0) hO (zN_to hN (by omega) (by omega) (by omega)) (by omega) (by omega) dX12_init_204 rfl rfl h63 (by decide) (by decide) (by decide) ?_
  refine zk_putR hO hR rfl dX12_init_206 gX12_95 rfl rfl ⟨by decide, by decide⟩ ?_
  refine zi_aload_n hO dX12_init_209 0 rfl ?_
  refine zi_iconst (v := 5) hO dX12_init_210 (by decide) ?_
  refine zk_newarr (n' := 123) (r := 64) (i := 0) hO (zN_to hN (by omega) (by omega) (by omega)) (by omega) (by omega) dX12_init_211 rfl rfl h64 (by decide) (by decide) (by decide) ?_
  refine zk_putR hO hR rfl dX12_init_213 gX12_98 rfl rfl ⟨by decide, by decide⟩ ?_
  refine zi_aload_n hO dX12_init_216 0 rfl ?_
  refine zi_iconst (v := 5) hO dX12_init_217 (by decide) ?_
  refine zk_newarr (n' := 124) (r := 65) (i := 0) hO (zN_to hN (by omega) (by omega) (by omega)) (by omega) (by omega) dX12_init_218 rfl rfl h65 (by decide) (by decide) (by decide) ?_
  refine zk_putR hO hR rfl dX12_init_220 gX12_101 rfl rfl ⟨by decide, by decide⟩ ?_
  refine zi_aload_n hO dX12_init_223 0 rfl ?_
  refine zi_iconst (v := 5) hO dX12_init_224 (by decide) ?_
  refine zk_newarr (n' := 125) (r := 66) (i := 0) hO (zN_to hN (by omega) (by omega) (by omega)) (by omega) (by omega) dX12_init_225 rfl rfl h66 (by decide) (by decide) (by decide) ?_
  refine zk_putR hO hR rfl dX12_init_227 gX12_104 rfl rfl ⟨by decide, by decide⟩ ?_
  refine zi_aload_n hO dX12_init_230 0 rfl ?_
  refine zi_bipush (v := 16) hO dX12_init_231 (by decide) ?_
  refine zk_newarr (n' := 126) (r := 67) (i := 0) hO (zN_to hN (by omega) (by omega) (by omega)) (by omega) (by omega) dX12_init_233 rfl rfl h67 (by decide) (by decide) (by decide) ?_
  refine zk_putR hO hR rfl dX12_init_235 gX12_107 rfl rfl ⟨by decide, by decide⟩ ?_
  refine zi_iconst (v := 0) hO dX12_init_238 (by decide) ?_
  refine zi_istore_n (L' := [(0, vR 43 0), (1, vI 0)]) hO dX12_init_239 (by decide) rfl rfl ?_
  have key : ∀ a j, a + j = 384 → zWg x w 126 (RX12_init rf) 240 [(0, vR 43 0), (1, vI (nI j))] [] (zflt (zwr (zwr (zwr (zwr (zwr (zwr (zwr (zwr (zwr (im) 44 0 0 (-1)) 44 0 1 (-1)) 44 0 2 (-1)) 44 0 3 (-1)) 44 0 4 (-1)) 44 0 5 (-1)) 44 0 6 (-1)) 44 0 7 (-1)) 43 0 7 1) 47 0 j 9) 0 := by
    intro a
    induction a with
    | zero =>
      intro j hj
      have hj : j = 384 := by omega
      subst hj
      refine zi_iload_n hO dX12_init_240 1 rfl ?_
      refine zi_sipush (v := 384) hO dX12_init_241 (by decide) ?_
      refine zi_icmp_ge (tgt := 261) hO dX12_init_244 (by decide) (fun _ => ?_) (fun c => absurd (by decide) c)
      exact zi_vreturn hO hR rfl dX12_init_261 ⟨rfl, rfl, rfl⟩
    | succ a ih =>
      intro j hj
      refine zi_iload_n hO dX12_init_240 1 rfl ?_
      refine zi_sipush (v := nI 384) hO dX12_init_241 (by decide) ?_
      refine zi_icmp_ge (tgt := 261) hO dX12_init_244 (by decide) (fun c => absurd ((nI_leI (by omega) (by omega)).mp c) (by omega)) (fun _ => ?_)
      refine zi_aload_n hO dX12_init_247 0 rfl ?_
      refine zi_getR (r' := 47) (i' := 0) hO dX12_init_248 fX12_44 rfl rfl ⟨by decide, by decide⟩ rfl ?_
      refine zi_iload_n hO dX12_init_251 1 rfl ?_
      refine zi_bipush (v := 9) hO dX12_init_252 (by decide) ?_
      refine zk_iast (k := j) hO dX12_init_254 rfl ⟨by decide, by decide⟩ (vp_in_nI (by omega) (by omega)) (nI_clamp (by omega)) ?_
      rw [zflt_s]
      refine zi_iinc (v' := nI (j + 1)) (L' := [(0, vR 43 0), (1, vI (nI (j + 1)))]) hO dX12_init_255 1 rfl (nI_1 j) (by decide) rfl rfl ?_
      exact zi_goto (tgt := 240) hO dX12_init_258 (by decide) (ih (j + 1) (by omega))
  have h := key 384 0 (by omega)
  rw [zflt_0] at h
  exact h
def RX11_init (rf : zRef) : zRef := zwR (RX7_init 7 (zwR (RX7_init 6 (zwR (RX7_init 5 (zwR (RX7_init 4 (zwR (RX7_init 3 (zwR (RX7_init 2 (zwR (RX7_init 1 (zwR (RX7_init 0 (zwR (RX0_init (zwR (RX4_init (zwR (RX6_init (zwR (RX9_init (zwR (RX8_init (zwR (RX5_init (zwR (RX10_init (zwR (RX1_init (zwR (RX3_init (zwR (rf) 0 0 0 (1, 0))) 0 0 1 (2, 0))) 0 0 2 (10, 0))) 0 0 3 (16, 0))) 0 0 4 (18, 0))) 0 0 5 (20, 0))) 0 0 6 (24, 0))) 0 0 7 (29, 0))) 0 0 8 (35, 0))) 0 0 9 (39, 0))) 1 0 0 (41, 0))) 1 0 1 (41, 1))) 1 0 2 (41, 2))) 1 0 3 (41, 3))) 1 0 4 (41, 4))) 1 0 5 (41, 5))) 1 0 6 (41, 6))) 1 0 7 (41, 7)
def IX11_init (im : zMem) : zMem := IX7_init 7 (IX7_init 6 (IX7_init 5 (IX7_init 4 (IX7_init 3 (IX7_init 2 (IX7_init 1 (IX7_init 0 (IX6_init (IX1_init (IX3_init (im)))))))))))
set_option maxRecDepth 100000 in
set_option maxHeartbeats 4000000 in
theorem C_X11_init (l : Launch) (w : zWd) {rf : zRef} {im : zMem} (h0 : im 0 0 = fun _ => 0) (h2 : im 2 0 = fun _ => 0) (h3 : im 3 0 = fun _ => 0) (h4 : im 4 0 = fun _ => 0) (h5 : im 5 0 = fun _ => 0) (h6 : im 6 0 = fun _ => 0) (h7 : im 7 0 = fun _ => 0) (h8 : im 8 0 = fun _ => 0) (h9 : im 9 0 = fun _ => 0) (h10 : im 10 0 = fun _ => 0) (h12 : ∀ i, im 12 i = fun _ => 0) (h13 : ∀ i, im 13 i = fun _ => 0) (h14 : ∀ i, im 14 i = fun _ => 0) (h15 : ∀ i, im 15 i = fun _ => 0) (h16 : im 16 0 = fun _ => 0) (h17 : im 17 0 = fun _ => 0) (h18 : im 18 0 = fun _ => 0) (h19 : im 19 0 = fun _ => 0) (h20 : im 20 0 = fun _ => 0) (h21 : im 21 0 = fun _ => 0) (h22 : im 22 0 = fun _ => 0) (h23 : im 23 0 = fun _ => 0) (h24 : im 24 0 = fun _ => 0) (h25 : im 25 0 = fun _ => 0) (h26 : im 26 0 = fun _ => 0) (h27 : im 27 0 = fun _ => 0) (h28 : im 28 0 = fun _ => 0) (h29 : im 29 0 = fun _ => 0) (h30 : im 30 0 = fun _ => 0) (h31 : im 31 0 = fun _ => 0) (h32 : im 32 0 = fun _ => 0) (h33 : im 33 0 = fun _ => 0) (h34 : im 34 0 = fun _ => 0) (h35 : im 35 0 = fun _ => 0) (h36 : im 36 0 = fun _ => 0) (h37 : im 37 0 = fun _ => 0) (h38 : im 38 0 = fun _ => 0) (h39 : im 39 0 = fun _ => 0) (h40 : im 40 0 = fun _ => 0) (h41 : ∀ i, im 41 i = fun _ => 0) (h42 : ∀ i, im 42 i = fun _ => 0) (g1 : rf 1 0 = fun _ => none) (g2 : rf 2 0 = fun _ => none) (g10 : rf 10 0 = fun _ => none) (g11 : rf 11 0 = fun _ => none) (g12 : ∀ i, rf 12 i = fun _ => none) (g16 : rf 16 0 = fun _ => none) (g18 : rf 18 0 = fun _ => none) (g20 : rf 20 0 = fun _ => none) (g24 : rf 24 0 = fun _ => none) (g29 : rf 29 0 = fun _ => none) (g35 : rf 35 0 = fun _ => none) (g39 : rf 39 0 = fun _ => none) (g41 : ∀ i, rf 41 i = fun _ => none) : zSpecg l w 4 zyX11_init (1) rf (101) [vR 0 0] im 0 (fun _ rf' im' lv' => rf' = RX11_init rf ∧ im' = IX11_init im ∧ lv' = 0) := by
  refine zenter (by omega) (by omega) (by decide) (Nat.le_of_ble_eq_true rfl) (fun x hO hR hN => ?_)
  show zWg x w (1) rf 0 [(0, vR 0 0)] [] im 0
  refine zi_aload_n hO dX11_init_0 0 rfl ?_
  refine zi_objInit hO (by decide) dX11_init_1 oX11_3 o_i o_c (Nat.le_of_ble_eq_true rfl) ?_
  refine zi_aload_n hO dX11_init_4 0 rfl ?_
  refine zi_bipush (v := 8) hO dX11_init_5 (by decide) ?_
  refine zk_anew (n' := 2) (r := 1) (i := 0) (t := 0) hO (zN_to hN (by omega) (by omega) (by omega)) (by omega) (by omega) dX11_init_7 hX11_9 (Or.inl ⟨rfl, rfl⟩) rfl rfl g1 (by decide) (by decide) (by decide) ?_
  refine zk_putR hO hR rfl dX11_init_10 gX11_11 rfl rfl ⟨by decide, by decide⟩ ?_
  refine zi_aload_n hO dX11_init_13 0 rfl ?_
  refine zk_new (n' := 3) (ci := 3) (r := 2) (i := 0) hO (zN_to hN (by omega) (by omega) (by omega)) (by omega) (by omega) dX11_init_14 hX11_15 rfl rfl rfl h2 g2 rfl (by decide) (by decide) ?_
  refine zi_dup hO dX11_init_17 rfl ?_
  refine zi_callI (n2 := 10) (as := []) hO (zN_to hN (by omega) (by omega) (by omega)) (by decide) dX11_init_18 kX11_17 (by decide) rfl (Nat.le_of_ble_eq_true rfl) rfl (C_X3_init _ _ h2 h3 h4 h5 h6 h7 h8 h9) (fun _ _ _ _ hp => ?_)
  obtain ⟨rfl, rfl, rfl⟩ := hp
  refine zk_putR hO hR rfl dX11_init_21 gX11_18 rfl rfl ⟨by decide, by decide⟩ ?_
  refine zi_aload_n hO dX11_init_24 0 rfl ?_
  refine zk_new (n' := 11) (ci := 1) (r := 10) (i := 0) hO (zN_to hN (by omega) (by omega) (by omega)) (by omega) (by omega) dX11_init_25 hX11_22 rfl rfl rfl h10 g10 rfl (by decide) (by decide) ?_
  refine zi_dup hO dX11_init_28 rfl ?_
  refine zi_callI (n2 := 60) (as := []) hO (zN_to hN (by omega) (by omega) (by omega)) (by decide) dX11_init_29 kX11_24 (by decide) rfl (Nat.le_of_ble_eq_true rfl) rfl (C_X1_init _ _ h10 h12 h13 h14 h15 g11 g12) (fun _ _ _ _ hp => ?_)
  obtain ⟨rfl, rfl, rfl⟩ := hp
  refine zk_putR hO hR rfl dX11_init_32 gX11_25 rfl rfl ⟨by decide, by decide⟩ ?_
  refine zi_aload_n hO dX11_init_35 0 rfl ?_
  refine zk_new (n' := 61) (ci := 10) (r := 16) (i := 0) hO (zN_to hN (by omega) (by omega) (by omega)) (by omega) (by omega) dX11_init_36 hX11_29 rfl rfl rfl h16 g16 rfl (by decide) (by decide) ?_
  refine zi_dup hO dX11_init_39 rfl ?_
  refine zi_callIN (n2 := 62) (as := []) hO (zN_to hN (by omega) (by omega) (by omega)) (by decide) dX11_init_40 kX11_31 ksX11_31 rfl rfl (by decide) rfl (Nat.le_of_ble_eq_true rfl) rfl (C_X10_init _ _ h16 h17) (fun _ _ _ _ hp => ?_)
  obtain ⟨rfl, rfl, rfl⟩ := hp
  refine zk_putR hO hR rfl dX11_init_43 gX11_32 rfl rfl ⟨by decide, by decide⟩ ?_
  refine zi_aload_n hO dX11_init_46 0 rfl ?_
  refine zk_new (n' := 63) (ci := 5) (r := 18) (i := 0) hO (zN_to hN (by omega) (by omega) (by omega)) (by omega) (by omega) dX11_init_47 hX11_36 rfl rfl rfl h18 g18 rfl (by decide) (by decide) ?_
  refine zi_dup hO dX11_init_50 rfl ?_
  refine zi_aload_n hO dX11_init_51 0 rfl ?_
  refine zi_getR (r' := 16) (i' := 0) hO dX11_init_52 fX11_32 rfl rfl ⟨by decide, by decide⟩ rfl ?_
  refine zi_aload_n hO dX11_init_55 0 rfl ?_
  refine zi_getR (r' := 2) (i' := 0) hO dX11_init_56 fX11_18 rfl rfl ⟨by decide, by decide⟩ rfl ?_
  refine zi_aload_n hO dX11_init_59 0 rfl ?_
  refine zi_getR (r' := 10) (i' := 0) hO dX11_init_60 fX11_25 rfl rfl ⟨by decide, by decide⟩ rfl ?_
  refine zi_callI (n2 := 64) (as := [vR 16 0, vR 2 0, vR 10 0]) hO (zN_to hN (by omega) (by omega) (by omega)) (by decide) dX11_init_63 kX11_38 (by decide) rfl (Nat.le_of_ble_eq_true rfl) rfl (C_X5_init _ _ h18 h19) (fun _ _ _ _ hp => ?_)
  obtain ⟨rfl, rfl, rfl⟩ := hp
  refine zk_putR hO hR rfl dX11_init_66 gX11_41 rfl rfl ⟨by decide, by decide⟩ ?_
  refine zi_aload_n hO dX11_init_69 0 rfl ?_
  refine zk_new (n' := 65) (ci := 8) (r := 20) (i := 0) hO (zN_to hN (by omega) (by omega) (by omega)) (by omega) (by omega) dX11_init_70 hX11_45 rfl rfl rfl h20 g20 rfl (by decide) (by decide) ?_
  refine zi_dup hO dX11_init_73 rfl ?_
  refine zi_aload_n hO dX11_init_74 0 rfl ?_
  refine zi_getR (r' := 2) (i' := 0) hO dX11_init_75 fX11_18 rfl rfl ⟨by decide, by decide⟩ rfl ?_
  refine zi_aload_n hO dX11_init_78 0 rfl ?_
  refine zi_getR (r' := 10) (i' := 0) hO dX11_init_79 fX11_25 rfl rfl ⟨by decide, by decide⟩ rfl ?_
  refine zi_callI (n2 := 68) (as := [vR 2 0, vR 10 0]) hO (zN_to hN (by omega) (by omega) (by omega)) (by decide) dX11_init_82 kX11_47 (by decide) rfl (Nat.le_of_ble_eq_true rfl) rfl (C_X8_init _ _ h21 h22 h23) (fun _ _ _ _ hp => ?_)
  obtain ⟨rfl, rfl, rfl⟩ := hp
  refine zk_putR hO hR rfl dX11_init_85 gX11_50 rfl rfl ⟨by decide, by decide⟩ ?_
  refine zi_aload_n hO dX11_init_88 0 rfl ?_
  refine zk_new (n' := 69) (ci := 9) (r := 24) (i := 0) hO (zN_to hN (by omega) (by omega) (by omega)) (by omega) (by omega) dX11_init_89 hX11_54 rfl rfl rfl h24 g24 rfl (by decide) (by decide) ?_
  refine zi_dup hO dX11_init_92 rfl ?_
  refine zi_aload_n hO dX11_init_93 0 rfl ?_
  refine zi_getR (r' := 2) (i' := 0) hO dX11_init_94 fX11_18 rfl rfl ⟨by decide, by decide⟩ rfl ?_
  refine zi_aload_n hO dX11_init_97 0 rfl ?_
  refine zi_getR (r' := 20) (i' := 0) hO dX11_init_98 fX11_50 rfl rfl ⟨by decide, by decide⟩ rfl ?_
  refine zi_callI (n2 := 73) (as := [vR 2 0, vR 20 0]) hO (zN_to hN (by omega) (by omega) (by omega)) (by decide) dX11_init_101 kX11_56 (by decide) rfl (Nat.le_of_ble_eq_true rfl) rfl (C_X9_init _ _ h24 h25 h26 h27 h28) (fun _ _ _ _ hp => ?_)
  obtain ⟨rfl, rfl, rfl⟩ := hp
  refine zk_putR hO hR rfl dX11_init_104 gX11_59 rfl rfl ⟨by decide, by decide⟩ ?_
  refine zi_aload_n hO dX11_init_107 0 rfl ?_
  refine zk_new (n' := 74) (ci := 6) (r := 29) (i := 0) hO (zN_to hN (by omega) (by omega) (by omega)) (by omega) (by omega) dX11_init_108 hX11_63 rfl rfl rfl h29 g29 rfl (by decide) (by decide) ?_
  refine zi_dup hO dX11_init_111 rfl ?_
  refine zi_aload_n hO dX11_init_112 0 rfl ?_
  refine zi_getR (r' := 10) (i' := 0) hO dX11_init_113 fX11_25 rfl rfl ⟨by decide, by decide⟩ rfl ?_
  refine zi_aload_n hO dX11_init_116 0 rfl ?_
  refine zi_getR (r' := 20) (i' := 0) hO dX11_init_117 fX11_50 rfl rfl ⟨by decide, by decide⟩ rfl ?_
  refine zi_callI (n2 := 79) (as := [vR 10 0, vR 20 0]) hO (zN_to hN (by omega) (by omega) (by omega)) (by decide) dX11_init_120 kX11_65 (by decide) rfl (Nat.le_of_ble_eq_true rfl) rfl (C_X6_init _ _ h29 h30 h31 h32 h33 h34) (fun _ _ _ _ hp => ?_)
  obtain ⟨rfl, rfl, rfl⟩ := hp
  refine zk_putR hO hR rfl dX11_init_123 gX11_68 rfl rfl ⟨by decide, by decide⟩ ?_
  refine zi_aload_n hO dX11_init_126 0 rfl ?_
  refine zk_new (n' := 80) (ci := 4) (r := 35) (i := 0) hO (zN_to hN (by omega) (by omega) (by omega)) (by omega) (by omega) dX11_init_127 hX11_72 rfl rfl rfl h35 g35 rfl (by decide) (by decide) ?_
  refine zi_dup hO dX11_init_130 rfl ?_
  refine zi_aload_n hO dX11_init_131 0 rfl ?_
  refine zi_getR (r' := 10) (i' := 0) hO dX11_init_132 fX11_25 rfl rfl ⟨by decide, by decide⟩ rfl ?_
  refine zi_aload_n hO dX11_init_135 0 rfl ?_
  refine zi_getR (r' := 20) (i' := 0) hO dX11_init_136 fX11_50 rfl rfl ⟨by decide, by decide⟩ rfl ?_
  refine zi_callI (n2 := 83) (as := [vR 10 0, vR 20 0]) hO (zN_to hN (by omega) (by omega) (by omega)) (by decide) dX11_init_139 kX11_74 (by decide) rfl (Nat.le_of_ble_eq_true rfl) rfl (C_X4_init _ _ h36 h37 h38) (fun _ _ _ _ hp => ?_)
  obtain ⟨rfl, rfl, rfl⟩ := hp
  refine zk_putR hO hR rfl dX11_init_142 gX11_75 rfl rfl ⟨by decide, by decide⟩ ?_
  refine zi_aload_n hO dX11_init_145 0 rfl ?_
  refine zk_new (n' := 84) (ci := 0) (r := 39) (i := 0) hO (zN_to hN (by omega) (by omega) (by omega)) (by omega) (by omega) dX11_init_146 hX11_79 rfl rfl rfl h39 g39 rfl (by decide) (by decide) ?_
  refine zi_dup hO dX11_init_149 rfl ?_
  refine zi_aload_n hO dX11_init_150 0 rfl ?_
  refine zi_getR (r' := 20) (i' := 0) hO dX11_init_151 fX11_50 rfl rfl ⟨by decide, by decide⟩ rfl ?_
  refine zi_callI (n2 := 85) (as := [vR 20 0]) hO (zN_to hN (by omega) (by omega) (by omega)) (by decide) dX11_init_154 kX11_81 (by decide) rfl (Nat.le_of_ble_eq_true rfl) rfl (C_X0_init _ _ h39 h40) (fun _ _ _ _ hp => ?_)
  obtain ⟨rfl, rfl, rfl⟩ := hp
  refine zk_putR hO hR rfl dX11_init_157 gX11_84 rfl rfl ⟨by decide, by decide⟩ ?_
  refine zi_aload_n hO dX11_init_160 0 rfl ?_
  refine zi_iconst (v := 0) hO dX11_init_161 (by decide) ?_
  refine zk_putI0 hO dX11_init_162 gX11_88 rfl rfl ⟨by decide, by decide⟩ (congrFun h0 10) ?_
  refine zi_aload_n hO dX11_init_165 0 rfl ?_
  refine zi_iconst (v := 0) hO dX11_init_166 (by decide) ?_
  refine zk_putI0 hO dX11_init_167 gX11_92 rfl rfl ⟨by decide, by decide⟩ (congrFun h0 11) ?_
  refine zi_iconst (v := 0) hO dX11_init_170 (by decide) ?_
  refine zi_istore_n (L' := [(0, vR 0 0), (1, vI 0)]) hO dX11_init_171 (by decide) rfl rfl ?_
  refine zi_iload_n hO dX11_init_172 1 rfl ?_
  refine zi_bipush (v := 8) hO dX11_init_173 (by decide) ?_
  refine zi_icmp_ge (tgt := 197) hO dX11_init_175 (by decide) (fun c => absurd c (by decide)) (fun _ => ?_)
  refine zi_aload_n hO dX11_init_178 0 rfl ?_
  refine zi_getR (r' := 1) (i' := 0) hO dX11_init_179 fX11_11 rfl rfl ⟨by decide, by decide⟩ rfl ?_
  refine zi_iload_n hO dX11_init_182 1 rfl ?_
  refine zk_new (n' := 86) (ci := 7) (r := 41) (i := 0) hO (zN_to hN (by omega) (by omega) (by omega)) (by omega) (by omega) dX11_init_183 hX11_9 rfl rfl rfl (h41 0) (g41 0) rfl (by decide) (by decide) ?_
  refine zi_dup hO dX11_init_186 rfl ?_
  refine zi_callIN (n2 := 87) (as := []) hO (zN_to hN (by omega) (by omega) (by omega)) (by decide) dX11_init_187 kX11_95 ksX11_95 rfl rfl (by decide) rfl (Nat.le_of_ble_eq_true rfl) rfl (C_X7_init _ _ (i := 0) (by decide) (h41 0) (h42 0)) (fun _ _ _ _ hp => ?_)
  obtain ⟨rfl, rfl, rfl⟩ := hp
  refine zk_aast (t := 0) (k := 0) hO dX11_init_190 rfl ⟨by decide, by decide⟩ (vp_in_nI (n := 0) (by decide) (by decide)) (by decide) rfl ⟨by decide, by decide⟩ rfl ?_
  refine zi_iinc (v' := 1) (L' := [(0, vR 0 0), (1, vI 1)]) hO dX11_init_191 1 rfl (by decide) (by decide) rfl rfl ?_
  refine zi_goto (tgt := 172) hO dX11_init_194 (by decide) ?_
  refine zi_iload_n hO dX11_init_172 1 rfl ?_
  refine zi_bipush (v := 8) hO dX11_init_173 (by decide) ?_
  refine zi_icmp_ge (tgt := 197) hO dX11_init_175 (by decide) (fun c => absurd c (by decide)) (fun _ => ?_)
  refine zi_aload_n hO dX11_init_178 0 rfl ?_
  refine zi_getR (r' := 1) (i' := 0) hO dX11_init_179 fX11_11 rfl rfl ⟨by decide, by decide⟩ rfl ?_
  refine zi_iload_n hO dX11_init_182 1 rfl ?_
  refine zk_new (n' := 88) (ci := 7) (r := 41) (i := 1) hO (zN_to hN (by omega) (by omega) (by omega)) (by omega) (by omega) dX11_init_183 hX11_9 rfl rfl rfl (h41 1) (g41 1) rfl (by decide) (by decide) ?_
  refine zi_dup hO dX11_init_186 rfl ?_
  refine zi_callIN (n2 := 89) (as := []) hO (zN_to hN (by omega) (by omega) (by omega)) (by decide) dX11_init_187 kX11_95 ksX11_95 rfl rfl (by decide) rfl (Nat.le_of_ble_eq_true rfl) rfl (C_X7_init _ _ (i := 1) (by decide) (h41 1) (h42 1)) (fun _ _ _ _ hp => ?_)
  obtain ⟨rfl, rfl, rfl⟩ := hp
  refine zk_aast (t := 0) (k := 1) hO dX11_init_190 rfl ⟨by decide, by decide⟩ (vp_in_nI (n := 1) (by decide) (by decide)) (by decide) rfl ⟨by decide, by decide⟩ rfl ?_
  refine zi_iinc (v' := 2) (L' := [(0, vR 0 0), (1, vI 2)]) hO dX11_init_191 1 rfl (by decide) (by decide) rfl rfl ?_
  refine zi_goto (tgt := 172) hO dX11_init_194 (by decide) ?_
  refine zi_iload_n hO dX11_init_172 1 rfl ?_
  refine zi_bipush (v := 8) hO dX11_init_173 (by decide) ?_
  refine zi_icmp_ge (tgt := 197) hO dX11_init_175 (by decide) (fun c => absurd c (by decide)) (fun _ => ?_)
  refine zi_aload_n hO dX11_init_178 0 rfl ?_
  refine zi_getR (r' := 1) (i' := 0) hO dX11_init_179 fX11_11 rfl rfl ⟨by decide, by decide⟩ rfl ?_
  refine zi_iload_n hO dX11_init_182 1 rfl ?_
  refine zk_new (n' := 90) (ci := 7) (r := 41) (i := 2) hO (zN_to hN (by omega) (by omega) (by omega)) (by omega) (by omega) dX11_init_183 hX11_9 rfl rfl rfl (h41 2) (g41 2) rfl (by decide) (by decide) ?_
  refine zi_dup hO dX11_init_186 rfl ?_
  refine zi_callIN (n2 := 91) (as := []) hO (zN_to hN (by omega) (by omega) (by omega)) (by decide) dX11_init_187 kX11_95 ksX11_95 rfl rfl (by decide) rfl (Nat.le_of_ble_eq_true rfl) rfl (C_X7_init _ _ (i := 2) (by decide) (h41 2) (h42 2)) (fun _ _ _ _ hp => ?_)
  obtain ⟨rfl, rfl, rfl⟩ := hp
  refine zk_aast (t := 0) (k := 2) hO dX11_init_190 rfl ⟨by decide, by decide⟩ (vp_in_nI (n := 2) (by decide) (by decide)) (by decide) rfl ⟨by decide, by decide⟩ rfl ?_
  refine zi_iinc (v' := 3) (L' := [(0, vR 0 0), (1, vI 3)]) hO dX11_init_191 1 rfl (by decide) (by decide) rfl rfl ?_
  refine zi_goto (tgt := 172) hO dX11_init_194 (by decide) ?_
  refine zi_iload_n hO dX11_init_172 1 rfl ?_
  refine zi_bipush (v := 8) hO dX11_init_173 (by decide) ?_
  refine zi_icmp_ge (tgt := 197) hO dX11_init_175 (by decide) (fun c => absurd c (by decide)) (fun _ => ?_)
  refine zi_aload_n hO dX11_init_178 0 rfl ?_
  refine zi_getR (r' := 1) (i' := 0) hO dX11_init_179 fX11_11 rfl rfl ⟨by decide, by decide⟩ rfl ?_
  refine zi_iload_n hO dX11_init_182 1 rfl ?_
  refine zk_new (n' := 92) (ci := 7) (r := 41) (i := 3) hO (zN_to hN (by omega) (by omega) (by omega)) (by omega) (by omega) dX11_init_183 hX11_9 rfl rfl rfl (h41 3) (g41 3) rfl (by decide) (by decide) ?_
  refine zi_dup hO dX11_init_186 rfl ?_
  refine zi_callIN (n2 := 93) (as := []) hO (zN_to hN (by omega) (by omega) (by omega)) (by decide) dX11_init_187 kX11_95 ksX11_95 rfl rfl (by decide) rfl (Nat.le_of_ble_eq_true rfl) rfl (C_X7_init _ _ (i := 3) (by decide) (h41 3) (h42 3)) (fun _ _ _ _ hp => ?_)
  obtain ⟨rfl, rfl, rfl⟩ := hp
  refine zk_aast (t := 0) (k := 3) hO dX11_init_190 rfl ⟨by decide, by decide⟩ (vp_in_nI (n := 3) (by decide) (by decide)) (by decide) rfl ⟨by decide, by decide⟩ rfl ?_
  refine zi_iinc (v' := 4) (L' := [(0, vR 0 0), (1, vI 4)]) hO dX11_init_191 1 rfl (by decide) (by decide) rfl rfl ?_
  refine zi_goto (tgt := 172) hO dX11_init_194 (by decide) ?_
  refine zi_iload_n hO dX11_init_172 1 rfl ?_
  refine zi_bipush (v := 8) hO dX11_init_173 (by decide) ?_
  refine zi_icmp_ge (tgt := 197) hO dX11_init_175 (by decide) (fun c => absurd c (by decide)) (fun _ => ?_)
  refine zi_aload_n hO dX11_init_178 0 rfl ?_
  refine zi_getR (r' := 1) (i' := 0) hO dX11_init_179 fX11_11 rfl rfl ⟨by decide, by decide⟩ rfl ?_
  refine zi_iload_n hO dX11_init_182 1 rfl ?_
  refine zk_new (n' := 94) (ci := 7) (r := 41) (i := 4) hO (zN_to hN (by omega) (by omega) (by omega)) (by omega) (by omega) dX11_init_183 hX11_9 rfl rfl rfl (h41 4) (g41 4) rfl (by decide) (by decide) ?_
  refine zi_dup hO dX11_init_186 rfl ?_
  refine zi_callIN (n2 := 95) (as := []) hO (zN_to hN (by omega) (by omega) (by omega)) (by decide) dX11_init_187 kX11_95 ksX11_95 rfl rfl (by decide) rfl (Nat.le_of_ble_eq_true rfl) rfl (C_X7_init _ _ (i := 4) (by decide) (h41 4) (h42 4)) (fun _ _ _ _ hp => ?_)
  obtain ⟨rfl, rfl, rfl⟩ := hp
  refine zk_aast (t := 0) (k := 4) hO dX11_init_190 rfl ⟨by decide, by decide⟩ (vp_in_nI (n := 4) (by decide) (by decide)) (by decide) rfl ⟨by decide, by decide⟩ rfl ?_
  refine zi_iinc (v' := 5) (L' := [(0, vR 0 0), (1, vI 5)]) hO dX11_init_191 1 rfl (by decide) (by decide) rfl rfl ?_
  refine zi_goto (tgt := 172) hO dX11_init_194 (by decide) ?_
  refine zi_iload_n hO dX11_init_172 1 rfl ?_
  refine zi_bipush (v := 8) hO dX11_init_173 (by decide) ?_
  refine zi_icmp_ge (tgt := 197) hO dX11_init_175 (by decide) (fun c => absurd c (by decide)) (fun _ => ?_)
  refine zi_aload_n hO dX11_init_178 0 rfl ?_
  refine zi_getR (r' := 1) (i' := 0) hO dX11_init_179 fX11_11 rfl rfl ⟨by decide, by decide⟩ rfl ?_
  refine zi_iload_n hO dX11_init_182 1 rfl ?_
  refine zk_new (n' := 96) (ci := 7) (r := 41) (i := 5) hO (zN_to hN (by omega) (by omega) (by omega)) (by omega) (by omega) dX11_init_183 hX11_9 rfl rfl rfl (h41 5) (g41 5) rfl (by decide) (by decide) ?_
  refine zi_dup hO dX11_init_186 rfl ?_
  refine zi_callIN (n2 := 97) (as := []) hO (zN_to hN (by omega) (by omega) (by omega)) (by decide) dX11_init_187 kX11_95 ksX11_95 rfl rfl (by decide) rfl (Nat.le_of_ble_eq_true rfl) rfl (C_X7_init _ _ (i := 5) (by decide) (h41 5) (h42 5)) (fun _ _ _ _ hp => ?_)
  obtain ⟨rfl, rfl, rfl⟩ := hp
  refine zk_aast (t := 0) (k := 5) hO dX11_init_190 rfl ⟨by decide, by decide⟩ (vp_in_nI (n := 5) (by decide) (by decide)) (by decide) rfl ⟨by decide, by decide⟩ rfl ?_
  refine zi_iinc (v' := 6) (L' := [(0, vR 0 0), (1, vI 6)]) hO dX11_init_191 1 rfl (by decide) (by decide) rfl rfl ?_
  refine zi_goto (tgt := 172) hO dX11_init_194 (by decide) ?_
  refine zi_iload_n hO dX11_init_172 1 rfl ?_
  refine zi_bipush (v := 8) hO dX11_init_173 (by decide) ?_
  refine zi_icmp_ge (tgt := 197) hO dX11_init_175 (by decide) (fun c => absurd c (by decide)) (fun _ => ?_)
  refine zi_aload_n hO dX11_init_178 0 rfl ?_
  refine zi_getR (r' := 1) (i' := 0) hO dX11_init_179 fX11_11 rfl rfl ⟨by decide, by decide⟩ rfl ?_
  refine zi_iload_n hO dX11_init_182 1 rfl ?_
  refine zk_new (n' := 98) (ci := 7) (r := 41) (i := 6) hO (zN_to hN (by omega) (by omega) (by omega)) (by omega) (by omega) dX11_init_183 hX11_9 rfl rfl rfl (h41 6) (g41 6) rfl (by decide) (by decide) ?_
  refine zi_dup hO dX11_init_186 rfl ?_
  refine zi_callIN (n2 := 99) (as := []) hO (zN_to hN (by omega) (by omega) (by omega)) (by decide) dX11_init_187 kX11_95 ksX11_95 rfl rfl (by decide) rfl (Nat.le_of_ble_eq_true rfl) rfl (C_X7_init _ _ (i := 6) (by decide) (h41 6) (h42 6)) (fun _ _ _ _ hp => ?_)
  obtain ⟨rfl, rfl, rfl⟩ := hp
  refine zk_aast (t := 0) (k := 6) hO dX11_init_190 rfl ⟨by decide, by decide⟩ (vp_in_nI (n := 6) (by decide) (by decide)) (by decide) rfl ⟨by decide, by decide⟩ rfl ?_
  refine zi_iinc (v' := 7) (L' := [(0, vR 0 0), (1, vI 7)]) hO dX11_init_191 1 rfl (by decide) (by decide) rfl rfl ?_
  refine zi_goto (tgt := 172) hO dX11_init_194 (by decide) ?_
  refine zi_iload_n hO dX11_init_172 1 rfl ?_
  refine zi_bipush (v := 8) hO dX11_init_173 (by decide) ?_
  refine zi_icmp_ge (tgt := 197) hO dX11_init_175 (by decide) (fun c => absurd c (by decide)) (fun _ => ?_)
  refine zi_aload_n hO dX11_init_178 0 rfl ?_
  refine zi_getR (r' := 1) (i' := 0) hO dX11_init_179 fX11_11 rfl rfl ⟨by decide, by decide⟩ rfl ?_
  refine zi_iload_n hO dX11_init_182 1 rfl ?_
  refine zk_new (n' := 100) (ci := 7) (r := 41) (i := 7) hO (zN_to hN (by omega) (by omega) (by omega)) (by omega) (by omega) dX11_init_183 hX11_9 rfl rfl rfl (h41 7) (g41 7) rfl (by decide) (by decide) ?_
  refine zi_dup hO dX11_init_186 rfl ?_
  refine zi_callIN (n2 := 101) (as := []) hO (zN_to hN (by omega) (by omega) (by omega)) (by decide) dX11_init_187 kX11_95 ksX11_95 rfl rfl (by decide) rfl (Nat.le_of_ble_eq_true rfl) rfl (C_X7_init _ _ (i := 7) (by decide) (h41 7) (h42 7)) (fun _ _ _ _ hp => ?_)
  obtain ⟨rfl, rfl, rfl⟩ := hp
  refine zk_aast (t := 0) (k := 7) hO dX11_init_190 rfl ⟨by decide, by decide⟩ (vp_in_nI (n := 7) (by decide) (by decide)) (by decide) rfl ⟨by decide, by decide⟩ rfl ?_
  refine zi_iinc (v' := 8) (L' := [(0, vR 0 0), (1, vI 8)]) hO dX11_init_191 1 rfl (by decide) (by decide) rfl rfl ?_
  refine zi_goto (tgt := 172) hO dX11_init_194 (by decide) ?_
  refine zi_iload_n hO dX11_init_172 1 rfl ?_
  refine zi_bipush (v := 8) hO dX11_init_173 (by decide) ?_
  refine zi_icmp_ge (tgt := 197) hO dX11_init_175 (by decide) (fun _ => ?_) (fun c => absurd (by decide) c)
  exact zi_vreturn hO hR rfl dX11_init_197 ⟨rfl, rfl, rfl⟩

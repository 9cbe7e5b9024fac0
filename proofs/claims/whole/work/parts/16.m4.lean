/-! shares -/
def bestN (rest : Nat → Nat) (M : Nat) : Nat → Option Nat
  | 0 => none
  | a + 1 => match bestN rest M a with
    | none => if M / 2 ^ a % 2 = 0 then some a else none
    | some b => if M / 2 ^ a % 2 = 0 ∧ rest b < rest a then some a else some b
theorem bestN_spec {rest : Nat → Nat} {M : Nat} : ∀ {a b : Nat}, bestN rest M a = some b → b < a ∧ M / 2 ^ b % 2 = 0
  | 0, b, h => by cases h
  | a + 1, b, h => by
    rw [bestN] at h
    cases hb : bestN rest M a with
    | none =>
      rw [hb] at h
      dsimp only at h
      split at h
      · cases h; exact ⟨by omega, by assumption⟩
      · cases h
    | some c =>
      rw [hb] at h
      have := bestN_spec hb
      dsimp only at h
      split at h
      · rename_i q; cases h; exact ⟨by omega, q.1⟩
      · cases h; exact ⟨by omega, this.2⟩
theorem bestN_some {rest : Nat → Nat} {M : Nat} : ∀ {a : Nat}, (∃ b, b < a ∧ M / 2 ^ b % 2 = 0) → ∃ b, bestN rest M a = some b
  | 0, ⟨b, h, _⟩ => by omega
  | a + 1, ⟨b, h, hb⟩ => by
    rw [bestN]
    cases hc : bestN rest M a with
    | some c =>
      dsimp only
      split
      · exact ⟨_, rfl⟩
      · exact ⟨_, rfl⟩
    | none =>
      dsimp only
      by_cases hba : b = a
      · subst hba; exact ⟨b, if_pos hb⟩
      · obtain ⟨c, h2⟩ := bestN_some (rest := rest) (M := M) ⟨b, by omega, hb⟩ (a := a)
        rw [hc] at h2
        cases h2
def gvN (rest : Nat → Nat) : Nat → Nat → Nat
  | 0, M => M
  | n + 1, M => match bestN rest M 4 with
    | none => M
    | some b => gvN rest n (M + 2 ^ b)
theorem mbits : ∀ M, M < 16 → ∀ b, b < 4 → M / 2 ^ b % 2 = 0 → (nI M ||| ((1 : Int32) <<< (nI b &&& 31))) = nI (M + 2 ^ b) ∧ M + 2 ^ b < 16 ∧ btN (M + 2 ^ b) 4 = btN M 4 + 1 ∧ ∀ a, a < 4 → (M + 2 ^ b) / 2 ^ a % 2 = M / 2 ^ a % 2 + (if a = b then 1 else 0) := by decide +kernel
theorem munmet : ∀ M, M < 16 → btN M 4 < 4 → ∃ b, b < 4 ∧ M / 2 ^ b % 2 = 0 := by decide +kernel
def sum4 (c : Nat → Nat) : Nat := c 0 + c 1 + c 2 + c 3
def gsh (A : Nat) (c : Nat → Nat) (O a : Nat) : Nat := if O = 0 then 0 else A * c a / O + gvN (fun a => A * c a % O) (A - sum4 (fun a => A * c a / O)) 0 / 2 ^ a % 2
theorem gleft {A O : Nat} {c : Nat → Nat} (hO : sum4 c = O) (h0 : ¬ O = 0) : sum4 (fun a => A * c a / O) ≤ A ∧ A - sum4 (fun a => A * c a / O) ≤ 3 := by
  unfold sum4 at *
  have e0 := Nat.div_add_mod (A * c 0) O
  have e1 := Nat.div_add_mod (A * c 1) O
  have e2 := Nat.div_add_mod (A * c 2) O
  have e3 := Nat.div_add_mod (A * c 3) O
  have l0 := Nat.mod_lt (A * c 0) (Nat.pos_of_ne_zero h0)
  have l1 := Nat.mod_lt (A * c 1) (Nat.pos_of_ne_zero h0)
  have l2 := Nat.mod_lt (A * c 2) (Nat.pos_of_ne_zero h0)
  have l3 := Nat.mod_lt (A * c 3) (Nat.pos_of_ne_zero h0)
  dsimp only
  generalize A * c 0 / O = q0 at *
  generalize A * c 1 / O = q1 at *
  generalize A * c 2 / O = q2 at *
  generalize A * c 3 / O = q3 at *
  have hs : A * c 0 + A * c 1 + A * c 2 + A * c 3 = O * A := by rw [← Nat.mul_add, ← Nat.mul_add, ← Nat.mul_add, hO, Nat.mul_comm]
  have hq : O * (q0 + q1 + q2 + q3) = O * q0 + O * q1 + O * q2 + O * q3 := by rw [Nat.mul_add, Nat.mul_add, Nat.mul_add]
  have a1 : q0 + q1 + q2 + q3 ≤ A := by
    refine Nat.le_of_mul_le_mul_left (c := O) ?_ (Nat.pos_of_ne_zero h0)
    omega
  refine ⟨a1, ?_⟩
  have hm : O * (A - (q0 + q1 + q2 + q3)) = O * A - O * (q0 + q1 + q2 + q3) := Nat.mul_sub _ _ _
  have a2 : A - (q0 + q1 + q2 + q3) < 4 := by
    apply Nat.lt_of_mul_lt_mul_left (a := O)
    omega
  omega
theorem rX12_give_0 {x : zX} {w : zWd} {im : zMem} {lv : Int64} {P : zMem → Int64 → Prop} {x1 : Int32} {x2 : Int32} (hO : zOK x w zyX12_give 2) (hR : zRetV x w zyX12_give P) (hN : zN x 126 126)
 (h : zW x w 8 [(0, vR 43 0), (1, vI x1), (2, vI x2), (3, vI x1), (4, vI 0), (5, vI 0)] [] im lv) :
 zW x w 0 [(0, vR 43 0), (1, vI x1), (2, vI x2)] [] im lv := by
  refine zi_iload_n hO dX12_give_0 1 rfl ?_
  refine zi_istore_n (L' := [(0, vR 43 0), (1, vI x1), (2, vI x2), (3, vI x1)]) hO dX12_give_1 (by decide) rfl rfl ?_
  refine zi_iconst (v := 0) hO dX12_give_2 (by decide) ?_
  refine zi_istore (L' := [(0, vR 43 0), (1, vI x1), (2, vI x2), (3, vI x1), (4, vI 0)]) hO dX12_give_3 (by decide) rfl rfl ?_
  refine zi_iconst (v := 0) hO dX12_give_5 (by decide) ?_
  refine zi_istore (L' := [(0, vR 43 0), (1, vI x1), (2, vI x2), (3, vI x1), (4, vI 0), (5, vI 0)]) hO dX12_give_6 (by decide) rfl rfl ?_
  exact h
theorem rX12_give_8 {x : zX} {w : zWd} {im : zMem} {lv : Int64} {P : zMem → Int64 → Prop} {x1 : Int32} {x2 : Int32} {x3 : Int32} {x4 : Int32} {x5 : Int32} (hO : zOK x w zyX12_give 2) (hR : zRetV x w zyX12_give P) (hN : zN x 126 126)
 (h : ((4 ≤ x5 → zW x w 56 [(0, vR 43 0), (1, vI x1), (2, vI x2), (3, vI x3), (4, vI x4), (5, vI x5)] [] im lv) ∧
 (¬ (4 ≤ x5) → ((¬ (x2 = 0) → (vp_in x5 4 ∧ (¬ x2 = 0 ∧ zW x w 8 [(0, vR 43 0), (1, vI x1), (2, vI x2), (3, vI (x3 - ((zwr im 59 0 (Int32.toNatClampNeg x5) ((x1 * (im 58 0 (Int32.toNatClampNeg x5))) / x2)) 59 0 (Int32.toNatClampNeg x5)))), (4, vI x4), (5, vI (x5 + 1))] [] (zwr im 59 0 (Int32.toNatClampNeg x5) ((x1 * (im 58 0 (Int32.toNatClampNeg x5))) / x2)) lv))) ∧
 (x2 = 0 → (vp_in x5 4 ∧ zW x w 8 [(0, vR 43 0), (1, vI x1), (2, vI x2), (3, vI (x3 - ((zwr im 59 0 (Int32.toNatClampNeg x5) 0) 59 0 (Int32.toNatClampNeg x5)))), (4, vI x4), (5, vI (x5 + 1))] [] (zwr im 59 0 (Int32.toNatClampNeg x5) 0) lv)))))) :
 zW x w 8 [(0, vR 43 0), (1, vI x1), (2, vI x2), (3, vI x3), (4, vI x4), (5, vI x5)] [] im lv := by
  refine zi_iload hO dX12_give_8 5 rfl ?_
  refine zi_iconst (v := 4) hO dX12_give_10 (by decide) ?_
  refine zi_icmp_ge (tgt := 56) hO dX12_give_11 (by decide) (fun c1 => ?_) (fun c1 => ?_)
  · have h := h.1 c1
    exact h
  · have h := h.2 c1
    refine zi_aload_n hO dX12_give_14 0 rfl ?_
    refine zi_getR (r' := 59) (i' := 0) hO dX12_give_15 fX12_83 rfl rfl (zI (by decide)) rfl ?_
    refine zi_iload hO dX12_give_18 5 rfl ?_
    refine zi_iload_n hO dX12_give_20 2 rfl ?_
    refine zi_if_ne (tgt := 28) hO dX12_give_21 (by decide) (fun c2 => ?_) (fun c2 => ?_)
    · have h := h.1 c2
      refine zi_iload_n hO dX12_give_28 1 rfl ?_
      refine zi_aload_n hO dX12_give_29 0 rfl ?_
      refine zi_getR (r' := 58) (i' := 0) hO dX12_give_30 fX12_80 rfl rfl (zI (by decide)) rfl ?_
      refine zi_iload hO dX12_give_33 5 rfl ?_
      obtain ⟨s1, h⟩ := h
      refine zi_iald hO dX12_give_35 rfl (zI (by decide)) s1 ?_
      refine zi_imul hO dX12_give_36 ?_
      refine zi_iload_n hO dX12_give_37 2 rfl ?_
      obtain ⟨s2, h⟩ := h
      refine zi_idiv hO dX12_give_38 s2 ?_
      refine zi_iast hO dX12_give_39 rfl (zI (by decide)) s1 ?_
      refine zi_iload_n hO dX12_give_40 3 rfl ?_
      refine zi_aload_n hO dX12_give_41 0 rfl ?_
      refine zi_getR (r' := 59) (i' := 0) hO dX12_give_42 fX12_83 rfl rfl (zI (by decide)) rfl ?_
      refine zi_iload hO dX12_give_45 5 rfl ?_
      refine zi_iald hO dX12_give_47 rfl (zI (by decide)) s1 ?_
      refine zi_isub hO dX12_give_48 ?_
      refine zi_istore_n (L' := [(0, vR 43 0), (1, vI x1), (2, vI x2), (3, vI (x3 - ((zwr im 59 0 (Int32.toNatClampNeg x5) ((x1 * (im 58 0 (Int32.toNatClampNeg x5))) / x2)) 59 0 (Int32.toNatClampNeg x5)))), (4, vI x4), (5, vI x5)]) hO dX12_give_49 (by decide) rfl rfl ?_
      refine zi_iinc (v' := (x5 + 1)) (L' := [(0, vR 43 0), (1, vI x1), (2, vI x2), (3, vI (x3 - ((zwr im 59 0 (Int32.toNatClampNeg x5) ((x1 * (im 58 0 (Int32.toNatClampNeg x5))) / x2)) 59 0 (Int32.toNatClampNeg x5)))), (4, vI x4), (5, vI (x5 + 1))]) hO dX12_give_50 5 rfl rfl (by decide) rfl rfl ?_
      refine zi_goto (tgt := 8) hO dX12_give_53 (by decide) ?_
      exact h
    · have h := h.2 c2
      refine zi_iconst (v := 0) hO dX12_give_24 (by decide) ?_
      refine zi_goto (tgt := 39) hO dX12_give_25 (by decide) ?_
      obtain ⟨s3, h⟩ := h
      refine zi_iast hO dX12_give_39 rfl (zI (by decide)) s3 ?_
      refine zi_iload_n hO dX12_give_40 3 rfl ?_
      refine zi_aload_n hO dX12_give_41 0 rfl ?_
      refine zi_getR (r' := 59) (i' := 0) hO dX12_give_42 fX12_83 rfl rfl (zI (by decide)) rfl ?_
      refine zi_iload hO dX12_give_45 5 rfl ?_
      refine zi_iald hO dX12_give_47 rfl (zI (by decide)) s3 ?_
      refine zi_isub hO dX12_give_48 ?_
      refine zi_istore_n (L' := [(0, vR 43 0), (1, vI x1), (2, vI x2), (3, vI (x3 - ((zwr im 59 0 (Int32.toNatClampNeg x5) 0) 59 0 (Int32.toNatClampNeg x5)))), (4, vI x4), (5, vI x5)]) hO dX12_give_49 (by decide) rfl rfl ?_
      refine zi_iinc (v' := (x5 + 1)) (L' := [(0, vR 43 0), (1, vI x1), (2, vI x2), (3, vI (x3 - ((zwr im 59 0 (Int32.toNatClampNeg x5) 0) 59 0 (Int32.toNatClampNeg x5)))), (4, vI x4), (5, vI (x5 + 1))]) hO dX12_give_50 5 rfl rfl (by decide) rfl rfl ?_
      refine zi_goto (tgt := 8) hO dX12_give_53 (by decide) ?_
      exact h
theorem rX12_give_56 {x : zX} {w : zWd} {im : zMem} {lv : Int64} {P : zMem → Int64 → Prop} {x1 : Int32} {x2 : Int32} {x3 : Int32} {x4 : Int32} {x5 : Int32} (hO : zOK x w zyX12_give 2) (hR : zRetV x w zyX12_give P) (hN : zN x 126 126)
 (h : ((x3 ≤ 0 → P im lv) ∧
 (¬ (x3 ≤ 0) → ((x2 ≤ 0 → P im lv) ∧
 (¬ (x2 ≤ 0) → zW x w 71 [(0, vR 43 0), (1, vI x1), (2, vI x2), (3, vI x3), (4, vI x4), (5, vI (-1000000)), (6, vI 0)] [] im lv))))) :
 zW x w 56 [(0, vR 43 0), (1, vI x1), (2, vI x2), (3, vI x3), (4, vI x4), (5, vI x5)] [] im lv := by
  refine zi_iload_n hO dX12_give_56 3 rfl ?_
  refine zi_if_le (tgt := 160) hO dX12_give_57 (by decide) (fun c1 => ?_) (fun c1 => ?_)
  · have h := h.1 c1
    exact zr_V hO hR rfl dX12_give_160 h
  · have h := h.2 c1
    refine zi_iload_n hO dX12_give_60 2 rfl ?_
    refine zi_if_le (tgt := 160) hO dX12_give_61 (by decide) (fun c2 => ?_) (fun c2 => ?_)
    · have h := h.1 c2
      exact zr_V hO hR rfl dX12_give_160 h
    · have h := h.2 c2
      refine zi_ldc (v := (-1000000)) hO dX12_give_64 nX12_131 ?_
      refine zi_istore (L' := [(0, vR 43 0), (1, vI x1), (2, vI x2), (3, vI x3), (4, vI x4), (5, vI (-1000000))]) hO dX12_give_66 (by decide) rfl rfl ?_
      refine zi_iconst (v := 0) hO dX12_give_68 (by decide) ?_
      refine zi_istore (L' := [(0, vR 43 0), (1, vI x1), (2, vI x2), (3, vI x3), (4, vI x4), (5, vI (-1000000)), (6, vI 0)]) hO dX12_give_69 (by decide) rfl rfl ?_
      exact h
theorem rX12_give_71 {x : zX} {w : zWd} {im : zMem} {lv : Int64} {P : zMem → Int64 → Prop} {x1 : Int32} {x2 : Int32} {x3 : Int32} {x4 : Int32} {x5 : Int32} {x6 : Int32} (hO : zOK x w zyX12_give 2) (hR : zRetV x w zyX12_give P) (hN : zN x 126 126)
 (h : ((4 ≤ x6 → (vp_in x5 4 ∧ zW x w 56 [(0, vR 43 0), (1, vI x1), (2, vI x2), (3, vI (x3 + (-1))), (4, vI (x4 ||| (1 <<< (x5 &&& 31)))), (5, vI x5)] [] (zwr im 59 0 (Int32.toNatClampNeg x5) ((im 59 0 (Int32.toNatClampNeg x5)) + 1)) lv)) ∧
 (¬ (4 ≤ x6) → ((¬ (((x4 >>> (x6 &&& 31)) &&& 1) = 0) → zW x w 71 [(0, vR 43 0), (1, vI x1), (2, vI x2), (3, vI x3), (4, vI x4), (5, vI x5), (6, vI (x6 + 1))] [] im lv) ∧
 (((x4 >>> (x6 &&& 31)) &&& 1) = 0 → ((x5 = (-1000000) → zW x w 71 [(0, vR 43 0), (1, vI x1), (2, vI x2), (3, vI x3), (4, vI x4), (5, vI x6), (6, vI (x6 + 1))] [] im lv) ∧
 (¬ (x5 = (-1000000)) → (vp_in x6 4 ∧ (¬ x2 = 0 ∧ (vp_in x5 4 ∧ ((((x1 * (im 58 0 (Int32.toNatClampNeg x6))) - (x1 * (im 58 0 (Int32.toNatClampNeg x6))) / x2 * x2) ≤ ((x1 * (im 58 0 (Int32.toNatClampNeg x5))) - (x1 * (im 58 0 (Int32.toNatClampNeg x5))) / x2 * x2) → zW x w 71 [(0, vR 43 0), (1, vI x1), (2, vI x2), (3, vI x3), (4, vI x4), (5, vI x5), (6, vI (x6 + 1))] [] im lv) ∧
 (¬ (((x1 * (im 58 0 (Int32.toNatClampNeg x6))) - (x1 * (im 58 0 (Int32.toNatClampNeg x6))) / x2 * x2) ≤ ((x1 * (im 58 0 (Int32.toNatClampNeg x5))) - (x1 * (im 58 0 (Int32.toNatClampNeg x5))) / x2 * x2)) → zW x w 71 [(0, vR 43 0), (1, vI x1), (2, vI x2), (3, vI x3), (4, vI x4), (5, vI x6), (6, vI (x6 + 1))] [] im lv)))))))))))) :
 zW x w 71 [(0, vR 43 0), (1, vI x1), (2, vI x2), (3, vI x3), (4, vI x4), (5, vI x5), (6, vI x6)] [] im lv := by
  refine zi_iload hO dX12_give_71 6 rfl ?_
  refine zi_iconst (v := 4) hO dX12_give_73 (by decide) ?_
  refine zi_icmp_ge (tgt := 134) hO dX12_give_74 (by decide) (fun c1 => ?_) (fun c1 => ?_)
  · have h := h.1 c1
    refine zi_iload hO dX12_give_134 4 rfl ?_
    refine zi_iconst (v := 1) hO dX12_give_136 (by decide) ?_
    refine zi_iload hO dX12_give_137 5 rfl ?_
    refine zi_ishl hO dX12_give_139 ?_
    refine zi_ior hO dX12_give_140 ?_
    refine zi_istore (L' := [(0, vR 43 0), (1, vI x1), (2, vI x2), (3, vI x3), (4, vI (x4 ||| (1 <<< (x5 &&& 31)))), (5, vI x5), (6, vI x6)]) hO dX12_give_141 (by decide) rfl rfl ?_
    refine zi_aload_n hO dX12_give_143 0 rfl ?_
    refine zi_getR (r' := 59) (i' := 0) hO dX12_give_144 fX12_83 rfl rfl (zI (by decide)) rfl ?_
    refine zi_iload hO dX12_give_147 5 rfl ?_
    refine zi_dup2 hO dX12_give_149 rfl rfl ?_
    obtain ⟨s1, h⟩ := h
    refine zi_iald hO dX12_give_150 rfl (zI (by decide)) s1 ?_
    refine zi_iconst (v := 1) hO dX12_give_151 (by decide) ?_
    refine zi_iadd hO dX12_give_152 ?_
    refine zi_iast hO dX12_give_153 rfl (zI (by decide)) s1 ?_
    refine zi_iinc (v' := (x3 + (-1))) (L' := [(0, vR 43 0), (1, vI x1), (2, vI x2), (3, vI (x3 + (-1))), (4, vI (x4 ||| (1 <<< (x5 &&& 31)))), (5, vI x5), (6, vI x6)]) hO dX12_give_154 3 rfl rfl (by decide) rfl rfl ?_
    refine zi_goto (tgt := 56) hO dX12_give_157 (by decide) ?_
    refine zi_pick (L' := [(0, vR 43 0), (1, vI x1), (2, vI x2), (3, vI (x3 + (-1))), (4, vI (x4 ||| (1 <<< (x5 &&& 31)))), (5, vI x5)]) [0, 1, 2, 3, 4, 5] rfl ?_
    exact h
  · have h := h.2 c1
    refine zi_iload hO dX12_give_77 4 rfl ?_
    refine zi_iload hO dX12_give_79 6 rfl ?_
    refine zi_ishr hO dX12_give_81 ?_
    refine zi_iconst (v := 1) hO dX12_give_82 (by decide) ?_
    refine zi_iand hO dX12_give_83 ?_
    refine zi_if_ne (tgt := 124) hO dX12_give_84 (by decide) (fun c2 => ?_) (fun c2 => ?_)
    · have h := h.1 c2
      refine zi_iload hO dX12_give_124 5 rfl ?_
      refine zi_istore (L' := [(0, vR 43 0), (1, vI x1), (2, vI x2), (3, vI x3), (4, vI x4), (5, vI x5), (6, vI x6)]) hO dX12_give_126 (by decide) rfl rfl ?_
      refine zi_iinc (v' := (x6 + 1)) (L' := [(0, vR 43 0), (1, vI x1), (2, vI x2), (3, vI x3), (4, vI x4), (5, vI x5), (6, vI (x6 + 1))]) hO dX12_give_128 6 rfl rfl (by decide) rfl rfl ?_
      refine zi_goto (tgt := 71) hO dX12_give_131 (by decide) ?_
      exact h
    · have h := h.2 c2
      refine zi_iload hO dX12_give_87 5 rfl ?_
      refine zi_ldc (v := (-1000000)) hO dX12_give_89 nX12_131 ?_
      refine zi_icmp_eq (tgt := 119) hO dX12_give_91 (by decide) (fun c3 => ?_) (fun c3 => ?_)
      · have h := h.1 c3
        refine zi_iload hO dX12_give_119 6 rfl ?_
        refine zi_goto (tgt := 126) hO dX12_give_121 (by decide) ?_
        refine zi_istore (L' := [(0, vR 43 0), (1, vI x1), (2, vI x2), (3, vI x3), (4, vI x4), (5, vI x6), (6, vI x6)]) hO dX12_give_126 (by decide) rfl rfl ?_
        refine zi_iinc (v' := (x6 + 1)) (L' := [(0, vR 43 0), (1, vI x1), (2, vI x2), (3, vI x3), (4, vI x4), (5, vI x6), (6, vI (x6 + 1))]) hO dX12_give_128 6 rfl rfl (by decide) rfl rfl ?_
        refine zi_goto (tgt := 71) hO dX12_give_131 (by decide) ?_
        exact h
      · have h := h.2 c3
        refine zi_iload_n hO dX12_give_94 1 rfl ?_
        refine zi_aload_n hO dX12_give_95 0 rfl ?_
        refine zi_getR (r' := 58) (i' := 0) hO dX12_give_96 fX12_80 rfl rfl (zI (by decide)) rfl ?_
        refine zi_iload hO dX12_give_99 6 rfl ?_
        obtain ⟨s2, h⟩ := h
        refine zi_iald hO dX12_give_101 rfl (zI (by decide)) s2 ?_
        refine zi_imul hO dX12_give_102 ?_
        refine zi_iload_n hO dX12_give_103 2 rfl ?_
        obtain ⟨s3, h⟩ := h
        refine zi_irem hO dX12_give_104 s3 ?_
        refine zi_iload_n hO dX12_give_105 1 rfl ?_
        refine zi_aload_n hO dX12_give_106 0 rfl ?_
        refine zi_getR (r' := 58) (i' := 0) hO dX12_give_107 fX12_80 rfl rfl (zI (by decide)) rfl ?_
        refine zi_iload hO dX12_give_110 5 rfl ?_
        obtain ⟨s4, h⟩ := h
        refine zi_iald hO dX12_give_112 rfl (zI (by decide)) s4 ?_
        refine zi_imul hO dX12_give_113 ?_
        refine zi_iload_n hO dX12_give_114 2 rfl ?_
        refine zi_irem hO dX12_give_115 s3 ?_
        refine zi_icmp_le (tgt := 124) hO dX12_give_116 (by decide) (fun c4 => ?_) (fun c4 => ?_)
        · have h := h.1 c4
          refine zi_iload hO dX12_give_124 5 rfl ?_
          refine zi_istore (L' := [(0, vR 43 0), (1, vI x1), (2, vI x2), (3, vI x3), (4, vI x4), (5, vI x5), (6, vI x6)]) hO dX12_give_126 (by decide) rfl rfl ?_
          refine zi_iinc (v' := (x6 + 1)) (L' := [(0, vR 43 0), (1, vI x1), (2, vI x2), (3, vI x3), (4, vI x4), (5, vI x5), (6, vI (x6 + 1))]) hO dX12_give_128 6 rfl rfl (by decide) rfl rfl ?_
          refine zi_goto (tgt := 71) hO dX12_give_131 (by decide) ?_
          exact h
        · have h := h.2 c4
          refine zi_iload hO dX12_give_119 6 rfl ?_
          refine zi_goto (tgt := 126) hO dX12_give_121 (by decide) ?_
          refine zi_istore (L' := [(0, vR 43 0), (1, vI x1), (2, vI x2), (3, vI x3), (4, vI x4), (5, vI x6), (6, vI x6)]) hO dX12_give_126 (by decide) rfl rfl ?_
          refine zi_iinc (v' := (x6 + 1)) (L' := [(0, vR 43 0), (1, vI x1), (2, vI x2), (3, vI x3), (4, vI x4), (5, vI x6), (6, vI (x6 + 1))]) hO dX12_give_128 6 rfl rfl (by decide) rfl rfl ?_
          refine zi_goto (tgt := 71) hO dX12_give_131 (by decide) ?_
          exact h
theorem rX12_shares_0 {x : zX} {w : zWd} {im : zMem} {lv : Int64} {P : zMem → Int64 → Prop} (hO : zOK x w zyX12_shares 3) (hR : zRetV x w zyX12_shares P) (hN : zN x 126 126)
 (h : zW x w 2 [(0, vR 43 0), (1, vI 0)] [] im lv) :
 zW x w 0 [(0, vR 43 0)] [] im lv := by
  refine zi_iconst (v := 0) hO dX12_shares_0 (by decide) ?_
  refine zi_istore_n (L' := [(0, vR 43 0), (1, vI 0)]) hO dX12_shares_1 (by decide) rfl rfl ?_
  exact h
theorem rX12_shares_2 {x : zX} {w : zWd} {im : zMem} {lv : Int64} {P : zMem → Int64 → Prop} {x1 : Int32} (hO : zOK x w zyX12_shares 3) (hR : zRetV x w zyX12_shares P) (hN : zN x 126 126)
 (h : ((4 ≤ x1 → (∃ P1 : Int32 → zMem → Int64 → Prop, zSpecI x.2.1 w 2 zyX12_delaysOf [vR 43 0, vI (-1)] im lv P1 ∧ ∀ (v1 : Int32) (im1 : zMem) (lv1 : Int64), P1 v1 im1 lv1 → (∃ P2 : zMem → Int64 → Prop, zSpecV x.2.1 w 2 zyX12_give [vR 43 0, vI v1, vI (im1 43 0 10)] im1 lv1 P2 ∧ ∀ (im2 : zMem) (lv2 : Int64), P2 im2 lv2 → P im2 lv2))) ∧
 (¬ (4 ≤ x1) → (∃ P3 : Int32 → zMem → Int64 → Prop, zSpecI x.2.1 w 2 zyX12_flightsOf [vR 43 0, vI x1] im lv P3 ∧ ∀ (v3 : Int32) (im3 : zMem) (lv3 : Int64), P3 v3 im3 lv3 → (vp_in x1 4 ∧ zW x w 2 [(0, vR 43 0), (1, vI (x1 + 1))] [] (zwr im3 58 0 (Int32.toNatClampNeg x1) v3) lv3))))) :
 zW x w 2 [(0, vR 43 0), (1, vI x1)] [] im lv := by
  refine zi_iload_n hO dX12_shares_2 1 rfl ?_
  refine zi_iconst (v := 4) hO dX12_shares_3 (by decide) ?_
  refine zi_icmp_ge (tgt := 24) hO dX12_shares_4 (by decide) (fun c1 => ?_) (fun c1 => ?_)
  · have h := h.1 c1
    refine zi_aload_n hO dX12_shares_24 0 rfl ?_
    refine zi_aload_n hO dX12_shares_25 0 rfl ?_
    refine zi_iconst (v := (-1)) hO dX12_shares_26 (by decide) ?_
    obtain ⟨P1, hM1, h⟩ := h
    refine zc_VI (as := [vI (-1)]) hO hN dX12_shares_27 kX12_253 (by decide) rfl (zI (by decide)) rfl rfl (Nat.le_of_ble_eq_true rfl) rfl rfl hM1 (fun v1 im1 lv1 hp1 => ?_)
    replace h := h v1 im1 lv1 hp1
    refine zi_aload_n hO dX12_shares_30 0 rfl ?_
    refine zi_getI hO dX12_shares_31 fX12_138 rfl rfl (zI (by decide)) ?_
    obtain ⟨P2, hM2, h⟩ := h
    refine zc_VV (as := [vI v1, vI (im1 43 0 10)]) hO hN dX12_shares_34 kX12_256 (by decide) rfl (zI (by decide)) rfl rfl (Nat.le_of_ble_eq_true rfl) rfl rfl hM2 (fun im2 lv2 hp2 => ?_)
    replace h := h im2 lv2 hp2
    exact zr_V hO hR rfl dX12_shares_37 h
  · have h := h.2 c1
    refine zi_aload_n hO dX12_shares_7 0 rfl ?_
    refine zi_getR (r' := 58) (i' := 0) hO dX12_shares_8 fX12_80 rfl rfl (zI (by decide)) rfl ?_
    refine zi_iload_n hO dX12_shares_11 1 rfl ?_
    refine zi_aload_n hO dX12_shares_12 0 rfl ?_
    refine zi_iload_n hO dX12_shares_13 1 rfl ?_
    obtain ⟨P3, hM3, h⟩ := h
    refine zc_VI (as := [vI x1]) hO hN dX12_shares_14 kX12_250 (by decide) rfl (zI (by decide)) rfl rfl (Nat.le_of_ble_eq_true rfl) rfl rfl hM3 (fun v3 im3 lv3 hp3 => ?_)
    replace h := h v3 im3 lv3 hp3
    obtain ⟨s4, h⟩ := h
    refine zi_iast hO dX12_shares_17 rfl (zI (by decide)) s4 ?_
    refine zi_iinc (v' := (x1 + 1)) (L' := [(0, vR 43 0), (1, vI (x1 + 1))]) hO dX12_shares_18 1 rfl rfl (by decide) rfl rfl ?_
    refine zi_goto (tgt := 2) hO dX12_shares_21 (by decide) ?_
    exact h
theorem zO1 {b : Nat} (hb : b < 1000) : ¬ nI b = -1000000 := by
  intro q
  have h2 : (nI b).toInt = (-1000000 : Int32).toInt := by rw [q]
  rw [nI_toInt (by omega)] at h2
  have h3 : (-1000000 : Int32).toInt = -1000000 := by decide
  omega
theorem C_X12_give (l : Launch) (w : zWd) {im : zMem} (lv : Int64) {A O : Nat} {c : Nat → Nat} (hA : A ≤ 200) (hO0 : O ≤ 200) (hc : ∀ a, a < 4 → im 58 0 a = nI (c a) ∧ c a ≤ 200) (hs : ¬ O = 0 → sum4 c = O) (hz : O = 0 → A = 0) : zSpecV l w 2 zyX12_give [vR 43 0, vI (nI A), vI (nI O)] im lv (fun im' lv' => ((∀ r, ¬ r = 59 → im' r = im r) ∧ ∀ a, a < 4 → im' 59 0 a = nI (gsh A c O a)) ∧ lv' = lv) := by
  refine ze_V (by decide) (Nat.le_of_ble_eq_true rfl) (fun x hO hR hN => rX12_give_0 hO hR hN ?_)
  have hmul : ∀ a, a < 4 → A * c a ≤ 40000 := fun a ha => Nat.mul_le_mul hA (hc a ha).2
  have hmod : ∀ a, a < 4 → nI (A * c a) - nI (A * c a) / nI O * nI O = nI (A * c a % O) ∨ O = 0 := by
    intro a ha
    by_cases h0 : O = 0
    · exact Or.inr h0
    · exact Or.inl (pk_rem (by have := hmul a ha; omega) (by omega) (by omega))
  -- the loop that gives one to the best
  have key2 : ¬ O = 0 → ∀ n M (im1 : zMem), M < 16 → btN M 4 + n ≤ 3 → (∀ r, ¬ r = 59 → im1 r = im r) → (∀ a, a < 4 → im1 59 0 a = nI (A * c a / O + M / 2 ^ a % 2)) → gvN (fun a => A * c a % O) n M = gvN (fun a => A * c a % O) (A - sum4 (fun a => A * c a / O)) 0 → ∀ x5, zW x w 56 [(0, vR 43 0), (1, vI (nI A)), (2, vI (nI O)), (3, vI (nI n)), (4, vI (nI M)), (5, vI x5)] [] im1 lv := by
    intro h0 n
    induction n with
    | zero =>
      intro M im1 hM hb h1 h2 h3 x5
      refine rX12_give_56 hO hR hN ⟨fun _ => ⟨⟨h1, fun a ha => ?_⟩, rfl⟩, fun q => absurd (by decide) q⟩
      rw [h2 a ha]
      unfold gsh
      rw [if_neg h0, ← h3, gvN]
    | succ n ih =>
      intro M im1 hM hb h1 h2 h3 x5
      refine rX12_give_56 hO hR hN ?_
      simp (disch := omega) only [zlit, nI_leI]
      refine ⟨fun q => by omega, fun _ => ⟨fun q => by omega, fun _ => ?_⟩⟩
      obtain ⟨b, hbest⟩ := bestN_some (rest := fun a => A * c a % O) (munmet M hM (by omega))
      rw [gvN, hbest] at h3
      dsimp only at h3
      have key3 : ∀ j k (o : Option Nat), j + k = 4 → bestN (fun a => A * c a % O) M k = o → zW x w 71 [(0, vR 43 0), (1, vI (nI A)), (2, vI (nI O)), (3, vI (nI (n + 1))), (4, vI (nI M)), (5, vI (zOp o)), (6, vI (nI k))] [] im1 lv := by
        intro j
        induction j with
        | zero =>
          intro k o hk ho
          have : k = 4 := by omega
          subst this
          rw [hbest] at ho
          subst ho
          obtain ⟨b1, b2⟩ := bestN_spec hbest
          obtain ⟨m1, m2, m3, m4⟩ := mbits M hM b b1 b2
          refine rX12_give_71 hO hR hN ⟨fun _ => ⟨vp_in_nI b1 (by decide), ?_⟩, fun q => absurd (by decide) q⟩
          simp only [zOp]
          rw [m1, pk_m1]
          simp (disch := omega) only [nI_clamp, h2 b b1]
          refine ih (M + 2 ^ b) _ m2 (by omega) (fun r hr => by rw [zwr_r hr]; exact h1 r hr) (fun a ha => ?_) h3 _
          rw [zwr_app, m4 a ha]
          by_cases hab : a = b
          · subst hab
            rw [if_pos ⟨rfl, rfl, rfl⟩, if_pos rfl]
            show _ + nI 1 = _
            rw [nI_add, Nat.add_assoc]
          · rw [if_neg (fun q => hab q.2.2), if_neg hab, h2 a ha]
            rfl
        | succ j jh =>
          intro k o hk ho
          have jh := jh (k + 1)
          refine rX12_give_71 hO hR hN ?_
          have e58 : im1 58 = im 58 := h1 58 (by decide)
          rw [zbit (by omega) (by omega)]
          have hck := (hc k (by omega)).1
          have hrk := (hmod k (by omega)).resolve_right h0
          simp (disch := omega) only [zlit, nI_add, nI_leI, nI_eq, nI_clamp, e58, hck, pk_mul]
          have vk : vp_in (nI k) 4 := vp_in_nI (by omega) (by decide)
          refine ⟨fun q => by omega, fun _ => ⟨fun q => ?_, fun q => ?_⟩⟩
          · refine jh o (by omega) ?_
            rw [bestN, ho]
            cases o with
            | none => exact if_neg q
            | some b => exact if_neg (fun z => q z.1)
          · cases o with
            | none => exact ⟨fun _ => jh (some k) (by omega) (by rw [bestN, ho]; exact if_pos q), fun z => absurd rfl z⟩
            | some b =>
              have hbk := (bestN_spec ho).1
              have hcb := (hc b (by omega)).1
              have hrb := (hmod b (by omega)).resolve_right h0
              have l1 := Nat.mod_le (A * c k) O
              have l2 := Nat.mod_le (A * c b) O
              have l3 := hmul k (by omega)
              have l4 := hmul b (by omega)
              refine ⟨fun z => absurd z (zO1 (by omega)), fun _ => ⟨vk, h0, vp_in_nI (by omega) (by decide), ?_⟩⟩
              simp only [zOp]
              simp (disch := omega) only [nI_clamp, hcb, pk_mul, hrk, hrb, nI_leI]
              refine ⟨fun z => jh (some b) (by omega) ?_, fun z => jh (some k) (by omega) ?_⟩
              · rw [bestN, ho]; exact if_neg (fun y => by have := y.2; omega)
              · rw [bestN, ho]; exact if_pos ⟨q, by omega⟩
      exact key3 4 0 none rfl rfl
  -- the loop of the whole parts
  have key1 : ∀ n k (im1 : zMem) (s : Nat → Nat), n + k = 4 → (∀ a, s a = if O = 0 then 0 else A * c a / O) → (∀ r, ¬ r = 59 → im1 r = im r) → (∀ a, a < k → im1 59 0 a = nI (s a)) → zW x w 8 [(0, vR 43 0), (1, vI (nI A)), (2, vI (nI O)), (3, vI (nI A - nI ((if 0 < k then s 0 else 0) + (if 1 < k then s 1 else 0) + (if 2 < k then s 2 else 0) + (if 3 < k then s 3 else 0)))), (4, vI (nI 0)), (5, vI (nI k))] [] im1 lv := by
    intro n
    induction n with
    | zero =>
      intro k im1 s hk hsd h1 h2
      have : k = 4 := by omega
      subst this
      refine rX12_give_8 hO hR hN ⟨fun _ => ?_, fun q => absurd (by decide) q⟩
      simp only [Nat.lt_irrefl, show (0 < 4) = True from by decide, show (1 < 4) = True from by decide, show (2 < 4) = True from by decide, show (3 < 4) = True from by decide, if_true]
      by_cases h0 : O = 0
      · have hA0 := hz h0
        subst h0 hA0
        have z : ∀ a, s a = 0 := fun a => by rw [hsd a]; exact if_pos rfl
        rw [z, z, z, z]
        refine rX12_give_56 hO hR hN ⟨fun _ => ⟨⟨h1, fun a ha => ?_⟩, rfl⟩, fun q => absurd (by decide) q⟩
        rw [h2 a ha, z]
        rfl
      · have z : ∀ a, s a = A * c a / O := fun a => by rw [hsd a]; exact if_neg h0
        obtain ⟨g1, g2⟩ := gleft (A := A) (hs h0) h0
        have g1 : A * c 0 / O + A * c 1 / O + A * c 2 / O + A * c 3 / O ≤ A := g1
        have g2 : A - (A * c 0 / O + A * c 1 / O + A * c 2 / O + A * c 3 / O) ≤ 3 := g2
        have hb0 : btN 0 4 = 0 := by decide +kernel
        rw [z, z, z, z, pk_sub g1]
        exact key2 h0 _ 0 im1 (by decide) (by rw [hb0]; omega) h1 (fun a ha => by rw [h2 a ha, z]; simp) rfl _
    | succ n ih =>
      intro k im1 s hk hsd h1 h2
      refine rX12_give_8 hO hR hN ?_
      have e58 : im1 58 = im 58 := h1 58 (by decide)
      have hck := (hc k (by omega)).1
      have hmk := hmul k (by omega)
      have vk : vp_in (nI k) 4 := vp_in_nI (by omega) (by decide)
      simp (disch := omega) only [zlit, nI_add, nI_leI, nI_eq, nI_clamp, e58, hck, pk_mul, zwr_eq]
      have hnext : ∀ (e : Nat), e = s k → (nI A - nI ((if 0 < k then s 0 else 0) + (if 1 < k then s 1 else 0) + (if 2 < k then s 2 else 0) + (if 3 < k then s 3 else 0)) - nI e) = nI A - nI ((if 0 < k + 1 then s 0 else 0) + (if 1 < k + 1 then s 1 else 0) + (if 2 < k + 1 then s 2 else 0) + (if 3 < k + 1 then s 3 else 0)) := by
        intro e he
        subst he
        have ha : ∀ (a b d : Int32), a - b - d = a - (b + d) := fun a b d => by rw [Int32.sub_sub]
        rw [ha, nI_add]
        rcases (show k = 0 ∨ k = 1 ∨ k = 2 ∨ k = 3 by omega) with rfl | rfl | rfl | rfl <;> simp
      have hmem : ∀ (e : Nat), e = s k → ∀ a, a < k + 1 → zwr im1 59 0 k (nI e) 59 0 a = nI (s a) := by
        intro e he a ha
        subst he
        rw [zwr_app]
        by_cases hak : a = k
        · subst hak; rw [if_pos ⟨rfl, rfl, rfl⟩]
        · rw [if_neg (fun q => hak q.2.2)]; exact h2 a (by omega)
      refine ⟨fun q => by omega, fun _ => ⟨fun q => ⟨vk, q, ?_⟩, fun q => ⟨vk, ?_⟩⟩⟩
      · have e1 : nI (A * c k) / nI O = nI (s k) := by
          rw [pk_div (by omega) (by omega) (by omega), hsd k, if_neg (by have := (nI_eq (a := O) (b := 0) (by omega) (by omega)); simpa [this] using q)]
        rw [e1, hnext _ rfl]
        exact ih (k + 1) _ s (by omega) hsd (fun r hr => by rw [zwr_r hr]; exact h1 r hr) (hmem _ rfl)
      · have e1 : 0 = s k := by rw [hsd k, if_pos q]
        rw [hnext 0 e1]
        exact ih (k + 1) _ s (by omega) hsd (fun r hr => by rw [zwr_r hr]; exact h1 r hr) (hmem 0 e1)
  have := key1 4 0 im (fun a => if O = 0 then 0 else A * c a / O) rfl (fun _ => rfl) (fun _ _ => rfl) (fun a ha => absurd ha (by omega))
  simp only [Nat.lt_irrefl, show (0 < 0) = False from by decide, show (1 < 0) = False from by decide, show (2 < 0) = False from by decide, show (3 < 0) = False from by decide, if_false] at this
  have e : nI A - nI (0 + 0 + 0 + 0) = nI A := by show nI A - 0 = nI A; exact Int32.sub_zero _
  rw [e] at this
  exact this

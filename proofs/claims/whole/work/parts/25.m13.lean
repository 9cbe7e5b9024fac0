def cstC (m : zMem) (f c : Nat) : Nat := rat m f * (c % 5) + 10 * (c / 5)
theorem cstC_le {m : zMem} (hW : WF m) {f c : Nat} (hf : f < nfl m) (hc : c < 15) : cstC m f c ≤ 416 := by
  obtain ⟨-, -, -, f3, -, -, -, -⟩ := hW.2.1 f hf
  have : rat m f * (c % 5) ≤ 99 * 4 := Nat.mul_le_mul f3.2 (by omega)
  unfold cstC
  omega
abbrev zB : Type := Option (Nat × List Nat)
def lessB (b : zB) (s : Nat) : Bool := match b with
  | none => true
  | some q => decide (s < q.1)
def fcG (st : Nat → zB → zB) : Nat → Nat → zB → zB
  | 0, _, b => b
  | n + 1, c, b => fcG st n (c + 1) (st c b)
/-- all choices of the flights ms, the first of least cost kept -/
def sr (m : zMem) : List Nat → (Nat → Nat) → Nat → List Nat → zB → zB
  | [], _, s, pf, _ => some (s, pf)
  | f :: ms, L, s, pf, b => fcG (fun c b => if (okT m f c (put m f c L) 48 && lessB b (s + cstC m f c)) = true then sr m ms (put m f c L) (s + cstC m f c) (pf ++ [c]) b else b) (5 * wys m f) 0 b
def stp (m : zMem) (f : Nat) (ms : List Nat) (L : Nat → Nat) (s : Nat) (pf : List Nat) (c : Nat) (b : zB) : zB := if (okT m f c (put m f c L) 48 && lessB b (s + cstC m f c)) = true then sr m ms (put m f c L) (s + cstC m f c) (pf ++ [c]) b else b
theorem sr_cons {m : zMem} {f : Nat} {ms : List Nat} {L : Nat → Nat} {s : Nat} {pf : List Nat} {b : zB} : sr m (f :: ms) L s pf b = fcG (stp m f ms L s pf) (5 * wys m f) 0 b := rfl
def LaS (m : zMem) (L0 : Nat → Nat) : List (Nat × Nat) → Nat → Nat
  | [] => L0
  | q :: stk => put m q.1 q.2 (LaS m L0 stk)
def SuS (m : zMem) : List (Nat × Nat) → Nat
  | [] => 0
  | q :: stk => SuS m stk + cstC m q.1 q.2
def cs : List (Nat × Nat) → List Nat
  | [] => []
  | q :: stk => cs stk ++ [q.2]
def fs : List (Nat × Nat) → List Nat
  | [] => []
  | q :: stk => fs stk ++ [q.1]
theorem cs_len : ∀ stk, (cs stk).length = stk.length
  | [] => rfl
  | q :: stk => by rw [cs, List.length_append, cs_len]; rfl
theorem fs_len : ∀ stk, (fs stk).length = stk.length
  | [] => rfl
  | q :: stk => by rw [fs, List.length_append, fs_len]; rfl
def upF (m : zMem) (L0 : Nat → Nat) : List (Nat × Nat) → List Nat → zB → zB
  | [], _, b => b
  | q :: stk, ms, b => upF m L0 stk (q.1 :: ms) (fcG (stp m q.1 ms (LaS m L0 stk) (SuS m stk) (cs stk)) (5 * wys m q.1 - (q.2 + 1)) (q.2 + 1) b)
def cnS (m : zMem) : List Nat → Nat
  | [] => 0
  | f :: ms => 5 * wys m f * (1 + cnS m ms) + 1
def muS (m : zMem) : List (Nat × Nat) → List Nat → Nat
  | [], _ => 0
  | q :: stk, ms => (5 * wys m q.1 - (q.2 + 1)) * (1 + cnS m ms) + 1 + muS m stk (q.1 :: ms)
theorem gD_l {l k : List Nat} {i : Nat} (h : i < l.length) : (l ++ k).getD i 0 = l.getD i 0 := by
  rw [List.getD_eq_getElem?_getD, List.getD_eq_getElem?_getD, List.getElem?_append_left h]
theorem gD_m {l k : List Nat} {a : Nat} : (l ++ a :: k).getD l.length 0 = a := by
  rw [List.getD_eq_getElem?_getD, List.getElem?_append_right (Nat.le_refl _), Nat.sub_self]
  rfl
theorem LaS_le {m : zMem} (hW : WF m) {L0 : Nat → Nat} (h0 : ∀ cell, cell < 384 → L0 cell ≤ 108) : ∀ {stk : List (Nat × Nat)}, (∀ q ∈ stk, q.1 < nfl m) → ∀ cell, cell < 384 → LaS m L0 stk cell ≤ 108 + 9 * stk.length
  | [], _, ce, hc => h0 ce hc
  | q :: stk, h, ce, hc => by
    have := LaS_le hW h0 (fun z hz => h z (List.mem_cons_of_mem _ hz)) ce hc (stk := stk)
    have := wAt_le hW (c := q.2) (cell := ce) (h q List.mem_cons_self)
    show LaS m L0 stk ce + wAt m q.1 q.2 ce ≤ _
    rw [List.length_cons]
    omega
theorem SuS_le {m : zMem} (hW : WF m) : ∀ {stk : List (Nat × Nat)}, (∀ q ∈ stk, q.1 < nfl m ∧ q.2 < 15) → SuS m stk ≤ 416 * stk.length
  | [], _ => Nat.le_refl _
  | q :: stk, h => by
    have := SuS_le hW (fun z hz => h z (List.mem_cons_of_mem _ hz)) (stk := stk)
    have := cstC_le hW (h q List.mem_cons_self).1 (h q List.mem_cons_self).2
    rw [SuS, List.length_cons]
    omega
/-- the members of a set -/
def mbs (m : zMem) (s : Nat) : Nat → List Nat
  | 0 => []
  | f + 1 => if s / 2 ^ f % 2 = 1 then mbs m s f ++ [f] else mbs m s f
/-- what the others lay -/
def ly0 (m : zMem) (s : Nat) : Nat → Nat → Nat
  | 0 => fun _ => 0
  | f + 1 => if s / 2 ^ f % 2 = 1 then ly0 m s f else put m f (5 * way m f + dly m f) (ly0 m s f)
def stR (m : zMem) (s : Nat) : zB := sr m (mbs m s (nfl m)) (ly0 m s (nfl m)) 0 [] none
theorem mbs_len {m : zMem} {s : Nat} : ∀ f, (mbs m s f).length = btN s f
  | 0 => rfl
  | f + 1 => by
    have := mbs_len (m := m) (s := s) f
    rw [mbs, btN]
    by_cases h : s / 2 ^ f % 2 = 1
    · rw [if_pos h, List.length_append, this, h]; rfl
    · rw [if_neg h, this]; omega
theorem mbs_lt {m : zMem} {s : Nat} : ∀ f, ∀ g ∈ mbs m s f, g < f
  | 0, g, h => by cases h
  | f + 1, g, h => by
    rw [mbs] at h
    by_cases hb : s / 2 ^ f % 2 = 1
    · rw [if_pos hb] at h
      rcases List.mem_append.mp h with h | h
      · have := mbs_lt f g h; omega
      · rw [List.mem_singleton.mp h]; omega
    · rw [if_neg hb] at h
      have := mbs_lt f g h; omega
theorem ly0_le {m : zMem} (hW : WF m) {s cell : Nat} : ∀ f, f ≤ nfl m → ly0 m s f cell ≤ 9 * f
  | 0, _ => Nat.le_refl _
  | f + 1, h => by
    have := ly0_le hW (s := s) (cell := cell) f (by omega)
    rw [ly0]
    by_cases hb : s / 2 ^ f % 2 = 1
    · rw [if_pos hb]; omega
    · rw [if_neg hb]
      have := wAt_le hW (c := 5 * way m f + dly m f) (cell := cell) (show f < nfl m by omega)
      show ly0 m s f cell + wAt m f _ cell ≤ _
      omega
/-- the best so far, as the rows hold it -/
def bRel (n : Nat) (b : zB) (x3 : Int32) (im : zMem) : Prop := match b with
  | none => x3 = -1000000
  | some q => x3 = nI q.1 ∧ q.1 ≤ 2080 ∧ q.2.length = n ∧ ∀ k, k < n → im 66 0 k = nI (q.2.getD k 0) ∧ q.2.getD k 0 < 15
theorem rX12_settle_0 {x : zX} {w : zWd} {im : zMem} {lv : Int64} {P : Int32 → zMem → Int64 → Prop} {x1 : Int32} (hO : zOK x w zyX12_settle 5) (hR : zRetI x w zyX12_settle P) (hN : zN x 126 126)
 (h : ((x1 < 1 → P (-1000001) (zwr im 43 0 0 0) lv) ∧
 (¬ (x1 < 1) → ((0 < (x1 >>> ((im 43 0 10) &&& 31)) → P (-1000001) (zwr im 43 0 0 0) lv) ∧
 (¬ (0 < (x1 >>> ((im 43 0 10) &&& 31))) → (∃ P1 : Int32 → zMem → Int64 → Prop, zSpecI x.2.1 w 2 zyX12_bits [vI x1] (zwr im 43 0 0 0) lv P1 ∧ ∀ (v1 : Int32) (im1 : zMem) (lv1 : Int64), P1 v1 im1 lv1 → ((v1 ≤ 5 → zW x w 34 [(0, vR 43 0), (1, vI x1), (2, vI 0), (3, vI 0)] [] im1 lv1) ∧
 (¬ (v1 ≤ 5) → P (-1000001) im1 lv1)))))))) :
 zW x w 0 [(0, vR 43 0), (1, vI x1)] [] im lv := by
  refine zi_aload_n hO dX12_settle_0 0 rfl ?_
  refine zi_iconst (v := 0) hO dX12_settle_1 (by decide) ?_
  refine zi_putI hO dX12_settle_2 gX12_1 rfl rfl (zI (by decide)) ?_
  refine zi_iload_n hO dX12_settle_5 1 rfl ?_
  refine zi_iconst (v := 1) hO dX12_settle_6 (by decide) ?_
  refine zi_icmp_lt (tgt := 27) hO dX12_settle_7 (by decide) (fun c1 => ?_) (fun c1 => ?_)
  · have h := h.1 c1
    refine zi_ldc (v := (-1000001)) hO dX12_settle_27 nX12_23 ?_
    exact zr_I hO hR rfl dX12_settle_29 h
  · have h := h.2 c1
    refine zi_iload_n hO dX12_settle_10 1 rfl ?_
    refine zi_aload_n hO dX12_settle_11 0 rfl ?_
    refine zi_getI hO dX12_settle_12 fX12_138 rfl rfl (zI (by decide)) ?_
    refine zi_ishr hO dX12_settle_15 ?_
    refine zi_if_gt (tgt := 27) hO dX12_settle_16 (by decide) (fun c2 => ?_) (fun c2 => ?_)
    · have h := h.1 c2
      refine zi_ldc (v := (-1000001)) hO dX12_settle_27 nX12_23 ?_
      exact zr_I hO hR rfl dX12_settle_29 h
    · have h := h.2 c2
      refine zi_iload_n hO dX12_settle_19 1 rfl ?_
      obtain ⟨P1, hM1, h⟩ := h
      refine zc_SI (as := [vI x1]) hO hN dX12_settle_20 kX12_272 (by decide) rfl (Nat.le_of_ble_eq_true rfl) rfl rfl hM1 (fun v1 im1 lv1 hp1 => ?_)
      replace h := h v1 im1 lv1 hp1
      refine zi_iconst (v := 5) hO dX12_settle_23 (by decide) ?_
      refine zi_icmp_le (tgt := 30) hO dX12_settle_24 (by decide) (fun c3 => ?_) (fun c3 => ?_)
      · have h := h.1 c3
        refine zi_iconst (v := 0) hO dX12_settle_30 (by decide) ?_
        refine zi_istore_n (L' := [(0, vR 43 0), (1, vI x1), (2, vI 0)]) hO dX12_settle_31 (by decide) rfl rfl ?_
        refine zi_iconst (v := 0) hO dX12_settle_32 (by decide) ?_
        refine zi_istore_n (L' := [(0, vR 43 0), (1, vI x1), (2, vI 0), (3, vI 0)]) hO dX12_settle_33 (by decide) rfl rfl ?_
        exact h
      · have h := h.2 c3
        refine zi_ldc (v := (-1000001)) hO dX12_settle_27 nX12_23 ?_
        exact zr_I hO hR rfl dX12_settle_29 h
theorem rX12_settle_34 {x : zX} {w : zWd} {im : zMem} {lv : Int64} {P : Int32 → zMem → Int64 → Prop} {x1 : Int32} {x2 : Int32} {x3 : Int32} (hO : zOK x w zyX12_settle 5) (hR : zRetI x w zyX12_settle P) (hN : zN x 126 126)
 (h : ((384 ≤ x3 → zW x w 56 [(0, vR 43 0), (1, vI x1), (2, vI x2), (3, vI 0)] [] im lv) ∧
 (¬ (384 ≤ x3) → (vp_in x3 384 ∧ zW x w 34 [(0, vR 43 0), (1, vI x1), (2, vI x2), (3, vI (x3 + 1))] [] (zwr im 63 0 (Int32.toNatClampNeg x3) 0) lv)))) :
 zW x w 34 [(0, vR 43 0), (1, vI x1), (2, vI x2), (3, vI x3)] [] im lv := by
  refine zi_iload_n hO dX12_settle_34 3 rfl ?_
  refine zi_sipush (v := 384) hO dX12_settle_35 (by decide) ?_
  refine zi_icmp_ge (tgt := 54) hO dX12_settle_38 (by decide) (fun c1 => ?_) (fun c1 => ?_)
  · have h := h.1 c1
    refine zi_iconst (v := 0) hO dX12_settle_54 (by decide) ?_
    refine zi_istore_n (L' := [(0, vR 43 0), (1, vI x1), (2, vI x2), (3, vI 0)]) hO dX12_settle_55 (by decide) rfl rfl ?_
    exact h
  · have h := h.2 c1
    refine zi_aload_n hO dX12_settle_41 0 rfl ?_
    refine zi_getR (r' := 63) (i' := 0) hO dX12_settle_42 fX12_95 rfl rfl (zI (by decide)) rfl ?_
    refine zi_iload_n hO dX12_settle_45 3 rfl ?_
    refine zi_iconst (v := 0) hO dX12_settle_46 (by decide) ?_
    obtain ⟨s1, h⟩ := h
    refine zi_iast hO dX12_settle_47 rfl (zI (by decide)) s1 ?_
    refine zi_iinc (v' := (x3 + 1)) (L' := [(0, vR 43 0), (1, vI x1), (2, vI x2), (3, vI (x3 + 1))]) hO dX12_settle_48 3 rfl rfl (by decide) rfl rfl ?_
    refine zi_goto (tgt := 34) hO dX12_settle_51 (by decide) ?_
    exact h
theorem rX12_settle_56 {x : zX} {w : zWd} {im : zMem} {lv : Int64} {P : Int32 → zMem → Int64 → Prop} {x1 : Int32} {x2 : Int32} {x3 : Int32} (hO : zOK x w zyX12_settle 5) (hR : zRetI x w zyX12_settle P) (hN : zN x 126 126)
 (h : (((im 43 0 10) ≤ x3 → (vp_in 0 5 ∧ zW x w 129 [(0, vR 43 0), (1, vI x1), (2, vI x2), (3, vI (-1000000)), (4, vI 0), (5, vI 0)] [] (zwr im 65 0 (Int32.toNatClampNeg 0) (-1)) lv)) ∧
 (¬ ((im 43 0 10) ≤ x3) → ((¬ (((x1 >>> (x3 &&& 31)) &&& 1) = 1) → (vp_in x3 12 ∧ (∃ P3 : zMem → Int64 → Prop, zSpecV x.2.1 w 3 zyX12_lay [vR 43 0, vI x3, vI ((5 * (im 53 0 (Int32.toNatClampNeg x3))) + (im 54 0 (Int32.toNatClampNeg x3))), vI 1] im lv P3 ∧ ∀ (im3 : zMem) (lv3 : Int64), P3 im3 lv3 → zW x w 56 [(0, vR 43 0), (1, vI x1), (2, vI x2), (3, vI (x3 + 1))] [] im3 lv3))) ∧
 (((x1 >>> (x3 &&& 31)) &&& 1) = 1 → (vp_in x2 5 ∧ zW x w 56 [(0, vR 43 0), (1, vI x1), (2, vI (x2 + 1)), (3, vI (x3 + 1))] [] (zwr im 64 0 (Int32.toNatClampNeg x2) x3) lv)))))) :
 zW x w 56 [(0, vR 43 0), (1, vI x1), (2, vI x2), (3, vI x3)] [] im lv := by
  refine zi_iload_n hO dX12_settle_56 3 rfl ?_
  refine zi_aload_n hO dX12_settle_57 0 rfl ?_
  refine zi_getI hO dX12_settle_58 fX12_138 rfl rfl (zI (by decide)) ?_
  refine zi_icmp_ge (tgt := 113) hO dX12_settle_61 (by decide) (fun c1 => ?_) (fun c1 => ?_)
  · have h := h.1 c1
    refine zi_ldc (v := (-1000000)) hO dX12_settle_113 nX12_131 ?_
    refine zi_istore_n (L' := [(0, vR 43 0), (1, vI x1), (2, vI x2), (3, vI (-1000000))]) hO dX12_settle_115 (by decide) rfl rfl ?_
    refine zi_iconst (v := 0) hO dX12_settle_116 (by decide) ?_
    refine zi_istore (L' := [(0, vR 43 0), (1, vI x1), (2, vI x2), (3, vI (-1000000)), (4, vI 0)]) hO dX12_settle_117 (by decide) rfl rfl ?_
    refine zi_iconst (v := 0) hO dX12_settle_119 (by decide) ?_
    refine zi_istore (L' := [(0, vR 43 0), (1, vI x1), (2, vI x2), (3, vI (-1000000)), (4, vI 0), (5, vI 0)]) hO dX12_settle_120 (by decide) rfl rfl ?_
    refine zi_aload_n hO dX12_settle_122 0 rfl ?_
    refine zi_getR (r' := 65) (i' := 0) hO dX12_settle_123 fX12_101 rfl rfl (zI (by decide)) rfl ?_
    refine zi_iconst (v := 0) hO dX12_settle_126 (by decide) ?_
    refine zi_iconst (v := (-1)) hO dX12_settle_127 (by decide) ?_
    obtain ⟨s1, h⟩ := h
    refine zi_iast hO dX12_settle_128 rfl (zI (by decide)) s1 ?_
    exact h
  · have h := h.2 c1
    refine zi_iload_n hO dX12_settle_64 1 rfl ?_
    refine zi_iload_n hO dX12_settle_65 3 rfl ?_
    refine zi_ishr hO dX12_settle_66 ?_
    refine zi_iconst (v := 1) hO dX12_settle_67 (by decide) ?_
    refine zi_iand hO dX12_settle_68 ?_
    refine zi_iconst (v := 1) hO dX12_settle_69 (by decide) ?_
    refine zi_icmp_ne (tgt := 86) hO dX12_settle_70 (by decide) (fun c2 => ?_) (fun c2 => ?_)
    · have h := h.1 c2
      refine zi_aload_n hO dX12_settle_86 0 rfl ?_
      refine zi_iload_n hO dX12_settle_87 3 rfl ?_
      refine zi_iconst (v := 5) hO dX12_settle_88 (by decide) ?_
      refine zi_aload_n hO dX12_settle_89 0 rfl ?_
      refine zi_getR (r' := 53) (i' := 0) hO dX12_settle_90 fX12_65 rfl rfl (zI (by decide)) rfl ?_
      refine zi_iload_n hO dX12_settle_93 3 rfl ?_
      obtain ⟨s2, h⟩ := h
      refine zi_iald hO dX12_settle_94 rfl (zI (by decide)) s2 ?_
      refine zi_imul hO dX12_settle_95 ?_
      refine zi_aload_n hO dX12_settle_96 0 rfl ?_
      refine zi_getR (r' := 54) (i' := 0) hO dX12_settle_97 fX12_68 rfl rfl (zI (by decide)) rfl ?_
      refine zi_iload_n hO dX12_settle_100 3 rfl ?_
      refine zi_iald hO dX12_settle_101 rfl (zI (by decide)) s2 ?_
      refine zi_iadd hO dX12_settle_102 ?_
      refine zi_iconst (v := 1) hO dX12_settle_103 (by decide) ?_
      obtain ⟨P3, hM3, h⟩ := h
      refine zc_VV (as := [vI x3, vI ((5 * (im 53 0 (Int32.toNatClampNeg x3))) + (im 54 0 (Int32.toNatClampNeg x3))), vI 1]) hO hN dX12_settle_104 kX12_278 (by decide) rfl (zI (by decide)) rfl rfl (Nat.le_of_ble_eq_true rfl) rfl rfl hM3 (fun im3 lv3 hp3 => ?_)
      replace h := h im3 lv3 hp3
      refine zi_iinc (v' := (x3 + 1)) (L' := [(0, vR 43 0), (1, vI x1), (2, vI x2), (3, vI (x3 + 1))]) hO dX12_settle_107 3 rfl rfl (by decide) rfl rfl ?_
      refine zi_goto (tgt := 56) hO dX12_settle_110 (by decide) ?_
      exact h
    · have h := h.2 c2
      refine zi_aload_n hO dX12_settle_73 0 rfl ?_
      refine zi_getR (r' := 64) (i' := 0) hO dX12_settle_74 fX12_98 rfl rfl (zI (by decide)) rfl ?_
      refine zi_iload_n hO dX12_settle_77 2 rfl ?_
      refine zi_iload_n hO dX12_settle_78 3 rfl ?_
      obtain ⟨s4, h⟩ := h
      refine zi_iast hO dX12_settle_79 rfl (zI (by decide)) s4 ?_
      refine zi_iinc (v' := (x2 + 1)) (L' := [(0, vR 43 0), (1, vI x1), (2, vI (x2 + 1)), (3, vI x3)]) hO dX12_settle_80 2 rfl rfl (by decide) rfl rfl ?_
      refine zi_goto (tgt := 107) hO dX12_settle_83 (by decide) ?_
      refine zi_iinc (v' := (x3 + 1)) (L' := [(0, vR 43 0), (1, vI x1), (2, vI (x2 + 1)), (3, vI (x3 + 1))]) hO dX12_settle_107 3 rfl rfl (by decide) rfl rfl ?_
      refine zi_goto (tgt := 56) hO dX12_settle_110 (by decide) ?_
      exact h
theorem rX12_settle_129 {x : zX} {w : zWd} {im : zMem} {lv : Int64} {P : Int32 → zMem → Int64 → Prop} {x1 : Int32} {x2 : Int32} {x3 : Int32} {x4 : Int32} {x5 : Int32} (hO : zOK x w zyX12_settle 5) (hR : zRetI x w zyX12_settle P) (hN : zN x 126 126)
 (h : ((x4 < 0 → zW x w 367 [(0, vR 43 0), (1, vI x1), (2, vI x2), (3, vI x3), (4, vI x4), (5, vI x5), (6, vI 0)] [] im lv) ∧
 (¬ (x4 < 0) → (vp_in x4 5 ∧ (((im 65 0 (Int32.toNatClampNeg x4)) < 0 → zW x w 196 [(0, vR 43 0), (1, vI x1), (2, vI x2), (3, vI x3), (4, vI x4), (5, vI x5), (6, vI (im 64 0 (Int32.toNatClampNeg x4)))] [] im lv) ∧
 (¬ ((im 65 0 (Int32.toNatClampNeg x4)) < 0) → (∃ P2 : zMem → Int64 → Prop, zSpecV x.2.1 w 3 zyX12_lay [vR 43 0, vI (im 64 0 (Int32.toNatClampNeg x4)), vI (im 65 0 (Int32.toNatClampNeg x4)), vI (-1)] im lv P2 ∧ ∀ (im2 : zMem) (lv2 : Int64), P2 im2 lv2 → (vp_in ((5 * (im 64 0 (Int32.toNatClampNeg x4))) + 3) 60 ∧ zW x w 196 [(0, vR 43 0), (1, vI x1), (2, vI x2), (3, vI x3), (4, vI x4), (5, vI (x5 - (((im2 50 0 (Int32.toNatClampNeg ((5 * (im 64 0 (Int32.toNatClampNeg x4))) + 3))) * ((im2 65 0 (Int32.toNatClampNeg x4)) - (im2 65 0 (Int32.toNatClampNeg x4)) / 5 * 5)) + (10 * ((im2 65 0 (Int32.toNatClampNeg x4)) / 5))))), (6, vI (im 64 0 (Int32.toNatClampNeg x4)))] [] im2 lv2)))))))) :
 zW x w 129 [(0, vR 43 0), (1, vI x1), (2, vI x2), (3, vI x3), (4, vI x4), (5, vI x5)] [] im lv := by
  refine zi_iload hO dX12_settle_129 4 rfl ?_
  refine zi_if_lt (tgt := 364) hO dX12_settle_131 (by decide) (fun c1 => ?_) (fun c1 => ?_)
  · have h := h.1 c1
    refine zi_iconst (v := 0) hO dX12_settle_364 (by decide) ?_
    refine zi_istore (L' := [(0, vR 43 0), (1, vI x1), (2, vI x2), (3, vI x3), (4, vI x4), (5, vI x5), (6, vI 0)]) hO dX12_settle_365 (by decide) rfl rfl ?_
    exact h
  · have h := h.2 c1
    refine zi_aload_n hO dX12_settle_134 0 rfl ?_
    refine zi_getR (r' := 64) (i' := 0) hO dX12_settle_135 fX12_98 rfl rfl (zI (by decide)) rfl ?_
    refine zi_iload hO dX12_settle_138 4 rfl ?_
    obtain ⟨s1, h⟩ := h
    refine zi_iald hO dX12_settle_140 rfl (zI (by decide)) s1 ?_
    refine zi_istore (L' := [(0, vR 43 0), (1, vI x1), (2, vI x2), (3, vI x3), (4, vI x4), (5, vI x5), (6, vI (im 64 0 (Int32.toNatClampNeg x4)))]) hO dX12_settle_141 (by decide) rfl rfl ?_
    refine zi_aload_n hO dX12_settle_143 0 rfl ?_
    refine zi_getR (r' := 65) (i' := 0) hO dX12_settle_144 fX12_101 rfl rfl (zI (by decide)) rfl ?_
    refine zi_iload hO dX12_settle_147 4 rfl ?_
    refine zi_iald hO dX12_settle_149 rfl (zI (by decide)) s1 ?_
    refine zi_if_lt (tgt := 196) hO dX12_settle_150 (by decide) (fun c2 => ?_) (fun c2 => ?_)
    · have h := h.1 c2
      exact h
    · have h := h.2 c2
      refine zi_aload_n hO dX12_settle_153 0 rfl ?_
      refine zi_iload hO dX12_settle_154 6 rfl ?_
      refine zi_aload_n hO dX12_settle_156 0 rfl ?_
      refine zi_getR (r' := 65) (i' := 0) hO dX12_settle_157 fX12_101 rfl rfl (zI (by decide)) rfl ?_
      refine zi_iload hO dX12_settle_160 4 rfl ?_
      refine zi_iald hO dX12_settle_162 rfl (zI (by decide)) s1 ?_
      refine zi_iconst (v := (-1)) hO dX12_settle_163 (by decide) ?_
      obtain ⟨P2, hM2, h⟩ := h
      refine zc_VV (as := [vI (im 64 0 (Int32.toNatClampNeg x4)), vI (im 65 0 (Int32.toNatClampNeg x4)), vI (-1)]) hO hN dX12_settle_164 kX12_278 (by decide) rfl (zI (by decide)) rfl rfl (Nat.le_of_ble_eq_true rfl) rfl rfl hM2 (fun im2 lv2 hp2 => ?_)
      replace h := h im2 lv2 hp2
      refine zi_iload hO dX12_settle_167 5 rfl ?_
      refine zi_aload_n hO dX12_settle_169 0 rfl ?_
      refine zi_iload hO dX12_settle_170 6 rfl ?_
      refine zi_aload_n hO dX12_settle_172 0 rfl ?_
      refine zi_getR (r' := 65) (i' := 0) hO dX12_settle_173 fX12_101 rfl rfl (zI (by decide)) rfl ?_
      refine zi_iload hO dX12_settle_176 4 rfl ?_
      refine zi_iald hO dX12_settle_178 rfl (zI (by decide)) s1 ?_
      refine zi_iconst (v := 5) hO dX12_settle_179 (by decide) ?_
      refine zi_idiv hO dX12_settle_180 (by decide) ?_
      refine zi_aload_n hO dX12_settle_181 0 rfl ?_
      refine zi_getR (r' := 65) (i' := 0) hO dX12_settle_182 fX12_101 rfl rfl (zI (by decide)) rfl ?_
      refine zi_iload hO dX12_settle_185 4 rfl ?_
      refine zi_iald hO dX12_settle_187 rfl (zI (by decide)) s1 ?_
      refine zi_iconst (v := 5) hO dX12_settle_188 (by decide) ?_
      refine zi_irem hO dX12_settle_189 (by decide) ?_
      obtain ⟨s4, h⟩ := h
      refine zc_VI (as := [vI (im 64 0 (Int32.toNatClampNeg x4)), vI ((im2 65 0 (Int32.toNatClampNeg x4)) / 5), vI ((im2 65 0 (Int32.toNatClampNeg x4)) - (im2 65 0 (Int32.toNatClampNeg x4)) / 5 * 5)]) hO hN dX12_settle_190 kX12_141 (by decide) rfl (zI (by decide)) rfl rfl (Nat.le_of_ble_eq_true rfl) rfl rfl (C_X12_costBy _ _ _ _ s4) (fun v3 im3 lv3 hp3 => ?_)
      rw [hp3.1, hp3.2.1, hp3.2.2]
      refine zi_isub hO dX12_settle_193 ?_
      refine zi_istore (L' := [(0, vR 43 0), (1, vI x1), (2, vI x2), (3, vI x3), (4, vI x4), (5, vI (x5 - (((im2 50 0 (Int32.toNatClampNeg ((5 * (im 64 0 (Int32.toNatClampNeg x4))) + 3))) * ((im2 65 0 (Int32.toNatClampNeg x4)) - (im2 65 0 (Int32.toNatClampNeg x4)) / 5 * 5)) + (10 * ((im2 65 0 (Int32.toNatClampNeg x4)) / 5))))), (6, vI (im 64 0 (Int32.toNatClampNeg x4)))]) hO dX12_settle_194 (by decide) rfl rfl ?_
      exact h
theorem rX12_settle_196 {x : zX} {w : zWd} {im : zMem} {lv : Int64} {P : Int32 → zMem → Int64 → Prop} {x1 : Int32} {x2 : Int32} {x3 : Int32} {x4 : Int32} {x5 : Int32} {x6 : Int32} (hO : zOK x w zyX12_settle 5) (hR : zRetI x w zyX12_settle P) (hN : zN x 126 126)
 (h : (vp_in x4 5 ∧ (vp_in ((5 * x6) + 4) 60 ∧ ((¬ (((zwr im 65 0 (Int32.toNatClampNeg x4) ((im 65 0 (Int32.toNatClampNeg x4)) + 1)) 65 0 (Int32.toNatClampNeg x4)) = (5 * (im 50 0 (Int32.toNatClampNeg ((5 * x6) + 4))))) → (∃ P3 : zMem → Int64 → Prop, zSpecV x.2.1 w 3 zyX12_lay [vR 43 0, vI x6, vI ((zwr im 65 0 (Int32.toNatClampNeg x4) ((im 65 0 (Int32.toNatClampNeg x4)) + 1)) 65 0 (Int32.toNatClampNeg x4)), vI 1] (zwr im 65 0 (Int32.toNatClampNeg x4) ((im 65 0 (Int32.toNatClampNeg x4)) + 1)) lv P3 ∧ ∀ (im3 : zMem) (lv3 : Int64), P3 im3 lv3 → (vp_in ((5 * x6) + 3) 60 ∧ (∃ P6 : Int32 → zMem → Int64 → Prop, zSpecI x.2.1 w 4 zyX12_fits [vR 43 0, vI x6, vI (im3 65 0 (Int32.toNatClampNeg x4))] im3 lv3 P6 ∧ ∀ (v6 : Int32) (im6 : zMem) (lv6 : Int64), P6 v6 im6 lv6 → ((v6 = 0 → zW x w 129 [(0, vR 43 0), (1, vI x1), (2, vI x2), (3, vI x3), (4, vI x4), (5, vI (x5 + (((im3 50 0 (Int32.toNatClampNeg ((5 * x6) + 3))) * ((im3 65 0 (Int32.toNatClampNeg x4)) - (im3 65 0 (Int32.toNatClampNeg x4)) / 5 * 5)) + (10 * ((im3 65 0 (Int32.toNatClampNeg x4)) / 5)))))] [] im6 lv6) ∧
 (¬ (v6 = 0) → ((x3 = (-1000000) → ((x2 ≤ (x4 + 1) → zW x w 335 [(0, vR 43 0), (1, vI x1), (2, vI x2), (3, vI (x5 + (((im3 50 0 (Int32.toNatClampNeg ((5 * x6) + 3))) * ((im3 65 0 (Int32.toNatClampNeg x4)) - (im3 65 0 (Int32.toNatClampNeg x4)) / 5 * 5)) + (10 * ((im3 65 0 (Int32.toNatClampNeg x4)) / 5))))), (4, vI x4), (5, vI (x5 + (((im3 50 0 (Int32.toNatClampNeg ((5 * x6) + 3))) * ((im3 65 0 (Int32.toNatClampNeg x4)) - (im3 65 0 (Int32.toNatClampNeg x4)) / 5 * 5)) + (10 * ((im3 65 0 (Int32.toNatClampNeg x4)) / 5))))), (6, vI x6), (7, vI 0)] [] im6 lv6) ∧
 (¬ (x2 ≤ (x4 + 1)) → (vp_in (x4 + 1) 5 ∧ zW x w 129 [(0, vR 43 0), (1, vI x1), (2, vI x2), (3, vI x3), (4, vI (x4 + 1)), (5, vI (x5 + (((im3 50 0 (Int32.toNatClampNeg ((5 * x6) + 3))) * ((im3 65 0 (Int32.toNatClampNeg x4)) - (im3 65 0 (Int32.toNatClampNeg x4)) / 5 * 5)) + (10 * ((im3 65 0 (Int32.toNatClampNeg x4)) / 5)))))] [] (zwr im6 65 0 (Int32.toNatClampNeg (x4 + 1)) (-1)) lv6)))) ∧
 (¬ (x3 = (-1000000)) → ((x3 ≤ (x5 + (((im3 50 0 (Int32.toNatClampNeg ((5 * x6) + 3))) * ((im3 65 0 (Int32.toNatClampNeg x4)) - (im3 65 0 (Int32.toNatClampNeg x4)) / 5 * 5)) + (10 * ((im3 65 0 (Int32.toNatClampNeg x4)) / 5)))) → zW x w 129 [(0, vR 43 0), (1, vI x1), (2, vI x2), (3, vI x3), (4, vI x4), (5, vI (x5 + (((im3 50 0 (Int32.toNatClampNeg ((5 * x6) + 3))) * ((im3 65 0 (Int32.toNatClampNeg x4)) - (im3 65 0 (Int32.toNatClampNeg x4)) / 5 * 5)) + (10 * ((im3 65 0 (Int32.toNatClampNeg x4)) / 5)))))] [] im6 lv6) ∧
 (¬ (x3 ≤ (x5 + (((im3 50 0 (Int32.toNatClampNeg ((5 * x6) + 3))) * ((im3 65 0 (Int32.toNatClampNeg x4)) - (im3 65 0 (Int32.toNatClampNeg x4)) / 5 * 5)) + (10 * ((im3 65 0 (Int32.toNatClampNeg x4)) / 5))))) → ((x2 ≤ (x4 + 1) → zW x w 335 [(0, vR 43 0), (1, vI x1), (2, vI x2), (3, vI (x5 + (((im3 50 0 (Int32.toNatClampNeg ((5 * x6) + 3))) * ((im3 65 0 (Int32.toNatClampNeg x4)) - (im3 65 0 (Int32.toNatClampNeg x4)) / 5 * 5)) + (10 * ((im3 65 0 (Int32.toNatClampNeg x4)) / 5))))), (4, vI x4), (5, vI (x5 + (((im3 50 0 (Int32.toNatClampNeg ((5 * x6) + 3))) * ((im3 65 0 (Int32.toNatClampNeg x4)) - (im3 65 0 (Int32.toNatClampNeg x4)) / 5 * 5)) + (10 * ((im3 65 0 (Int32.toNatClampNeg x4)) / 5))))), (6, vI x6), (7, vI 0)] [] im6 lv6) ∧
 (¬ (x2 ≤ (x4 + 1)) → (vp_in (x4 + 1) 5 ∧ zW x w 129 [(0, vR 43 0), (1, vI x1), (2, vI x2), (3, vI x3), (4, vI (x4 + 1)), (5, vI (x5 + (((im3 50 0 (Int32.toNatClampNeg ((5 * x6) + 3))) * ((im3 65 0 (Int32.toNatClampNeg x4)) - (im3 65 0 (Int32.toNatClampNeg x4)) / 5 * 5)) + (10 * ((im3 65 0 (Int32.toNatClampNeg x4)) / 5)))))] [] (zwr im6 65 0 (Int32.toNatClampNeg (x4 + 1)) (-1)) lv6))))))))))))) ∧
 (((zwr im 65 0 (Int32.toNatClampNeg x4) ((im 65 0 (Int32.toNatClampNeg x4)) + 1)) 65 0 (Int32.toNatClampNeg x4)) = (5 * (im 50 0 (Int32.toNatClampNeg ((5 * x6) + 4)))) → zW x w 129 [(0, vR 43 0), (1, vI x1), (2, vI x2), (3, vI x3), (4, vI (x4 + (-1))), (5, vI x5)] [] (zwr im 65 0 (Int32.toNatClampNeg x4) ((im 65 0 (Int32.toNatClampNeg x4)) + 1)) lv))))) :
 zW x w 196 [(0, vR 43 0), (1, vI x1), (2, vI x2), (3, vI x3), (4, vI x4), (5, vI x5), (6, vI x6)] [] im lv := by
  refine zi_aload_n hO dX12_settle_196 0 rfl ?_
  refine zi_getR (r' := 65) (i' := 0) hO dX12_settle_197 fX12_101 rfl rfl (zI (by decide)) rfl ?_
  refine zi_iload hO dX12_settle_200 4 rfl ?_
  refine zi_dup2 hO dX12_settle_202 rfl rfl ?_
  obtain ⟨s1, h⟩ := h
  refine zi_iald hO dX12_settle_203 rfl (zI (by decide)) s1 ?_
  refine zi_iconst (v := 1) hO dX12_settle_204 (by decide) ?_
  refine zi_iadd hO dX12_settle_205 ?_
  refine zi_iast hO dX12_settle_206 rfl (zI (by decide)) s1 ?_
  refine zi_aload_n hO dX12_settle_207 0 rfl ?_
  refine zi_getR (r' := 65) (i' := 0) hO dX12_settle_208 fX12_101 rfl rfl (zI (by decide)) rfl ?_
  refine zi_iload hO dX12_settle_211 4 rfl ?_
  refine zi_iald hO dX12_settle_213 rfl (zI (by decide)) s1 ?_
  refine zi_iconst (v := 5) hO dX12_settle_214 (by decide) ?_
  refine zi_aload_n hO dX12_settle_215 0 rfl ?_
  refine zi_getR (r' := 50) (i' := 0) hO dX12_settle_216 fX12_56 rfl rfl (zI (by decide)) rfl ?_
  refine zi_iconst (v := 5) hO dX12_settle_219 (by decide) ?_
  refine zi_iload hO dX12_settle_220 6 rfl ?_
  refine zi_imul hO dX12_settle_222 ?_
  refine zi_iconst (v := 4) hO dX12_settle_223 (by decide) ?_
  refine zi_iadd hO dX12_settle_224 ?_
  obtain ⟨s2, h⟩ := h
  refine zi_iald hO dX12_settle_225 rfl (zI (by decide)) s2 ?_
  refine zi_imul hO dX12_settle_226 ?_
  refine zi_icmp_ne (tgt := 236) hO dX12_settle_227 (by decide) (fun c1 => ?_) (fun c1 => ?_)
  · have h := h.1 c1
    refine zi_aload_n hO dX12_settle_236 0 rfl ?_
    refine zi_iload hO dX12_settle_237 6 rfl ?_
    refine zi_aload_n hO dX12_settle_239 0 rfl ?_
    refine zi_getR (r' := 65) (i' := 0) hO dX12_settle_240 fX12_101 rfl rfl (zI (by decide)) rfl ?_
    refine zi_iload hO dX12_settle_243 4 rfl ?_
    refine zi_iald hO dX12_settle_245 rfl (zI (by decide)) s1 ?_
    refine zi_iconst (v := 1) hO dX12_settle_246 (by decide) ?_
    obtain ⟨P3, hM3, h⟩ := h
    refine zc_VV (as := [vI x6, vI ((zwr im 65 0 (Int32.toNatClampNeg x4) ((im 65 0 (Int32.toNatClampNeg x4)) + 1)) 65 0 (Int32.toNatClampNeg x4)), vI 1]) hO hN dX12_settle_247 kX12_278 (by decide) rfl (zI (by decide)) rfl rfl (Nat.le_of_ble_eq_true rfl) rfl rfl hM3 (fun im3 lv3 hp3 => ?_)
    replace h := h im3 lv3 hp3
    refine zi_iload hO dX12_settle_250 5 rfl ?_
    refine zi_aload_n hO dX12_settle_252 0 rfl ?_
    refine zi_iload hO dX12_settle_253 6 rfl ?_
    refine zi_aload_n hO dX12_settle_255 0 rfl ?_
    refine zi_getR (r' := 65) (i' := 0) hO dX12_settle_256 fX12_101 rfl rfl (zI (by decide)) rfl ?_
    refine zi_iload hO dX12_settle_259 4 rfl ?_
    refine zi_iald hO dX12_settle_261 rfl (zI (by decide)) s1 ?_
    refine zi_iconst (v := 5) hO dX12_settle_262 (by decide) ?_
    refine zi_idiv hO dX12_settle_263 (by decide) ?_
    refine zi_aload_n hO dX12_settle_264 0 rfl ?_
    refine zi_getR (r' := 65) (i' := 0) hO dX12_settle_265 fX12_101 rfl rfl (zI (by decide)) rfl ?_
    refine zi_iload hO dX12_settle_268 4 rfl ?_
    refine zi_iald hO dX12_settle_270 rfl (zI (by decide)) s1 ?_
    refine zi_iconst (v := 5) hO dX12_settle_271 (by decide) ?_
    refine zi_irem hO dX12_settle_272 (by decide) ?_
    obtain ⟨s5, h⟩ := h
    refine zc_VI (as := [vI x6, vI ((im3 65 0 (Int32.toNatClampNeg x4)) / 5), vI ((im3 65 0 (Int32.toNatClampNeg x4)) - (im3 65 0 (Int32.toNatClampNeg x4)) / 5 * 5)]) hO hN dX12_settle_273 kX12_141 (by decide) rfl (zI (by decide)) rfl rfl (Nat.le_of_ble_eq_true rfl) rfl rfl (C_X12_costBy _ _ _ _ s5) (fun v4 im4 lv4 hp4 => ?_)
    rw [hp4.1, hp4.2.1, hp4.2.2]
    refine zi_iadd hO dX12_settle_276 ?_
    refine zi_istore (L' := [(0, vR 43 0), (1, vI x1), (2, vI x2), (3, vI x3), (4, vI x4), (5, vI (x5 + (((im3 50 0 (Int32.toNatClampNeg ((5 * x6) + 3))) * ((im3 65 0 (Int32.toNatClampNeg x4)) - (im3 65 0 (Int32.toNatClampNeg x4)) / 5 * 5)) + (10 * ((im3 65 0 (Int32.toNatClampNeg x4)) / 5))))), (6, vI x6)]) hO dX12_settle_277 (by decide) rfl rfl ?_
    refine zi_aload_n hO dX12_settle_279 0 rfl ?_
    refine zi_iload hO dX12_settle_280 6 rfl ?_
    refine zi_aload_n hO dX12_settle_282 0 rfl ?_
    refine zi_getR (r' := 65) (i' := 0) hO dX12_settle_283 fX12_101 rfl rfl (zI (by decide)) rfl ?_
    refine zi_iload hO dX12_settle_286 4 rfl ?_
    refine zi_iald hO dX12_settle_288 rfl (zI (by decide)) s1 ?_
    obtain ⟨P6, hM6, h⟩ := h
    refine zc_VI (as := [vI x6, vI (im3 65 0 (Int32.toNatClampNeg x4))]) hO hN dX12_settle_289 kX12_282 (by decide) rfl (zI (by decide)) rfl rfl (Nat.le_of_ble_eq_true rfl) rfl rfl hM6 (fun v6 im6 lv6 hp6 => ?_)
    replace h := h v6 im6 lv6 hp6
    refine zi_if_eq (tgt := 361) hO dX12_settle_292 (by decide) (fun c2 => ?_) (fun c2 => ?_)
    · have h := h.1 c2
      refine zi_goto (tgt := 129) hO dX12_settle_361 (by decide) ?_
      refine zi_pick (L' := [(0, vR 43 0), (1, vI x1), (2, vI x2), (3, vI x3), (4, vI x4), (5, vI (x5 + (((im3 50 0 (Int32.toNatClampNeg ((5 * x6) + 3))) * ((im3 65 0 (Int32.toNatClampNeg x4)) - (im3 65 0 (Int32.toNatClampNeg x4)) / 5 * 5)) + (10 * ((im3 65 0 (Int32.toNatClampNeg x4)) / 5)))))]) [0, 1, 2, 3, 4, 5] rfl ?_
      exact h
    · have h := h.2 c2
      refine zi_iload_n hO dX12_settle_295 3 rfl ?_
      refine zi_ldc (v := (-1000000)) hO dX12_settle_296 nX12_131 ?_
      refine zi_icmp_eq (tgt := 307) hO dX12_settle_298 (by decide) (fun c3 => ?_) (fun c3 => ?_)
      · have h := h.1 c3
        refine zi_iload hO dX12_settle_307 4 rfl ?_
        refine zi_iconst (v := 1) hO dX12_settle_309 (by decide) ?_
        refine zi_iadd hO dX12_settle_310 ?_
        refine zi_iload_n hO dX12_settle_311 2 rfl ?_
        refine zi_icmp_ge (tgt := 329) hO dX12_settle_312 (by decide) (fun c4 => ?_) (fun c4 => ?_)
        · have h := h.1 c4
          refine zi_iload hO dX12_settle_329 5 rfl ?_
          refine zi_istore_n (L' := [(0, vR 43 0), (1, vI x1), (2, vI x2), (3, vI (x5 + (((im3 50 0 (Int32.toNatClampNeg ((5 * x6) + 3))) * ((im3 65 0 (Int32.toNatClampNeg x4)) - (im3 65 0 (Int32.toNatClampNeg x4)) / 5 * 5)) + (10 * ((im3 65 0 (Int32.toNatClampNeg x4)) / 5))))), (4, vI x4), (5, vI (x5 + (((im3 50 0 (Int32.toNatClampNeg ((5 * x6) + 3))) * ((im3 65 0 (Int32.toNatClampNeg x4)) - (im3 65 0 (Int32.toNatClampNeg x4)) / 5 * 5)) + (10 * ((im3 65 0 (Int32.toNatClampNeg x4)) / 5))))), (6, vI x6)]) hO dX12_settle_331 (by decide) rfl rfl ?_
          refine zi_iconst (v := 0) hO dX12_settle_332 (by decide) ?_
          refine zi_istore (L' := [(0, vR 43 0), (1, vI x1), (2, vI x2), (3, vI (x5 + (((im3 50 0 (Int32.toNatClampNeg ((5 * x6) + 3))) * ((im3 65 0 (Int32.toNatClampNeg x4)) - (im3 65 0 (Int32.toNatClampNeg x4)) / 5 * 5)) + (10 * ((im3 65 0 (Int32.toNatClampNeg x4)) / 5))))), (4, vI x4), (5, vI (x5 + (((im3 50 0 (Int32.toNatClampNeg ((5 * x6) + 3))) * ((im3 65 0 (Int32.toNatClampNeg x4)) - (im3 65 0 (Int32.toNatClampNeg x4)) / 5 * 5)) + (10 * ((im3 65 0 (Int32.toNatClampNeg x4)) / 5))))), (6, vI x6), (7, vI 0)]) hO dX12_settle_333 (by decide) rfl rfl ?_
          exact h
        · have h := h.2 c4
          refine zi_iinc (v' := (x4 + 1)) (L' := [(0, vR 43 0), (1, vI x1), (2, vI x2), (3, vI x3), (4, vI (x4 + 1)), (5, vI (x5 + (((im3 50 0 (Int32.toNatClampNeg ((5 * x6) + 3))) * ((im3 65 0 (Int32.toNatClampNeg x4)) - (im3 65 0 (Int32.toNatClampNeg x4)) / 5 * 5)) + (10 * ((im3 65 0 (Int32.toNatClampNeg x4)) / 5))))), (6, vI x6)]) hO dX12_settle_315 4 rfl rfl (by decide) rfl rfl ?_
          refine zi_aload_n hO dX12_settle_318 0 rfl ?_
          refine zi_getR (r' := 65) (i' := 0) hO dX12_settle_319 fX12_101 rfl rfl (zI (by decide)) rfl ?_
          refine zi_iload hO dX12_settle_322 4 rfl ?_
          refine zi_iconst (v := (-1)) hO dX12_settle_324 (by decide) ?_
          obtain ⟨s7, h⟩ := h
          refine zi_iast hO dX12_settle_325 rfl (zI (by decide)) s7 ?_
          refine zi_goto (tgt := 361) hO dX12_settle_326 (by decide) ?_
          refine zi_goto (tgt := 129) hO dX12_settle_361 (by decide) ?_
          refine zi_pick (L' := [(0, vR 43 0), (1, vI x1), (2, vI x2), (3, vI x3), (4, vI (x4 + 1)), (5, vI (x5 + (((im3 50 0 (Int32.toNatClampNeg ((5 * x6) + 3))) * ((im3 65 0 (Int32.toNatClampNeg x4)) - (im3 65 0 (Int32.toNatClampNeg x4)) / 5 * 5)) + (10 * ((im3 65 0 (Int32.toNatClampNeg x4)) / 5)))))]) [0, 1, 2, 3, 4, 5] rfl ?_
          exact h
      · have h := h.2 c3
        refine zi_iload hO dX12_settle_301 5 rfl ?_
        refine zi_iload_n hO dX12_settle_303 3 rfl ?_
        refine zi_icmp_ge (tgt := 361) hO dX12_settle_304 (by decide) (fun c5 => ?_) (fun c5 => ?_)
        · have h := h.1 c5
          refine zi_goto (tgt := 129) hO dX12_settle_361 (by decide) ?_
          refine zi_pick (L' := [(0, vR 43 0), (1, vI x1), (2, vI x2), (3, vI x3), (4, vI x4), (5, vI (x5 + (((im3 50 0 (Int32.toNatClampNeg ((5 * x6) + 3))) * ((im3 65 0 (Int32.toNatClampNeg x4)) - (im3 65 0 (Int32.toNatClampNeg x4)) / 5 * 5)) + (10 * ((im3 65 0 (Int32.toNatClampNeg x4)) / 5)))))]) [0, 1, 2, 3, 4, 5] rfl ?_
          exact h
        · have h := h.2 c5
          refine zi_iload hO dX12_settle_307 4 rfl ?_
          refine zi_iconst (v := 1) hO dX12_settle_309 (by decide) ?_
          refine zi_iadd hO dX12_settle_310 ?_
          refine zi_iload_n hO dX12_settle_311 2 rfl ?_
          refine zi_icmp_ge (tgt := 329) hO dX12_settle_312 (by decide) (fun c6 => ?_) (fun c6 => ?_)
          · have h := h.1 c6
            refine zi_iload hO dX12_settle_329 5 rfl ?_
            refine zi_istore_n (L' := [(0, vR 43 0), (1, vI x1), (2, vI x2), (3, vI (x5 + (((im3 50 0 (Int32.toNatClampNeg ((5 * x6) + 3))) * ((im3 65 0 (Int32.toNatClampNeg x4)) - (im3 65 0 (Int32.toNatClampNeg x4)) / 5 * 5)) + (10 * ((im3 65 0 (Int32.toNatClampNeg x4)) / 5))))), (4, vI x4), (5, vI (x5 + (((im3 50 0 (Int32.toNatClampNeg ((5 * x6) + 3))) * ((im3 65 0 (Int32.toNatClampNeg x4)) - (im3 65 0 (Int32.toNatClampNeg x4)) / 5 * 5)) + (10 * ((im3 65 0 (Int32.toNatClampNeg x4)) / 5))))), (6, vI x6)]) hO dX12_settle_331 (by decide) rfl rfl ?_
            refine zi_iconst (v := 0) hO dX12_settle_332 (by decide) ?_
            refine zi_istore (L' := [(0, vR 43 0), (1, vI x1), (2, vI x2), (3, vI (x5 + (((im3 50 0 (Int32.toNatClampNeg ((5 * x6) + 3))) * ((im3 65 0 (Int32.toNatClampNeg x4)) - (im3 65 0 (Int32.toNatClampNeg x4)) / 5 * 5)) + (10 * ((im3 65 0 (Int32.toNatClampNeg x4)) / 5))))), (4, vI x4), (5, vI (x5 + (((im3 50 0 (Int32.toNatClampNeg ((5 * x6) + 3))) * ((im3 65 0 (Int32.toNatClampNeg x4)) - (im3 65 0 (Int32.toNatClampNeg x4)) / 5 * 5)) + (10 * ((im3 65 0 (Int32.toNatClampNeg x4)) / 5))))), (6, vI x6), (7, vI 0)]) hO dX12_settle_333 (by decide) rfl rfl ?_
            exact h
          · have h := h.2 c6
            refine zi_iinc (v' := (x4 + 1)) (L' := [(0, vR 43 0), (1, vI x1), (2, vI x2), (3, vI x3), (4, vI (x4 + 1)), (5, vI (x5 + (((im3 50 0 (Int32.toNatClampNeg ((5 * x6) + 3))) * ((im3 65 0 (Int32.toNatClampNeg x4)) - (im3 65 0 (Int32.toNatClampNeg x4)) / 5 * 5)) + (10 * ((im3 65 0 (Int32.toNatClampNeg x4)) / 5))))), (6, vI x6)]) hO dX12_settle_315 4 rfl rfl (by decide) rfl rfl ?_
            refine zi_aload_n hO dX12_settle_318 0 rfl ?_
            refine zi_getR (r' := 65) (i' := 0) hO dX12_settle_319 fX12_101 rfl rfl (zI (by decide)) rfl ?_
            refine zi_iload hO dX12_settle_322 4 rfl ?_
            refine zi_iconst (v := (-1)) hO dX12_settle_324 (by decide) ?_
            obtain ⟨s8, h⟩ := h
            refine zi_iast hO dX12_settle_325 rfl (zI (by decide)) s8 ?_
            refine zi_goto (tgt := 361) hO dX12_settle_326 (by decide) ?_
            refine zi_goto (tgt := 129) hO dX12_settle_361 (by decide) ?_
            refine zi_pick (L' := [(0, vR 43 0), (1, vI x1), (2, vI x2), (3, vI x3), (4, vI (x4 + 1)), (5, vI (x5 + (((im3 50 0 (Int32.toNatClampNeg ((5 * x6) + 3))) * ((im3 65 0 (Int32.toNatClampNeg x4)) - (im3 65 0 (Int32.toNatClampNeg x4)) / 5 * 5)) + (10 * ((im3 65 0 (Int32.toNatClampNeg x4)) / 5)))))]) [0, 1, 2, 3, 4, 5] rfl ?_
            exact h
  · have h := h.2 c1
    refine zi_iinc (v' := (x4 + (-1))) (L' := [(0, vR 43 0), (1, vI x1), (2, vI x2), (3, vI x3), (4, vI (x4 + (-1))), (5, vI x5), (6, vI x6)]) hO dX12_settle_230 4 rfl rfl (by decide) rfl rfl ?_
    refine zi_goto (tgt := 361) hO dX12_settle_233 (by decide) ?_
    refine zi_goto (tgt := 129) hO dX12_settle_361 (by decide) ?_
    refine zi_pick (L' := [(0, vR 43 0), (1, vI x1), (2, vI x2), (3, vI x3), (4, vI (x4 + (-1))), (5, vI x5)]) [0, 1, 2, 3, 4, 5] rfl ?_
    exact h
theorem rX12_settle_335 {x : zX} {w : zWd} {im : zMem} {lv : Int64} {P : Int32 → zMem → Int64 → Prop} {x1 : Int32} {x2 : Int32} {x3 : Int32} {x4 : Int32} {x5 : Int32} {x6 : Int32} {x7 : Int32} (hO : zOK x w zyX12_settle 5) (hR : zRetI x w zyX12_settle P) (hN : zN x 126 126)
 (h : ((x2 ≤ x7 → zW x w 129 [(0, vR 43 0), (1, vI x1), (2, vI x2), (3, vI x3), (4, vI x4), (5, vI x5)] [] im lv) ∧
 (¬ (x2 ≤ x7) → (vp_in x7 5 ∧ zW x w 335 [(0, vR 43 0), (1, vI x1), (2, vI x2), (3, vI x3), (4, vI x4), (5, vI x5), (6, vI x6), (7, vI (x7 + 1))] [] (zwr im 66 0 (Int32.toNatClampNeg x7) (im 65 0 (Int32.toNatClampNeg x7))) lv)))) :
 zW x w 335 [(0, vR 43 0), (1, vI x1), (2, vI x2), (3, vI x3), (4, vI x4), (5, vI x5), (6, vI x6), (7, vI x7)] [] im lv := by
  refine zi_iload hO dX12_settle_335 7 rfl ?_
  refine zi_iload_n hO dX12_settle_337 2 rfl ?_
  refine zi_icmp_ge (tgt := 361) hO dX12_settle_338 (by decide) (fun c1 => ?_) (fun c1 => ?_)
  · have h := h.1 c1
    refine zi_goto (tgt := 129) hO dX12_settle_361 (by decide) ?_
    refine zi_pick (L' := [(0, vR 43 0), (1, vI x1), (2, vI x2), (3, vI x3), (4, vI x4), (5, vI x5)]) [0, 1, 2, 3, 4, 5] rfl ?_
    exact h
  · have h := h.2 c1
    refine zi_aload_n hO dX12_settle_341 0 rfl ?_
    refine zi_getR (r' := 66) (i' := 0) hO dX12_settle_342 fX12_104 rfl rfl (zI (by decide)) rfl ?_
    refine zi_iload hO dX12_settle_345 7 rfl ?_
    refine zi_aload_n hO dX12_settle_347 0 rfl ?_
    refine zi_getR (r' := 65) (i' := 0) hO dX12_settle_348 fX12_101 rfl rfl (zI (by decide)) rfl ?_
    refine zi_iload hO dX12_settle_351 7 rfl ?_
    obtain ⟨s1, h⟩ := h
    refine zi_iald hO dX12_settle_353 rfl (zI (by decide)) s1 ?_
    refine zi_iast hO dX12_settle_354 rfl (zI (by decide)) s1 ?_
    refine zi_iinc (v' := (x7 + 1)) (L' := [(0, vR 43 0), (1, vI x1), (2, vI x2), (3, vI x3), (4, vI x4), (5, vI x5), (6, vI x6), (7, vI (x7 + 1))]) hO dX12_settle_355 7 rfl rfl (by decide) rfl rfl ?_
    refine zi_goto (tgt := 335) hO dX12_settle_358 (by decide) ?_
    exact h
theorem rX12_settle_367 {x : zX} {w : zWd} {im : zMem} {lv : Int64} {P : Int32 → zMem → Int64 → Prop} {x1 : Int32} {x2 : Int32} {x3 : Int32} {x4 : Int32} {x5 : Int32} {x6 : Int32} (hO : zOK x w zyX12_settle 5) (hR : zRetI x w zyX12_settle P) (hN : zN x 126 126)
 (h : ((x2 ≤ x6 → P x3 im lv) ∧
 (¬ (x2 ≤ x6) → ((x3 = (-1000000) → P x3 im lv) ∧
 (¬ (x3 = (-1000000)) → (vp_in x6 5 ∧ (vp_in (im 64 0 (Int32.toNatClampNeg x6)) 12 ∧ zW x w 367 [(0, vR 43 0), (1, vI x1), (2, vI x2), (3, vI x3), (4, vI x4), (5, vI x5), (6, vI (x6 + 1))] [] (zwr (zwr im 53 0 (Int32.toNatClampNeg (im 64 0 (Int32.toNatClampNeg x6))) ((im 66 0 (Int32.toNatClampNeg x6)) / 5)) 54 0 (Int32.toNatClampNeg (im 64 0 (Int32.toNatClampNeg x6))) ((im 66 0 (Int32.toNatClampNeg x6)) - (im 66 0 (Int32.toNatClampNeg x6)) / 5 * 5)) lv))))))) :
 zW x w 367 [(0, vR 43 0), (1, vI x1), (2, vI x2), (3, vI x3), (4, vI x4), (5, vI x5), (6, vI x6)] [] im lv := by
  refine zi_iload hO dX12_settle_367 6 rfl ?_
  refine zi_iload_n hO dX12_settle_369 2 rfl ?_
  refine zi_icmp_ge (tgt := 427) hO dX12_settle_370 (by decide) (fun c1 => ?_) (fun c1 => ?_)
  · have h := h.1 c1
    refine zi_iload_n hO dX12_settle_427 3 rfl ?_
    exact zr_I hO hR rfl dX12_settle_428 h
  · have h := h.2 c1
    refine zi_iload_n hO dX12_settle_373 3 rfl ?_
    refine zi_ldc (v := (-1000000)) hO dX12_settle_374 nX12_131 ?_
    refine zi_icmp_eq (tgt := 427) hO dX12_settle_376 (by decide) (fun c2 => ?_) (fun c2 => ?_)
    · have h := h.1 c2
      refine zi_iload_n hO dX12_settle_427 3 rfl ?_
      exact zr_I hO hR rfl dX12_settle_428 h
    · have h := h.2 c2
      refine zi_aload_n hO dX12_settle_379 0 rfl ?_
      refine zi_getR (r' := 53) (i' := 0) hO dX12_settle_380 fX12_65 rfl rfl (zI (by decide)) rfl ?_
      refine zi_aload_n hO dX12_settle_383 0 rfl ?_
      refine zi_getR (r' := 64) (i' := 0) hO dX12_settle_384 fX12_98 rfl rfl (zI (by decide)) rfl ?_
      refine zi_iload hO dX12_settle_387 6 rfl ?_
      obtain ⟨s1, h⟩ := h
      refine zi_iald hO dX12_settle_389 rfl (zI (by decide)) s1 ?_
      refine zi_aload_n hO dX12_settle_390 0 rfl ?_
      refine zi_getR (r' := 66) (i' := 0) hO dX12_settle_391 fX12_104 rfl rfl (zI (by decide)) rfl ?_
      refine zi_iload hO dX12_settle_394 6 rfl ?_
      refine zi_iald hO dX12_settle_396 rfl (zI (by decide)) s1 ?_
      refine zi_iconst (v := 5) hO dX12_settle_397 (by decide) ?_
      refine zi_idiv hO dX12_settle_398 (by decide) ?_
      obtain ⟨s2, h⟩ := h
      refine zi_iast hO dX12_settle_399 rfl (zI (by decide)) s2 ?_
      refine zi_aload_n hO dX12_settle_400 0 rfl ?_
      refine zi_getR (r' := 54) (i' := 0) hO dX12_settle_401 fX12_68 rfl rfl (zI (by decide)) rfl ?_
      refine zi_aload_n hO dX12_settle_404 0 rfl ?_
      refine zi_getR (r' := 64) (i' := 0) hO dX12_settle_405 fX12_98 rfl rfl (zI (by decide)) rfl ?_
      refine zi_iload hO dX12_settle_408 6 rfl ?_
      refine zi_iald hO dX12_settle_410 rfl (zI (by decide)) s1 ?_
      refine zi_aload_n hO dX12_settle_411 0 rfl ?_
      refine zi_getR (r' := 66) (i' := 0) hO dX12_settle_412 fX12_104 rfl rfl (zI (by decide)) rfl ?_
      refine zi_iload hO dX12_settle_415 6 rfl ?_
      refine zi_iald hO dX12_settle_417 rfl (zI (by decide)) s1 ?_
      refine zi_iconst (v := 5) hO dX12_settle_418 (by decide) ?_
      refine zi_irem hO dX12_settle_419 (by decide) ?_
      refine zi_iast hO dX12_settle_420 rfl (zI (by decide)) s2 ?_
      refine zi_iinc (v' := (x6 + 1)) (L' := [(0, vR 43 0), (1, vI x1), (2, vI x2), (3, vI x3), (4, vI x4), (5, vI x5), (6, vI (x6 + 1))]) hO dX12_settle_421 6 rfl rfl (by decide) rfl rfl ?_
      refine zi_goto (tgt := 367) hO dX12_settle_424 (by decide) ?_
      exact h

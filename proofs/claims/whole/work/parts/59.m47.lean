/-! the law: its loop -/
theorem and31 (a : Int32) : ∃ k, k < 32 ∧ a &&& 31 = nI k := by
  refine ⟨(a &&& 31).toBitVec.toNat, ?_, ?_⟩
  · show (a.toBitVec &&& (31 : Int32).toBitVec).toNat < 32
    rw [BitVec.toNat_and]
    exact Nat.lt_of_le_of_lt Nat.and_le_right (by decide)
  · apply Int32.toBitVec_inj.mp
    show _ = BitVec.ofNat 32 _
    rw [BitVec.ofNat_toNat, BitVec.setWidth_eq]
theorem lenSix {N i : Nat} (hN : N ≤ 3072) (hi : i ≤ N) (h : ¬ Int32.ofNat N - 6 < nI i) : i + 6 ≤ N := by
  by_cases h6 : 6 ≤ N
  · have e : Int32.ofNat N - 6 = nI (N - 6) := by
      have h1 : nI (N - 6) + nI 6 = nI N := by rw [nI_add, Nat.sub_add_cancel h6]
      show nI N - nI 6 = _
      rw [← h1, Int32.add_sub_cancel]
    rw [e, nI_ltI (by omega) (by omega)] at h
    omega
  · exfalso
    apply h
    have h0 : Int32.ofNat N - 6 < 0 := by
      rcases (show N = 0 ∨ N = 1 ∨ N = 2 ∨ N = 3 ∨ N = 4 ∨ N = 5 by omega) with rfl | rfl | rfl | rfl | rfl | rfl <;> decide
    exact Int32.lt_of_lt_of_le h0 (nI_pos' (by omega))
def zLL (w : zWd) (b i : Nat) : List (Nat × Value) := [(0, .ref b), (1, .ref (w.1 + zad 0 0)), (2, .ref (w.1 + zad 43 0)), (3, .int (nI i))]
set_option maxHeartbeats 4000000 in
theorem L_switch {x : zX} {w : zWd} {b N i : Nat} {xs : Nat → Int32} {m : zMem} {lv : Int64} (hO : zOK x w zyL_law 14) (hNN : zN x 126 126) (hX : zSc x w b N xs) (hv : ∀ k : Nat, k < 6 → vp_in (nI i + nI k) N) (hc : ∀ k : Nat, k < 6 → xs (Int32.toNatClampNeg (nI i + nI k)) = xs (i + k)) (h : INV m) (kk : ∀ im2 lv2, INV im2 → zLr x w 126 zRF 1151 (zLL w b i) [] im2 lv2) : ∀ k : Nat, k < 32 → zLr x w 126 zRF 33 (zLL w b i) [.int (nI k)] m lv
  | 0, _ => zl_tableIn (off := 131) (tgt := 164) hO dL_law_33 (by decide) (by decide) rfl (by decide) (L_case0 hO hNN hX hv hc (J_sheet h _ _ _) kk)
  | 1, _ => zl_tableIn (off := 174) (tgt := 207) hO dL_law_33 (by decide) (by decide) rfl (by decide) (L_case1 hO hNN hX hv hc (J_set h _ _ _) kk)
  | 2, _ => zl_tableIn (off := 217) (tgt := 250) hO dL_law_33 (by decide) (by decide) rfl (by decide) (L_case2 hO hNN hX hv hc (J_copy h _ _ _ _ _) kk)
  | 3, _ => zl_tableIn (off := 280) (tgt := 313) hO dL_law_33 (by decide) (by decide) rfl (by decide) (L_case3 hO hNN hX hv hc (J_drop h _) kk)
  | 4, _ => zl_tableIn (off := 303) (tgt := 336) hO dL_law_33 (by decide) (by decide) rfl (by decide) (L_case4 hO hNN hX hv hc (J_bears h _ _ _ _ _) kk)
  | 5, _ => zl_tableIn (off := 366) (tgt := 399) hO dL_law_33 (by decide) (by decide) rfl (by decide) (L_case5 hO hNN hX hv hc (J_staff h _ _ _ _) kk)
  | 6, _ => zl_tableIn (off := 419) (tgt := 452) hO dL_law_33 (by decide) (by decide) rfl (by decide) (L_case6 hO hNN hX hv hc (J_look h _) kk)
  | 7, _ => zl_tableIn (off := 442) (tgt := 475) hO dL_law_33 (by decide) (by decide) rfl (by decide) (L_case7 hO hNN hX hv hc (J_safe h _ _ _) kk)
  | 8, _ => zl_tableIn (off := 485) (tgt := 518) hO dL_law_33 (by decide) (by decide) rfl (by decide) (L_case8 hO hNN hX hv hc (J_feed h _ _) kk)
  | 9, _ => zl_tableIn (off := 548) (tgt := 581) hO dL_law_33 (by decide) (by decide) rfl (by decide) (L_case9 hO hNN hX hv hc (J_read h) kk)
  | 10, _ => zl_tableIn (off := 561) (tgt := 594) hO dL_law_33 (by decide) (by decide) rfl (by decide) (L_case10 hO hNN hX hv hc (J_fault h) kk)
  | 11, _ => zl_tableIn (off := 574) (tgt := 607) hO dL_law_33 (by decide) (by decide) rfl (by decide) (L_case11 hO hNN hX hv hc (J_told h _ _) kk)
  | 12, _ => zl_tableIn (off := 607) (tgt := 640) hO dL_law_33 (by decide) (by decide) rfl (by decide) (L_case12 hO hNN hX hv hc (J_leg h _ _ _ _) kk)
  | 13, _ => zl_tableIn (off := 660) (tgt := 693) hO dL_law_33 (by decide) (by decide) rfl (by decide) (L_case13 hO hNN hX hv hc (J_choose h _ _ _) kk)
  | 14, _ => zl_tableIn (off := 703) (tgt := 736) hO dL_law_33 (by decide) (by decide) rfl (by decide) (L_case14 hO hNN hX hv hc (J_at h _ _) kk)
  | 15, _ => zl_tableIn (off := 736) (tgt := 769) hO dL_law_33 (by decide) (by decide) rfl (by decide) (L_case15 hO hNN hX hv hc (J_load h _ _ _) kk)
  | 16, _ => zl_tableIn (off := 779) (tgt := 812) hO dL_law_33 (by decide) (by decide) rfl (by decide) (L_case16 hO hNN hX hv hc (J_all h _) kk)
  | 17, _ => zl_tableIn (off := 802) (tgt := 835) hO dL_law_33 (by decide) (by decide) rfl (by decide) (L_case17 hO hNN hX hv hc (J_known h _ _ _) kk)
  | 18, _ => zl_tableIn (off := 845) (tgt := 878) hO dL_law_33 (by decide) (by decide) rfl (by decide) (L_case18 hO hNN hX hv hc (J_split h _) kk)
  | 19, _ => zl_tableIn (off := 868) (tgt := 901) hO dL_law_33 (by decide) (by decide) rfl (by decide) (L_case19 hO hNN hX hv hc (J_settle h _) kk)
  | 20, _ => zl_tableIn (off := 891) (tgt := 924) hO dL_law_33 (by decide) (by decide) rfl (by decide) (L_case20 hO hNN hX hv hc (J_harmless h _ _) kk)
  | 21, _ => zl_tableIn (off := 924) (tgt := 957) hO dL_law_33 (by decide) (by decide) rfl (by decide) (L_case21 hO hNN hX hv hc (J_swap h) kk)
  | 22, _ => zl_tableIn (off := 937) (tgt := 970) hO dL_law_33 (by decide) (by decide) rfl (by decide) (L_case22 hO hNN hX hv hc (J_airline h _ _) kk)
  | 23, _ => zl_tableIn (off := 970) (tgt := 1003) hO dL_law_33 (by decide) (by decide) rfl (by decide) (L_case23 hO hNN hX hv hc (J_kind h _) kk)
  | 24, _ => zl_tableIn (off := 993) (tgt := 1026) hO dL_law_33 (by decide) (by decide) rfl (by decide) (L_case24 hO hNN hX hv hc (J_as h _ _) kk)
  | 25, _ => zl_tableIn (off := 1026) (tgt := 1059) hO dL_law_33 (by decide) (by decide) rfl (by decide) (L_case25 hO hNN hX hv hc (J_ask h _ _) kk)
  | 26, _ => zl_tableIn (off := 1059) (tgt := 1092) hO dL_law_33 (by decide) (by decide) rfl (by decide) (L_case26 hO hNN hX hv hc (J_trace h _) kk)
  | 27, _ => zl_tableIn (off := 1082) (tgt := 1115) hO dL_law_33 (by decide) (by decide) rfl (by decide) (L_case27 hO hNN hX hv hc (J_count h _) kk)
  | 28, _ => zl_tableIn (off := 1105) (tgt := 1138) hO dL_law_33 (by decide) (by decide) rfl (by decide) (L_case28 hO hNN hX hv hc (J_status h) kk)
  | 29, _ => zl_tableOut (tgt := 1151) hO dL_law_33 (by decide) (by decide) (kk m lv h)
  | 30, _ => zl_tableOut (tgt := 1151) hO dL_law_33 (by decide) (by decide) (kk m lv h)
  | 31, _ => zl_tableOut (tgt := 1151) hO dL_law_33 (by decide) (by decide) (kk m lv h)
  | k + 32, hk => absurd hk (by omega)
theorem L_loop {x : zX} {w : zWd} {b N : Nat} {xs : Nat → Int32} (hO : zOK x w zyL_law 14) (hNN : zN x 126 126) (hX : zSc x w b N xs) (hN : N ≤ 3072) (hend : ∀ (L : List (Nat × Value)) im lv, zLr x w 126 zRF 1157 L [] im lv) : ∀ (n i : Nat) (m : zMem) (lv : Int64), N < i + n → i ≤ N → INV m → zLr x w 126 zRF 18 (zLL w b i) [] m lv := by
  intro n
  induction n with
  | zero => intro i m lv h1 h2; exact absurd h1 (by omega)
  | succ n ih =>
    intro i m lv h1 h2 h
    refine zl_iload_n hO dL_law_18 3 rfl ?_
    refine zl_aload_n hO dL_law_19 0 rfl ?_
    refine zl_slen hO hX dL_law_20 ?_
    refine zl_bipush (v := 6) hO dL_law_21 (by decide) ?_
    refine zl_isub hO dL_law_23 ?_
    refine zl_icmp_gt (tgt := 1157) hO dL_law_24 (by decide) (fun _ => hend _ _ _) (fun q => ?_)
    have h6 := lenSix hN h2 q
    have hv : ∀ k : Nat, k < 6 → vp_in (nI i + nI k) N := fun k hk => by rw [nI_add]; exact vp_in_nI (by omega) (by omega)
    have hc : ∀ k : Nat, k < 6 → xs (Int32.toNatClampNeg (nI i + nI k)) = xs (i + k) := fun k hk => by rw [nI_add, nI_clamp (by omega)]
    refine zl_aload_n hO dL_law_27 0 rfl ?_
    refine zl_iload_n hO dL_law_28 3 rfl ?_
    refine zl_sld hO hX dL_law_29 (vp_in_nI (by omega) (by omega)) ?_
    refine zl_bipush (v := 31) hO dL_law_30 (by decide) ?_
    refine zl_iand hO dL_law_32 ?_
    obtain ⟨k, hk, e⟩ := and31 (xs (nI i).toNatClampNeg)
    rw [e]
    refine L_switch hO hNN hX hv hc h (fun im2 lv2 hI => ?_) k hk
    refine zl_iinc (v' := nI (i + 6)) (L' := zLL w b (i + 6)) hO dL_law_1151 3 rfl (by rw [show Int32.ofInt 6 = nI 6 by decide]; exact nI_add _ _) (by decide) (fun q hq => ?_) ?_
    · simp only [zLL, List.mem_cons, List.not_mem_nil, or_false] at hq
      rcases hq with rfl | rfl | rfl | rfl
      · exact Or.inr ⟨by simp [zLL], by simp, Or.inr rfl⟩
      · exact Or.inr ⟨by simp [zLL], by simp, Or.inr rfl⟩
      · exact Or.inr ⟨by simp [zLL], by simp, Or.inr rfl⟩
      · exact Or.inl rfl
    · exact zl_goto (tgt := 18) hO dL_law_1154 (by decide) (ih (i + 6) im2 lv2 (by omega) (by omega) hI)

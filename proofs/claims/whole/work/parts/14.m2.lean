/-! the state by numbers: what the reference's rows say -/
abbrev cN (x : Int32) : Nat := Int32.toNatClampNeg x
def nfl (m : zMem) : Nat := cN (m 43 0 10)
def own (m : zMem) (f : Nat) : Nat := cN (m 50 0 (5 * f))
def wgt (m : zMem) (f : Nat) : Nat := cN (m 50 0 (5 * f + 1))
def sta (m : zMem) (f : Nat) : Nat := cN (m 50 0 (5 * f + 2))
def rat (m : zMem) (f : Nat) : Nat := cN (m 50 0 (5 * f + 3))
def wys (m : zMem) (f : Nat) : Nat := cN (m 50 0 (5 * f + 4))
def way (m : zMem) (f : Nat) : Nat := cN (m 53 0 f)
def dly (m : zMem) (f : Nat) : Nat := cN (m 54 0 f)
def lsl (m : zMem) (f w k : Nat) : Nat := cN (m 52 0 (15 * f + 5 * w + k))
def lrm (m : zMem) (f w k : Nat) : Nat := cN (m 51 0 (15 * f + 5 * w + k))
def nst (m : zMem) : Nat := cN (m 43 0 8)
def stw (m : zMem) (k : Nat) : Nat := cN (m 49 0 (5 * k))
def str (m : zMem) (k : Nat) : Nat := cN (m 49 0 (5 * k + 1))
def sta1 (m : zMem) (k : Nat) : Nat := cN (m 49 0 (5 * k + 2))
def stb (m : zMem) (k : Nat) : Nat := cN (m 49 0 (5 * k + 3))
def stv (m : zMem) (k : Nat) : Nat := cN (m 49 0 (5 * k + 4))
def bas (m : zMem) (k : Nat) : Nat := cN (m 47 0 k)
def stf (m : zMem) (t : Nat) : Nat := cN (m 48 0 t)
def lok (m : zMem) : Nat := cN (m 43 0 7)
def WFf (m : zMem) (f : Nat) : Prop := (m 50 0 (5 * f) = nI (own m f) ∧ own m f ≤ 3) ∧ (m 50 0 (5 * f + 1) = nI (wgt m f) ∧ 1 ≤ wgt m f ∧ wgt m f ≤ 9) ∧ (m 50 0 (5 * f + 2) = nI (sta m f) ∧ sta m f ≤ 40) ∧ (m 50 0 (5 * f + 3) = nI (rat m f) ∧ rat m f ≤ 99) ∧ (m 50 0 (5 * f + 4) = nI (wys m f) ∧ 1 ≤ wys m f ∧ wys m f ≤ 3) ∧ (m 53 0 f = nI (way m f) ∧ way m f < wys m f) ∧ (m 54 0 f = nI (dly m f) ∧ dly m f ≤ 4) ∧
  (∀ w k, w < 3 → k < 5 → m 52 0 (15 * f + 5 * w + k) = nI (lsl m f w k) ∧ lsl m f w k ≤ 4 ∧ (1 ≤ lsl m f w k → m 51 0 (15 * f + 5 * w + k) = nI (lrm m f w k) ∧ lrm m f w k ≤ 7))
def WFs (m : zMem) (k : Nat) : Prop := (m 49 0 (5 * k) = nI (stw m k) ∧ 1 ≤ stw m k ∧ stw m k ≤ 3) ∧ (m 49 0 (5 * k + 1) = nI (str m k) ∧ str m k ≤ 7) ∧ (m 49 0 (5 * k + 2) = nI (sta1 m k) ∧ sta1 m k ≤ 47) ∧ (m 49 0 (5 * k + 3) = nI (stb m k) ∧ sta1 m k < stb m k ∧ stb m k ≤ 48) ∧ (m 49 0 (5 * k + 4) = nI (stv m k) ∧ stv m k ≤ 99)
def WF (m : zMem) : Prop := (m 43 0 10 = nI (nfl m) ∧ nfl m ≤ 12) ∧ (∀ f, f < nfl m → WFf m f) ∧ (m 43 0 8 = nI (nst m) ∧ nst m ≤ 20) ∧ (∀ k, k < nst m → WFs m k) ∧ (∀ k, k < 384 → m 47 0 k = nI (bas m k) ∧ bas m k ≤ 99) ∧ (∀ t, t < 48 → m 48 0 t = nI (stf m t) ∧ stf m t ≤ 9) ∧ (m 43 0 7 = nI (lok m) ∧ 1 ≤ lok m ∧ lok m ≤ 15)
/-- the rows of im that tell the state are m's -/
def RM (m im : zMem) : Prop := (∀ r, 47 ≤ r → r ≤ 54 → im r = m r) ∧ im 43 0 7 = m 43 0 7 ∧ im 43 0 8 = m 43 0 8 ∧ im 43 0 10 = m 43 0 10
theorem RM.wr {m im : zMem} (h : RM m im) {r i k : Nat} {v : Int32} (h1 : ¬ (47 ≤ r ∧ r ≤ 54)) (h2 : ¬ (r = 43 ∧ (k = 7 ∨ k = 8 ∨ k = 10))) : RM m (zwr im r i k v) := by
  obtain ⟨a, b, c, d⟩ := h
  refine ⟨fun q g1 g2 => ?_, ?_, ?_, ?_⟩
  · rw [zwr_r (by omega)]; exact a q g1 g2
  all_goals (rw [zwr_app, if_neg (by omega)]; assumption)
/-- an answer of a room -/
def zOp (o : Option Nat) : Int32 := match o with
  | none => -1000000
  | some r => nI r
theorem zOp_none {o : Option Nat} (h : ∀ r, o = some r → r < 1000) : zOp o = -1000000 ↔ o = none := by
  cases o with
  | none => simp [zOp]
  | some r =>
    have := h r rfl
    simp only [zOp]
    refine ⟨fun q => ?_, fun q => by cases q⟩
    have h2 : (nI r).toInt = (-1000000 : Int32).toInt := by rw [q]
    rw [nI_toInt (by omega)] at h2
    have h3 : (-1000000 : Int32).toInt = -1000000 := by decide
    omega
theorem zOp_some {o : Option Nat} {r : Nat} (hr : r < 1000) (h : ∀ r, o = some r → r < 1000) : zOp o = nI r ↔ o = some r := by
  cases o with
  | none =>
    simp only [zOp]
    refine ⟨fun q => ?_, fun q => by cases q⟩
    have h2 : (nI r).toInt = (-1000000 : Int32).toInt := by rw [q]
    rw [nI_toInt (by omega)] at h2
    have h3 : (-1000000 : Int32).toInt = -1000000 := by decide
    omega
  | some q =>
    have := h q rfl
    simp only [zOp]
    rw [nI_eq (by omega) (by omega)]
    simp
def rmGo (sl rm : Nat → Nat) (t : Nat) : Nat → Nat → Nat → Option Nat
  | 0, _, _ => none
  | n + 1, k, b => if b ≤ t ∧ t < b + sl k then some (rm k) else rmGo sl rm t n (k + 1) (b + sl k)
def room (m : zMem) (f w d t : Nat) : Option Nat := rmGo (lsl m f w) (lrm m f w) t 5 0 (sta m f + d)
theorem rmGo_lt {sl rm : Nat → Nat} {t N : Nat} : ∀ {n k b r : Nat}, (∀ j, k ≤ j → j < k + n → 1 ≤ sl j → rm j ≤ N) → rmGo sl rm t n k b = some r → r ≤ N
  | 0, k, b, r, _, h => by cases h
  | n + 1, k, b, r, hr, h => by
    unfold rmGo at h
    split at h
    · cases h
      exact hr k (Nat.le_refl _) (by omega) (by omega)
    · exact rmGo_lt (fun j h1 h2 => hr j (by omega) (by omega)) h
theorem room_lt {m : zMem} (hW : WF m) {f w d t r : Nat} (hf : f < nfl m) (hw : w < 3) (h : room m f w d t = some r) : r ≤ 7 :=
  rmGo_lt (fun j _ h2 h3 => (((hW.2.1 f hf).2.2.2.2.2.2.2 w j hw (by omega)).2.2 h3).2) h
theorem rX12_roomBy_0 {x : zX} {w : zWd} {im : zMem} {lv : Int64} {P : Int32 → zMem → Int64 → Prop} {x1 : Int32} {x2 : Int32} {x3 : Int32} {x4 : Int32} (hO : zOK x w zyX12_roomBy 2) (hR : zRetI x w zyX12_roomBy P) (hN : zN x 126 126)
 (h : (vp_in ((5 * x1) + 2) 60 ∧ zW x w 17 [(0, vR 43 0), (1, vI x1), (2, vI x2), (3, vI x3), (4, vI x4), (5, vI ((im 50 0 (Int32.toNatClampNeg ((5 * x1) + 2))) + x3)), (6, vI 0)] [] im lv)) :
 zW x w 0 [(0, vR 43 0), (1, vI x1), (2, vI x2), (3, vI x3), (4, vI x4)] [] im lv := by
  refine zi_aload_n hO dX12_roomBy_0 0 rfl ?_
  refine zi_getR (r' := 50) (i' := 0) hO dX12_roomBy_1 fX12_56 rfl rfl (zI (by decide)) rfl ?_
  refine zi_iconst (v := 5) hO dX12_roomBy_4 (by decide) ?_
  refine zi_iload_n hO dX12_roomBy_5 1 rfl ?_
  refine zi_imul hO dX12_roomBy_6 ?_
  refine zi_iconst (v := 2) hO dX12_roomBy_7 (by decide) ?_
  refine zi_iadd hO dX12_roomBy_8 ?_
  obtain ⟨s1, h⟩ := h
  refine zi_iald hO dX12_roomBy_9 rfl (zI (by decide)) s1 ?_
  refine zi_iload_n hO dX12_roomBy_10 3 rfl ?_
  refine zi_iadd hO dX12_roomBy_11 ?_
  refine zi_istore (L' := [(0, vR 43 0), (1, vI x1), (2, vI x2), (3, vI x3), (4, vI x4), (5, vI ((im 50 0 (Int32.toNatClampNeg ((5 * x1) + 2))) + x3))]) hO dX12_roomBy_12 (by decide) rfl rfl ?_
  refine zi_iconst (v := 0) hO dX12_roomBy_14 (by decide) ?_
  refine zi_istore (L' := [(0, vR 43 0), (1, vI x1), (2, vI x2), (3, vI x3), (4, vI x4), (5, vI ((im 50 0 (Int32.toNatClampNeg ((5 * x1) + 2))) + x3)), (6, vI 0)]) hO dX12_roomBy_15 (by decide) rfl rfl ?_
  exact h
theorem rX12_roomBy_17 {x : zX} {w : zWd} {im : zMem} {lv : Int64} {P : Int32 → zMem → Int64 → Prop} {x1 : Int32} {x2 : Int32} {x3 : Int32} {x4 : Int32} {x5 : Int32} {x6 : Int32} (hO : zOK x w zyX12_roomBy 2) (hR : zRetI x w zyX12_roomBy P) (hN : zN x 126 126)
 (h : ((5 ≤ x6 → P (-1000000) im lv) ∧
 (¬ (5 ≤ x6) → (vp_in (((15 * x1) + (5 * x2)) + x6) 180 ∧ ((x4 < x5 → zW x w 17 [(0, vR 43 0), (1, vI x1), (2, vI x2), (3, vI x3), (4, vI x4), (5, vI (x5 + (im 52 0 (Int32.toNatClampNeg (((15 * x1) + (5 * x2)) + x6))))), (6, vI (x6 + 1))] [] im lv) ∧
 (¬ (x4 < x5) → (((x5 + (im 52 0 (Int32.toNatClampNeg (((15 * x1) + (5 * x2)) + x6)))) ≤ x4 → zW x w 17 [(0, vR 43 0), (1, vI x1), (2, vI x2), (3, vI x3), (4, vI x4), (5, vI (x5 + (im 52 0 (Int32.toNatClampNeg (((15 * x1) + (5 * x2)) + x6))))), (6, vI (x6 + 1))] [] im lv) ∧
 (¬ ((x5 + (im 52 0 (Int32.toNatClampNeg (((15 * x1) + (5 * x2)) + x6)))) ≤ x4) → P (im 51 0 (Int32.toNatClampNeg (((15 * x1) + (5 * x2)) + x6))) im lv)))))))) :
 zW x w 17 [(0, vR 43 0), (1, vI x1), (2, vI x2), (3, vI x3), (4, vI x4), (5, vI x5), (6, vI x6)] [] im lv := by
  refine zi_iload hO dX12_roomBy_17 6 rfl ?_
  refine zi_iconst (v := 5) hO dX12_roomBy_19 (by decide) ?_
  refine zi_icmp_ge (tgt := 85) hO dX12_roomBy_20 (by decide) (fun c1 => ?_) (fun c1 => ?_)
  · have h := h.1 c1
    refine zi_ldc (v := (-1000000)) hO dX12_roomBy_85 nX12_131 ?_
    exact zr_I hO hR rfl dX12_roomBy_87 h
  · have h := h.2 c1
    refine zi_iload hO dX12_roomBy_23 5 rfl ?_
    refine zi_aload_n hO dX12_roomBy_25 0 rfl ?_
    refine zi_getR (r' := 52) (i' := 0) hO dX12_roomBy_26 fX12_62 rfl rfl (zI (by decide)) rfl ?_
    refine zi_bipush (v := 15) hO dX12_roomBy_29 (by decide) ?_
    refine zi_iload_n hO dX12_roomBy_31 1 rfl ?_
    refine zi_imul hO dX12_roomBy_32 ?_
    refine zi_iconst (v := 5) hO dX12_roomBy_33 (by decide) ?_
    refine zi_iload_n hO dX12_roomBy_34 2 rfl ?_
    refine zi_imul hO dX12_roomBy_35 ?_
    refine zi_iadd hO dX12_roomBy_36 ?_
    refine zi_iload hO dX12_roomBy_37 6 rfl ?_
    refine zi_iadd hO dX12_roomBy_39 ?_
    obtain ⟨s1, h⟩ := h
    refine zi_iald hO dX12_roomBy_40 rfl (zI (by decide)) s1 ?_
    refine zi_iadd hO dX12_roomBy_41 ?_
    refine zi_istore (L' := [(0, vR 43 0), (1, vI x1), (2, vI x2), (3, vI x3), (4, vI x4), (5, vI x5), (6, vI x6), (7, vI (x5 + (im 52 0 (Int32.toNatClampNeg (((15 * x1) + (5 * x2)) + x6)))))]) hO dX12_roomBy_42 (by decide) rfl rfl ?_
    refine zi_iload hO dX12_roomBy_44 4 rfl ?_
    refine zi_iload hO dX12_roomBy_46 5 rfl ?_
    refine zi_icmp_lt (tgt := 75) hO dX12_roomBy_48 (by decide) (fun c2 => ?_) (fun c2 => ?_)
    · have h := h.1 c2
      refine zi_iload hO dX12_roomBy_75 7 rfl ?_
      refine zi_istore (L' := [(0, vR 43 0), (1, vI x1), (2, vI x2), (3, vI x3), (4, vI x4), (5, vI (x5 + (im 52 0 (Int32.toNatClampNeg (((15 * x1) + (5 * x2)) + x6))))), (6, vI x6), (7, vI (x5 + (im 52 0 (Int32.toNatClampNeg (((15 * x1) + (5 * x2)) + x6)))))]) hO dX12_roomBy_77 (by decide) rfl rfl ?_
      refine zi_iinc (v' := (x6 + 1)) (L' := [(0, vR 43 0), (1, vI x1), (2, vI x2), (3, vI x3), (4, vI x4), (5, vI (x5 + (im 52 0 (Int32.toNatClampNeg (((15 * x1) + (5 * x2)) + x6))))), (6, vI (x6 + 1)), (7, vI (x5 + (im 52 0 (Int32.toNatClampNeg (((15 * x1) + (5 * x2)) + x6)))))]) hO dX12_roomBy_79 6 rfl rfl (by decide) rfl rfl ?_
      refine zi_goto (tgt := 17) hO dX12_roomBy_82 (by decide) ?_
      refine zi_pick (L' := [(0, vR 43 0), (1, vI x1), (2, vI x2), (3, vI x3), (4, vI x4), (5, vI (x5 + (im 52 0 (Int32.toNatClampNeg (((15 * x1) + (5 * x2)) + x6))))), (6, vI (x6 + 1))]) [0, 1, 2, 3, 4, 5, 6] rfl ?_
      exact h
    · have h := h.2 c2
      refine zi_iload hO dX12_roomBy_51 4 rfl ?_
      refine zi_iload hO dX12_roomBy_53 7 rfl ?_
      refine zi_icmp_ge (tgt := 75) hO dX12_roomBy_55 (by decide) (fun c3 => ?_) (fun c3 => ?_)
      · have h := h.1 c3
        refine zi_iload hO dX12_roomBy_75 7 rfl ?_
        refine zi_istore (L' := [(0, vR 43 0), (1, vI x1), (2, vI x2), (3, vI x3), (4, vI x4), (5, vI (x5 + (im 52 0 (Int32.toNatClampNeg (((15 * x1) + (5 * x2)) + x6))))), (6, vI x6), (7, vI (x5 + (im 52 0 (Int32.toNatClampNeg (((15 * x1) + (5 * x2)) + x6)))))]) hO dX12_roomBy_77 (by decide) rfl rfl ?_
        refine zi_iinc (v' := (x6 + 1)) (L' := [(0, vR 43 0), (1, vI x1), (2, vI x2), (3, vI x3), (4, vI x4), (5, vI (x5 + (im 52 0 (Int32.toNatClampNeg (((15 * x1) + (5 * x2)) + x6))))), (6, vI (x6 + 1)), (7, vI (x5 + (im 52 0 (Int32.toNatClampNeg (((15 * x1) + (5 * x2)) + x6)))))]) hO dX12_roomBy_79 6 rfl rfl (by decide) rfl rfl ?_
        refine zi_goto (tgt := 17) hO dX12_roomBy_82 (by decide) ?_
        refine zi_pick (L' := [(0, vR 43 0), (1, vI x1), (2, vI x2), (3, vI x3), (4, vI x4), (5, vI (x5 + (im 52 0 (Int32.toNatClampNeg (((15 * x1) + (5 * x2)) + x6))))), (6, vI (x6 + 1))]) [0, 1, 2, 3, 4, 5, 6] rfl ?_
        exact h
      · have h := h.2 c3
        refine zi_aload_n hO dX12_roomBy_58 0 rfl ?_
        refine zi_getR (r' := 51) (i' := 0) hO dX12_roomBy_59 fX12_59 rfl rfl (zI (by decide)) rfl ?_
        refine zi_bipush (v := 15) hO dX12_roomBy_62 (by decide) ?_
        refine zi_iload_n hO dX12_roomBy_64 1 rfl ?_
        refine zi_imul hO dX12_roomBy_65 ?_
        refine zi_iconst (v := 5) hO dX12_roomBy_66 (by decide) ?_
        refine zi_iload_n hO dX12_roomBy_67 2 rfl ?_
        refine zi_imul hO dX12_roomBy_68 ?_
        refine zi_iadd hO dX12_roomBy_69 ?_
        refine zi_iload hO dX12_roomBy_70 6 rfl ?_
        refine zi_iadd hO dX12_roomBy_72 ?_
        refine zi_iald hO dX12_roomBy_73 rfl (zI (by decide)) s1 ?_
        exact zr_I hO hR rfl dX12_roomBy_74 h
theorem rX12_slotsOf_0 {x : zX} {w : zWd} {im : zMem} {lv : Int64} {P : Int32 → zMem → Int64 → Prop} {x1 : Int32} {x2 : Int32} (hO : zOK x w zyX12_slotsOf 2) (hR : zRetI x w zyX12_slotsOf P) (hN : zN x 126 126)
 (h : zW x w 5 [(0, vR 43 0), (1, vI x1), (2, vI x2), (3, vI 0), (4, vI 0)] [] im lv) :
 zW x w 0 [(0, vR 43 0), (1, vI x1), (2, vI x2)] [] im lv := by
  refine zi_iconst (v := 0) hO dX12_slotsOf_0 (by decide) ?_
  refine zi_istore_n (L' := [(0, vR 43 0), (1, vI x1), (2, vI x2), (3, vI 0)]) hO dX12_slotsOf_1 (by decide) rfl rfl ?_
  refine zi_iconst (v := 0) hO dX12_slotsOf_2 (by decide) ?_
  refine zi_istore (L' := [(0, vR 43 0), (1, vI x1), (2, vI x2), (3, vI 0), (4, vI 0)]) hO dX12_slotsOf_3 (by decide) rfl rfl ?_
  exact h
theorem rX12_slotsOf_5 {x : zX} {w : zWd} {im : zMem} {lv : Int64} {P : Int32 → zMem → Int64 → Prop} {x1 : Int32} {x2 : Int32} {x3 : Int32} {x4 : Int32} (hO : zOK x w zyX12_slotsOf 2) (hR : zRetI x w zyX12_slotsOf P) (hN : zN x 126 126)
 (h : ((5 ≤ x4 → P x3 im lv) ∧
 (¬ (5 ≤ x4) → (vp_in (((15 * x1) + (5 * x2)) + x4) 180 ∧ zW x w 5 [(0, vR 43 0), (1, vI x1), (2, vI x2), (3, vI (x3 + (im 52 0 (Int32.toNatClampNeg (((15 * x1) + (5 * x2)) + x4))))), (4, vI (x4 + 1))] [] im lv)))) :
 zW x w 5 [(0, vR 43 0), (1, vI x1), (2, vI x2), (3, vI x3), (4, vI x4)] [] im lv := by
  refine zi_iload hO dX12_slotsOf_5 4 rfl ?_
  refine zi_iconst (v := 5) hO dX12_slotsOf_7 (by decide) ?_
  refine zi_icmp_ge (tgt := 36) hO dX12_slotsOf_8 (by decide) (fun c1 => ?_) (fun c1 => ?_)
  · have h := h.1 c1
    refine zi_iload_n hO dX12_slotsOf_36 3 rfl ?_
    exact zr_I hO hR rfl dX12_slotsOf_37 h
  · have h := h.2 c1
    refine zi_iload_n hO dX12_slotsOf_11 3 rfl ?_
    refine zi_aload_n hO dX12_slotsOf_12 0 rfl ?_
    refine zi_getR (r' := 52) (i' := 0) hO dX12_slotsOf_13 fX12_62 rfl rfl (zI (by decide)) rfl ?_
    refine zi_bipush (v := 15) hO dX12_slotsOf_16 (by decide) ?_
    refine zi_iload_n hO dX12_slotsOf_18 1 rfl ?_
    refine zi_imul hO dX12_slotsOf_19 ?_
    refine zi_iconst (v := 5) hO dX12_slotsOf_20 (by decide) ?_
    refine zi_iload_n hO dX12_slotsOf_21 2 rfl ?_
    refine zi_imul hO dX12_slotsOf_22 ?_
    refine zi_iadd hO dX12_slotsOf_23 ?_
    refine zi_iload hO dX12_slotsOf_24 4 rfl ?_
    refine zi_iadd hO dX12_slotsOf_26 ?_
    obtain ⟨s1, h⟩ := h
    refine zi_iald hO dX12_slotsOf_27 rfl (zI (by decide)) s1 ?_
    refine zi_iadd hO dX12_slotsOf_28 ?_
    refine zi_istore_n (L' := [(0, vR 43 0), (1, vI x1), (2, vI x2), (3, vI (x3 + (im 52 0 (Int32.toNatClampNeg (((15 * x1) + (5 * x2)) + x4))))), (4, vI x4)]) hO dX12_slotsOf_29 (by decide) rfl rfl ?_
    refine zi_iinc (v' := (x4 + 1)) (L' := [(0, vR 43 0), (1, vI x1), (2, vI x2), (3, vI (x3 + (im 52 0 (Int32.toNatClampNeg (((15 * x1) + (5 * x2)) + x4))))), (4, vI (x4 + 1))]) hO dX12_slotsOf_30 4 rfl rfl (by decide) rfl rfl ?_
    refine zi_goto (tgt := 5) hO dX12_slotsOf_33 (by decide) ?_
    exact h
theorem rX12_bearsIn_0 {x : zX} {w : zWd} {im : zMem} {lv : Int64} {P : Int32 → zMem → Int64 → Prop} {x1 : Int32} {x2 : Int32} {x3 : Int32} (hO : zOK x w zyX12_bearsIn 2) (hR : zRetI x w zyX12_bearsIn P) (hN : zN x 126 126)
 (h : (vp_in ((48 * x1) + x2) 384 ∧ zW x w 16 [(0, vR 43 0), (1, vI x1), (2, vI x2), (3, vI x3), (4, vI (im 47 0 (Int32.toNatClampNeg ((48 * x1) + x2)))), (5, vI 0)] [] im lv)) :
 zW x w 0 [(0, vR 43 0), (1, vI x1), (2, vI x2), (3, vI x3)] [] im lv := by
  refine zi_aload_n hO dX12_bearsIn_0 0 rfl ?_
  refine zi_getR (r' := 47) (i' := 0) hO dX12_bearsIn_1 fX12_44 rfl rfl (zI (by decide)) rfl ?_
  refine zi_bipush (v := 48) hO dX12_bearsIn_4 (by decide) ?_
  refine zi_iload_n hO dX12_bearsIn_6 1 rfl ?_
  refine zi_imul hO dX12_bearsIn_7 ?_
  refine zi_iload_n hO dX12_bearsIn_8 2 rfl ?_
  refine zi_iadd hO dX12_bearsIn_9 ?_
  obtain ⟨s1, h⟩ := h
  refine zi_iald hO dX12_bearsIn_10 rfl (zI (by decide)) s1 ?_
  refine zi_istore (L' := [(0, vR 43 0), (1, vI x1), (2, vI x2), (3, vI x3), (4, vI (im 47 0 (Int32.toNatClampNeg ((48 * x1) + x2))))]) hO dX12_bearsIn_11 (by decide) rfl rfl ?_
  refine zi_iconst (v := 0) hO dX12_bearsIn_13 (by decide) ?_
  refine zi_istore (L' := [(0, vR 43 0), (1, vI x1), (2, vI x2), (3, vI x3), (4, vI (im 47 0 (Int32.toNatClampNeg ((48 * x1) + x2)))), (5, vI 0)]) hO dX12_bearsIn_14 (by decide) rfl rfl ?_
  exact h
theorem rX12_bearsIn_16 {x : zX} {w : zWd} {im : zMem} {lv : Int64} {P : Int32 → zMem → Int64 → Prop} {x1 : Int32} {x2 : Int32} {x3 : Int32} {x4 : Int32} {x5 : Int32} (hO : zOK x w zyX12_bearsIn 2) (hR : zRetI x w zyX12_bearsIn P) (hN : zN x 126 126)
 (h : (((im 43 0 8) ≤ x5 → P x4 im lv) ∧
 (¬ ((im 43 0 8) ≤ x5) → (vp_in (5 * x5) 100 ∧ ((¬ ((im 49 0 (Int32.toNatClampNeg (5 * x5))) = x3) → zW x w 16 [(0, vR 43 0), (1, vI x1), (2, vI x2), (3, vI x3), (4, vI x4), (5, vI (x5 + 1))] [] im lv) ∧
 ((im 49 0 (Int32.toNatClampNeg (5 * x5))) = x3 → (vp_in ((5 * x5) + 1) 100 ∧ ((¬ ((im 49 0 (Int32.toNatClampNeg ((5 * x5) + 1))) = x1) → zW x w 16 [(0, vR 43 0), (1, vI x1), (2, vI x2), (3, vI x3), (4, vI x4), (5, vI (x5 + 1))] [] im lv) ∧
 ((im 49 0 (Int32.toNatClampNeg ((5 * x5) + 1))) = x1 → (vp_in ((5 * x5) + 2) 100 ∧ ((x2 < (im 49 0 (Int32.toNatClampNeg ((5 * x5) + 2))) → zW x w 16 [(0, vR 43 0), (1, vI x1), (2, vI x2), (3, vI x3), (4, vI x4), (5, vI (x5 + 1))] [] im lv) ∧
 (¬ (x2 < (im 49 0 (Int32.toNatClampNeg ((5 * x5) + 2)))) → (vp_in ((5 * x5) + 3) 100 ∧ (((im 49 0 (Int32.toNatClampNeg ((5 * x5) + 3))) ≤ x2 → zW x w 16 [(0, vR 43 0), (1, vI x1), (2, vI x2), (3, vI x3), (4, vI x4), (5, vI (x5 + 1))] [] im lv) ∧
 (¬ ((im 49 0 (Int32.toNatClampNeg ((5 * x5) + 3))) ≤ x2) → (vp_in ((5 * x5) + 4) 100 ∧ ((x4 ≤ (im 49 0 (Int32.toNatClampNeg ((5 * x5) + 4))) → zW x w 16 [(0, vR 43 0), (1, vI x1), (2, vI x2), (3, vI x3), (4, vI x4), (5, vI (x5 + 1))] [] im lv) ∧
 (¬ (x4 ≤ (im 49 0 (Int32.toNatClampNeg ((5 * x5) + 4)))) → zW x w 16 [(0, vR 43 0), (1, vI x1), (2, vI x2), (3, vI x3), (4, vI (im 49 0 (Int32.toNatClampNeg ((5 * x5) + 4)))), (5, vI (x5 + 1))] [] im lv)))))))))))))))))) :
 zW x w 16 [(0, vR 43 0), (1, vI x1), (2, vI x2), (3, vI x3), (4, vI x4), (5, vI x5)] [] im lv := by
  refine zi_iload hO dX12_bearsIn_16 5 rfl ?_
  refine zi_aload_n hO dX12_bearsIn_18 0 rfl ?_
  refine zi_getI hO dX12_bearsIn_19 fX12_124 rfl rfl (zI (by decide)) ?_
  refine zi_icmp_ge (tgt := 129) hO dX12_bearsIn_22 (by decide) (fun c1 => ?_) (fun c1 => ?_)
  · have h := h.1 c1
    refine zi_iload hO dX12_bearsIn_129 4 rfl ?_
    exact zr_I hO hR rfl dX12_bearsIn_131 h
  · have h := h.2 c1
    refine zi_iconst (v := 5) hO dX12_bearsIn_25 (by decide) ?_
    refine zi_iload hO dX12_bearsIn_26 5 rfl ?_
    refine zi_imul hO dX12_bearsIn_28 ?_
    refine zi_istore (L' := [(0, vR 43 0), (1, vI x1), (2, vI x2), (3, vI x3), (4, vI x4), (5, vI x5), (6, vI (5 * x5))]) hO dX12_bearsIn_29 (by decide) rfl rfl ?_
    refine zi_aload_n hO dX12_bearsIn_31 0 rfl ?_
    refine zi_getR (r' := 49) (i' := 0) hO dX12_bearsIn_32 fX12_53 rfl rfl (zI (by decide)) rfl ?_
    refine zi_iload hO dX12_bearsIn_35 6 rfl ?_
    obtain ⟨s1, h⟩ := h
    refine zi_iald hO dX12_bearsIn_37 rfl (zI (by decide)) s1 ?_
    refine zi_iload_n hO dX12_bearsIn_38 3 rfl ?_
    refine zi_icmp_ne (tgt := 85) hO dX12_bearsIn_39 (by decide) (fun c2 => ?_) (fun c2 => ?_)
    · have h := h.1 c2
      refine zi_iconst (v := 0) hO dX12_bearsIn_85 (by decide) ?_
      refine zi_istore (L' := [(0, vR 43 0), (1, vI x1), (2, vI x2), (3, vI x3), (4, vI x4), (5, vI x5), (6, vI (5 * x5)), (7, vI 0)]) hO dX12_bearsIn_86 (by decide) rfl rfl ?_
      refine zi_iload hO dX12_bearsIn_88 7 rfl ?_
      refine zi_if_eq (tgt := 119) hO dX12_bearsIn_90 (by decide) (fun _ => ?_) (fun c3 => absurd c3 (by decide))
      refine zi_iload hO dX12_bearsIn_119 4 rfl ?_
      refine zi_istore (L' := [(0, vR 43 0), (1, vI x1), (2, vI x2), (3, vI x3), (4, vI x4), (5, vI x5), (6, vI (5 * x5)), (7, vI 0)]) hO dX12_bearsIn_121 (by decide) rfl rfl ?_
      refine zi_iinc (v' := (x5 + 1)) (L' := [(0, vR 43 0), (1, vI x1), (2, vI x2), (3, vI x3), (4, vI x4), (5, vI (x5 + 1)), (6, vI (5 * x5)), (7, vI 0)]) hO dX12_bearsIn_123 5 rfl rfl (by decide) rfl rfl ?_
      refine zi_goto (tgt := 16) hO dX12_bearsIn_126 (by decide) ?_
      refine zi_pick (L' := [(0, vR 43 0), (1, vI x1), (2, vI x2), (3, vI x3), (4, vI x4), (5, vI (x5 + 1))]) [0, 1, 2, 3, 4, 5] rfl ?_
      exact h
    · have h := h.2 c2
      refine zi_aload_n hO dX12_bearsIn_42 0 rfl ?_
      refine zi_getR (r' := 49) (i' := 0) hO dX12_bearsIn_43 fX12_53 rfl rfl (zI (by decide)) rfl ?_
      refine zi_iload hO dX12_bearsIn_46 6 rfl ?_
      refine zi_iconst (v := 1) hO dX12_bearsIn_48 (by decide) ?_
      refine zi_iadd hO dX12_bearsIn_49 ?_
      obtain ⟨s2, h⟩ := h
      refine zi_iald hO dX12_bearsIn_50 rfl (zI (by decide)) s2 ?_
      refine zi_iload_n hO dX12_bearsIn_51 1 rfl ?_
      refine zi_icmp_ne (tgt := 85) hO dX12_bearsIn_52 (by decide) (fun c4 => ?_) (fun c4 => ?_)
      · have h := h.1 c4
        refine zi_iconst (v := 0) hO dX12_bearsIn_85 (by decide) ?_
        refine zi_istore (L' := [(0, vR 43 0), (1, vI x1), (2, vI x2), (3, vI x3), (4, vI x4), (5, vI x5), (6, vI (5 * x5)), (7, vI 0)]) hO dX12_bearsIn_86 (by decide) rfl rfl ?_
        refine zi_iload hO dX12_bearsIn_88 7 rfl ?_
        refine zi_if_eq (tgt := 119) hO dX12_bearsIn_90 (by decide) (fun _ => ?_) (fun c5 => absurd c5 (by decide))
        refine zi_iload hO dX12_bearsIn_119 4 rfl ?_
        refine zi_istore (L' := [(0, vR 43 0), (1, vI x1), (2, vI x2), (3, vI x3), (4, vI x4), (5, vI x5), (6, vI (5 * x5)), (7, vI 0)]) hO dX12_bearsIn_121 (by decide) rfl rfl ?_
        refine zi_iinc (v' := (x5 + 1)) (L' := [(0, vR 43 0), (1, vI x1), (2, vI x2), (3, vI x3), (4, vI x4), (5, vI (x5 + 1)), (6, vI (5 * x5)), (7, vI 0)]) hO dX12_bearsIn_123 5 rfl rfl (by decide) rfl rfl ?_
        refine zi_goto (tgt := 16) hO dX12_bearsIn_126 (by decide) ?_
        refine zi_pick (L' := [(0, vR 43 0), (1, vI x1), (2, vI x2), (3, vI x3), (4, vI x4), (5, vI (x5 + 1))]) [0, 1, 2, 3, 4, 5] rfl ?_
        exact h
      · have h := h.2 c4
        refine zi_iload_n hO dX12_bearsIn_55 2 rfl ?_
        refine zi_aload_n hO dX12_bearsIn_56 0 rfl ?_
        refine zi_getR (r' := 49) (i' := 0) hO dX12_bearsIn_57 fX12_53 rfl rfl (zI (by decide)) rfl ?_
        refine zi_iload hO dX12_bearsIn_60 6 rfl ?_
        refine zi_iconst (v := 2) hO dX12_bearsIn_62 (by decide) ?_
        refine zi_iadd hO dX12_bearsIn_63 ?_
        obtain ⟨s3, h⟩ := h
        refine zi_iald hO dX12_bearsIn_64 rfl (zI (by decide)) s3 ?_
        refine zi_icmp_lt (tgt := 85) hO dX12_bearsIn_65 (by decide) (fun c6 => ?_) (fun c6 => ?_)
        · have h := h.1 c6
          refine zi_iconst (v := 0) hO dX12_bearsIn_85 (by decide) ?_
          refine zi_istore (L' := [(0, vR 43 0), (1, vI x1), (2, vI x2), (3, vI x3), (4, vI x4), (5, vI x5), (6, vI (5 * x5)), (7, vI 0)]) hO dX12_bearsIn_86 (by decide) rfl rfl ?_
          refine zi_iload hO dX12_bearsIn_88 7 rfl ?_
          refine zi_if_eq (tgt := 119) hO dX12_bearsIn_90 (by decide) (fun _ => ?_) (fun c7 => absurd c7 (by decide))
          refine zi_iload hO dX12_bearsIn_119 4 rfl ?_
          refine zi_istore (L' := [(0, vR 43 0), (1, vI x1), (2, vI x2), (3, vI x3), (4, vI x4), (5, vI x5), (6, vI (5 * x5)), (7, vI 0)]) hO dX12_bearsIn_121 (by decide) rfl rfl ?_
          refine zi_iinc (v' := (x5 + 1)) (L' := [(0, vR 43 0), (1, vI x1), (2, vI x2), (3, vI x3), (4, vI x4), (5, vI (x5 + 1)), (6, vI (5 * x5)), (7, vI 0)]) hO dX12_bearsIn_123 5 rfl rfl (by decide) rfl rfl ?_
          refine zi_goto (tgt := 16) hO dX12_bearsIn_126 (by decide) ?_
          refine zi_pick (L' := [(0, vR 43 0), (1, vI x1), (2, vI x2), (3, vI x3), (4, vI x4), (5, vI (x5 + 1))]) [0, 1, 2, 3, 4, 5] rfl ?_
          exact h
        · have h := h.2 c6
          refine zi_iload_n hO dX12_bearsIn_68 2 rfl ?_
          refine zi_aload_n hO dX12_bearsIn_69 0 rfl ?_
          refine zi_getR (r' := 49) (i' := 0) hO dX12_bearsIn_70 fX12_53 rfl rfl (zI (by decide)) rfl ?_
          refine zi_iload hO dX12_bearsIn_73 6 rfl ?_
          refine zi_iconst (v := 3) hO dX12_bearsIn_75 (by decide) ?_
          refine zi_iadd hO dX12_bearsIn_76 ?_
          obtain ⟨s4, h⟩ := h
          refine zi_iald hO dX12_bearsIn_77 rfl (zI (by decide)) s4 ?_
          refine zi_icmp_ge (tgt := 85) hO dX12_bearsIn_78 (by decide) (fun c8 => ?_) (fun c8 => ?_)
          · have h := h.1 c8
            refine zi_iconst (v := 0) hO dX12_bearsIn_85 (by decide) ?_
            refine zi_istore (L' := [(0, vR 43 0), (1, vI x1), (2, vI x2), (3, vI x3), (4, vI x4), (5, vI x5), (6, vI (5 * x5)), (7, vI 0)]) hO dX12_bearsIn_86 (by decide) rfl rfl ?_
            refine zi_iload hO dX12_bearsIn_88 7 rfl ?_
            refine zi_if_eq (tgt := 119) hO dX12_bearsIn_90 (by decide) (fun _ => ?_) (fun c9 => absurd c9 (by decide))
            refine zi_iload hO dX12_bearsIn_119 4 rfl ?_
            refine zi_istore (L' := [(0, vR 43 0), (1, vI x1), (2, vI x2), (3, vI x3), (4, vI x4), (5, vI x5), (6, vI (5 * x5)), (7, vI 0)]) hO dX12_bearsIn_121 (by decide) rfl rfl ?_
            refine zi_iinc (v' := (x5 + 1)) (L' := [(0, vR 43 0), (1, vI x1), (2, vI x2), (3, vI x3), (4, vI x4), (5, vI (x5 + 1)), (6, vI (5 * x5)), (7, vI 0)]) hO dX12_bearsIn_123 5 rfl rfl (by decide) rfl rfl ?_
            refine zi_goto (tgt := 16) hO dX12_bearsIn_126 (by decide) ?_
            refine zi_pick (L' := [(0, vR 43 0), (1, vI x1), (2, vI x2), (3, vI x3), (4, vI x4), (5, vI (x5 + 1))]) [0, 1, 2, 3, 4, 5] rfl ?_
            exact h
          · have h := h.2 c8
            refine zi_iconst (v := 1) hO dX12_bearsIn_81 (by decide) ?_
            refine zi_goto (tgt := 86) hO dX12_bearsIn_82 (by decide) ?_
            refine zi_istore (L' := [(0, vR 43 0), (1, vI x1), (2, vI x2), (3, vI x3), (4, vI x4), (5, vI x5), (6, vI (5 * x5)), (7, vI 1)]) hO dX12_bearsIn_86 (by decide) rfl rfl ?_
            refine zi_iload hO dX12_bearsIn_88 7 rfl ?_
            refine zi_if_eq (tgt := 119) hO dX12_bearsIn_90 (by decide) (fun c10 => absurd c10 (by decide)) (fun _ => ?_)
            refine zi_aload_n hO dX12_bearsIn_93 0 rfl ?_
            refine zi_getR (r' := 49) (i' := 0) hO dX12_bearsIn_94 fX12_53 rfl rfl (zI (by decide)) rfl ?_
            refine zi_iload hO dX12_bearsIn_97 6 rfl ?_
            refine zi_iconst (v := 4) hO dX12_bearsIn_99 (by decide) ?_
            refine zi_iadd hO dX12_bearsIn_100 ?_
            obtain ⟨s5, h⟩ := h
            refine zi_iald hO dX12_bearsIn_101 rfl (zI (by decide)) s5 ?_
            refine zi_iload hO dX12_bearsIn_102 4 rfl ?_
            refine zi_icmp_ge (tgt := 119) hO dX12_bearsIn_104 (by decide) (fun c11 => ?_) (fun c11 => ?_)
            · have h := h.1 c11
              refine zi_iload hO dX12_bearsIn_119 4 rfl ?_
              refine zi_istore (L' := [(0, vR 43 0), (1, vI x1), (2, vI x2), (3, vI x3), (4, vI x4), (5, vI x5), (6, vI (5 * x5)), (7, vI 1)]) hO dX12_bearsIn_121 (by decide) rfl rfl ?_
              refine zi_iinc (v' := (x5 + 1)) (L' := [(0, vR 43 0), (1, vI x1), (2, vI x2), (3, vI x3), (4, vI x4), (5, vI (x5 + 1)), (6, vI (5 * x5)), (7, vI 1)]) hO dX12_bearsIn_123 5 rfl rfl (by decide) rfl rfl ?_
              refine zi_goto (tgt := 16) hO dX12_bearsIn_126 (by decide) ?_
              refine zi_pick (L' := [(0, vR 43 0), (1, vI x1), (2, vI x2), (3, vI x3), (4, vI x4), (5, vI (x5 + 1))]) [0, 1, 2, 3, 4, 5] rfl ?_
              exact h
            · have h := h.2 c11
              refine zi_aload_n hO dX12_bearsIn_107 0 rfl ?_
              refine zi_getR (r' := 49) (i' := 0) hO dX12_bearsIn_108 fX12_53 rfl rfl (zI (by decide)) rfl ?_
              refine zi_iload hO dX12_bearsIn_111 6 rfl ?_
              refine zi_iconst (v := 4) hO dX12_bearsIn_113 (by decide) ?_
              refine zi_iadd hO dX12_bearsIn_114 ?_
              refine zi_iald hO dX12_bearsIn_115 rfl (zI (by decide)) s5 ?_
              refine zi_goto (tgt := 121) hO dX12_bearsIn_116 (by decide) ?_
              refine zi_istore (L' := [(0, vR 43 0), (1, vI x1), (2, vI x2), (3, vI x3), (4, vI (im 49 0 (Int32.toNatClampNeg ((5 * x5) + 4)))), (5, vI x5), (6, vI (5 * x5)), (7, vI 1)]) hO dX12_bearsIn_121 (by decide) rfl rfl ?_
              refine zi_iinc (v' := (x5 + 1)) (L' := [(0, vR 43 0), (1, vI x1), (2, vI x2), (3, vI x3), (4, vI (im 49 0 (Int32.toNatClampNeg ((5 * x5) + 4)))), (5, vI (x5 + 1)), (6, vI (5 * x5)), (7, vI 1)]) hO dX12_bearsIn_123 5 rfl rfl (by decide) rfl rfl ?_
              refine zi_goto (tgt := 16) hO dX12_bearsIn_126 (by decide) ?_
              refine zi_pick (L' := [(0, vR 43 0), (1, vI x1), (2, vI x2), (3, vI x3), (4, vI (im 49 0 (Int32.toNatClampNeg ((5 * x5) + 4)))), (5, vI (x5 + 1))]) [0, 1, 2, 3, 4, 5] rfl ?_
              exact h
theorem C_X12_roomBy (l : Launch) (w : zWd) {m im : zMem} (lv : Int64) (hW : WF m) (hM : RM m im) {f wy d t : Nat} (hf : f < nfl m) (hw : wy < 3) (hd : d < 1000) (ht : t < 1000) : zSpecI l w 2 zyX12_roomBy [vR 43 0, vI (nI f), vI (nI wy), vI (nI d), vI (nI t)] im lv (fun a im' lv' => a = zOp (room m f wy d t) ∧ im' = im ∧ lv' = lv) := by
  refine ze_I (by decide) (Nat.le_of_ble_eq_true rfl) (fun x hO hR hN => ?_)
  have hF := hW.2.1 f hf
  have h12 := hW.1.2
  have e50 := hM.1 50 (by decide) (by decide)
  have e51 := hM.1 51 (by decide) (by decide)
  have e52 := hM.1 52 (by decide) (by decide)
  have key : ∀ n k b, n + k = 5 → b < 1100 + 4 * k → rmGo (lsl m f wy) (lrm m f wy) t n k b = room m f wy d t → zW x w 17 [(0, vR 43 0), (1, vI (nI f)), (2, vI (nI wy)), (3, vI (nI d)), (4, vI (nI t)), (5, vI (nI b)), (6, vI (nI k))] [] im lv := by
    intro n
    induction n with
    | zero =>
      intro k b hk _ e
      refine rX12_roomBy_17 hO hR hN ?_
      have : k = 5 := by omega
      subst this
      refine ⟨fun _ => ⟨by rw [← e]; rfl, rfl, rfl⟩, fun q => absurd (by decide) q⟩
    | succ n ih =>
      intro k b hk hb e
      refine rX12_roomBy_17 hO hR hN ?_
      obtain ⟨l1, l2, l3⟩ := hF.2.2.2.2.2.2.2 wy k hw (by omega)
      simp (disch := omega) only [zlit, nI_add, pk_mul, nI_clamp, nI_leI, nI_ltI, e51, e52, l1, and_true]
      unfold rmGo at e
      refine ⟨fun q => by omega, fun _ => ⟨vp_in_nI (by omega) (by decide), fun q => ih (k + 1) _ (by omega) (by omega) (by rw [if_neg (by omega)] at e; exact e), fun q => ⟨fun q2 => ih (k + 1) _ (by omega) (by omega) (by rw [if_neg (by omega)] at e; exact e), fun q2 => ?_⟩⟩⟩
      rw [if_pos (by omega)] at e
      rw [← e, (l3 (by omega)).1]
      rfl
  refine rX12_roomBy_0 hO hR hN ?_
  simp (disch := omega) only [zlit, nI_add, pk_mul, nI_clamp, e50, hF.2.2.1.1]
  exact ⟨vp_in_nI (by omega) (by decide), key 5 0 _ rfl (by have := hF.2.2.1.2; omega) rfl⟩
def slN (m : zMem) (f w : Nat) : Nat → Nat
  | 0 => 0
  | k + 1 => slN m f w k + lsl m f w k
theorem C_X12_slotsOf (l : Launch) (w : zWd) {m im : zMem} (lv : Int64) (hW : WF m) (hM : RM m im) {f wy : Nat} (hf : f < nfl m) (hw : wy < 3) : zSpecI l w 2 zyX12_slotsOf [vR 43 0, vI (nI f), vI (nI wy)] im lv (fun a im' lv' => a = nI (slN m f wy 5) ∧ im' = im ∧ lv' = lv) := by
  refine ze_I (by decide) (Nat.le_of_ble_eq_true rfl) (fun x hO hR hN => rX12_slotsOf_0 hO hR hN ?_)
  have hF := hW.2.1 f hf
  have h12 := hW.1.2
  have e52 := hM.1 52 (by decide) (by decide)
  have key : ∀ n k, n + k = 5 → zW x w 5 [(0, vR 43 0), (1, vI (nI f)), (2, vI (nI wy)), (3, vI (nI (slN m f wy k))), (4, vI (nI k))] [] im lv := by
    intro n
    induction n with
    | zero =>
      intro k hk
      have : k = 5 := by omega
      subst this
      exact rX12_slotsOf_5 hO hR hN ⟨fun _ => ⟨rfl, rfl, rfl⟩, fun q => absurd (by decide) q⟩
    | succ n ih =>
      intro k hk
      refine rX12_slotsOf_5 hO hR hN ?_
      obtain ⟨l1, l2, l3⟩ := hF.2.2.2.2.2.2.2 wy k hw (by omega)
      simp (disch := omega) only [zlit, nI_add, pk_mul, nI_clamp, nI_leI, e52, l1]
      exact ⟨fun q => by omega, fun _ => ⟨vp_in_nI (by omega) (by decide), ih (k + 1) (by omega)⟩⟩
  exact key 5 0 rfl
def bwN (m : zMem) (r t w : Nat) : Nat → Nat
  | 0 => bas m (48 * r + t)
  | k + 1 => if (stw m k = w ∧ str m k = r ∧ sta1 m k ≤ t ∧ t < stb m k) ∧ stv m k < bwN m r t w k then stv m k else bwN m r t w k
theorem bwN_le {m : zMem} (hW : WF m) {r t w : Nat} (hr : r < 8) (ht : t < 48) : ∀ k, k ≤ nst m → bwN m r t w k ≤ 99
  | 0, _ => (hW.2.2.2.2.1 _ (by omega)).2
  | k + 1, h => by
    unfold bwN
    have := bwN_le hW hr ht k (by omega) (w := w)
    split <;> omega
def bearsW (m : zMem) (r t w : Nat) : Nat := bwN m r t w (nst m)
theorem C_X12_bearsIn (l : Launch) (w : zWd) {m im : zMem} (lv : Int64) (hW : WF m) (hM : RM m im) {r t wd : Nat} (hr : r < 8) (ht : t < 48) (hw : wd < 1000) : zSpecI l w 2 zyX12_bearsIn [vR 43 0, vI (nI r), vI (nI t), vI (nI wd)] im lv (fun a im' lv' => a = nI (bearsW m r t wd) ∧ im' = im ∧ lv' = lv) := by
  refine ze_I (by decide) (Nat.le_of_ble_eq_true rfl) (fun x hO hR hN => ?_)
  have e47 := hM.1 47 (by decide) (by decide)
  have e49 := hM.1 49 (by decide) (by decide)
  have e8 := hM.2.2.1
  have h20 := hW.2.2.1.2
  have key : ∀ n k, n + k = nst m → zW x w 16 [(0, vR 43 0), (1, vI (nI r)), (2, vI (nI t)), (3, vI (nI wd)), (4, vI (nI (bwN m r t wd k))), (5, vI (nI k))] [] im lv := by
    intro n
    induction n with
    | zero =>
      intro k hk
      have : k = nst m := by omega
      subst this
      refine rX12_bearsIn_16 hO hR hN ?_
      rw [e8, hW.2.2.1.1]
      refine ⟨fun _ => ⟨rfl, rfl, rfl⟩, fun q => absurd (by simp) q⟩
    | succ n ih =>
      intro k hk
      refine rX12_bearsIn_16 hO hR hN ?_
      obtain ⟨s0, s1, s2, s3, s4⟩ := hW.2.2.2.1 k (by omega)
      have hb := bwN_le hW hr ht k (by omega) (w := wd)
      have ih := ih (k + 1) (by omega)
      unfold bwN at ih
      simp (disch := omega) only [zlit, nI_add, pk_mul, nI_clamp, nI_leI, nI_ltI, nI_eq, e8, e49, hW.2.2.1.1, s0.1, s1.1, s2.1, s3.1, s4.1]
      have v0 : vp_in (nI (5 * k)) 100 := vp_in_nI (by omega) (by decide)
      have v1 : vp_in (nI (5 * k + 1)) 100 := vp_in_nI (by omega) (by decide)
      have v2 : vp_in (nI (5 * k + 2)) 100 := vp_in_nI (by omega) (by decide)
      have v3 : vp_in (nI (5 * k + 3)) 100 := vp_in_nI (by omega) (by decide)
      have v4 : vp_in (nI (5 * k + 4)) 100 := vp_in_nI (by omega) (by decide)
      refine ⟨fun q => by omega, fun _ => ⟨v0, fun q => ?_, fun q => ⟨v1, fun q1 => ?_, fun q1 => ⟨v2, fun q2 => ?_, fun q2 => ⟨v3, fun q3 => ?_, fun q3 => ⟨v4, fun q4 => ?_, fun q4 => ?_⟩⟩⟩⟩⟩⟩
      all_goals first
        | (rw [if_neg (by omega)] at ih; exact ih)
        | (rw [if_pos (by omega)] at ih; exact ih)
  refine rX12_bearsIn_0 hO hR hN ?_
  simp (disch := omega) only [zlit, nI_add, pk_mul, nI_clamp, e47, (hW.2.2.2.2.1 (48 * r + t) (by omega)).1]
  exact ⟨vp_in_nI (by omega) (by decide), key (nst m) 0 (by omega)⟩

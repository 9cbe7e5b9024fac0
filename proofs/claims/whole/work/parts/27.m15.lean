/-! the text: bytes, tokens -/
def tb (m : zMem) (k : Nat) : Nat := cN (m 55 0 k)
def tn (m : zMem) : Nat := cN (m 43 0 17)
def WT (m : zMem) : Prop := (m 43 0 17 = nI (tn m) ∧ tn m ≤ 500) ∧ ∀ k, k < tn m → m 55 0 k = nI (tb m k) ∧ tb m k ≤ 255
def rnP (p : Nat → Bool) (m : zMem) : Nat → Nat → Nat
  | 0, a => a
  | k + 1, a => if a < tn m ∧ p (tb m a) = true then rnP p m k (a + 1) else a
def rnE (p : Nat → Bool) (m : zMem) (a : Nat) : Nat := rnP p m (tn m - a) a
theorem rnE_1 {p : Nat → Bool} {m : zMem} {a : Nat} (h : a < tn m) (h2 : p (tb m a) = true) : rnE p m a = rnE p m (a + 1) := by
  unfold rnE
  rw [show tn m - a = (tn m - (a + 1)) + 1 by omega, rnP, if_pos ⟨h, h2⟩]
theorem rnE_0 {p : Nat → Bool} {m : zMem} {a : Nat} (h : ¬ (a < tn m ∧ p (tb m a) = true)) : rnE p m a = a := by
  unfold rnE
  cases hk : tn m - a with
  | zero => rfl
  | succ k => rw [rnP, if_neg h]
theorem rnP_ge {p : Nat → Bool} {m : zMem} : ∀ k a, a ≤ rnP p m k a ∧ (a ≤ tn m → rnP p m k a ≤ tn m) ∧ (tn m ≤ a + k → ¬ (rnP p m k a < tn m ∧ p (tb m (rnP p m k a)) = true))
  | 0, a => ⟨Nat.le_refl _, fun h => h, fun h => by rintro ⟨h1, -⟩; rw [rnP] at h1; omega⟩
  | k + 1, a => by
    rw [rnP]
    by_cases h : a < tn m ∧ p (tb m a) = true
    · rw [if_pos h]
      obtain ⟨h1, h2, h3⟩ := rnP_ge (p := p) (m := m) k (a + 1)
      exact ⟨by omega, fun _ => h2 (by omega), fun g => h3 (by omega)⟩
    · rw [if_neg h]
      exact ⟨Nat.le_refl _, fun h => h, fun _ => h⟩
theorem rnE_ge {p : Nat → Bool} {m : zMem} (a : Nat) : a ≤ rnE p m a := (rnP_ge _ a).1
theorem rnE_le {p : Nat → Bool} {m : zMem} {a : Nat} (h : a ≤ tn m) : rnE p m a ≤ tn m := (rnP_ge _ a).2.1 h
theorem rnE_end {p : Nat → Bool} {m : zMem} (a : Nat) : ¬ (rnE p m a < tn m ∧ p (tb m (rnE p m a)) = true) := (rnP_ge _ a).2.2 (by omega)
/-- all before the end hold -/
theorem rnP_all {p : Nat → Bool} {m : zMem} : ∀ k a j, a ≤ j → j < rnP p m k a → p (tb m j) = true
  | 0, a, j, h1, h2 => by rw [rnP] at h2; omega
  | k + 1, a, j, h1, h2 => by
    rw [rnP] at h2
    by_cases h : a < tn m ∧ p (tb m a) = true
    · rw [if_pos h] at h2
      by_cases hj : j = a
      · rw [hj]; exact h.2
      · exact rnP_all k (a + 1) j (by omega) h2
    · rw [if_neg h] at h2; omega
def bL (b : Nat) : Bool := decide (97 ≤ b ∧ b ≤ 122)
def bF (b : Nat) : Bool := decide (48 ≤ b ∧ b ≤ 57)
def bB (b : Nat) : Bool := decide (b = 32 ∨ b = 10)
def te (m : zMem) (a : Nat) : Nat := if a < tn m then (if bL (tb m a) = true then rnE bL m a else if bF (tb m a) = true then rnE bF m a else a + 1) else a
def kd (m : zMem) (a : Nat) : Nat := if a < tn m then (if bL (tb m a) = true then (if te m a - a ≤ 6 then 1 else 6) else if bF (tb m a) = true then (if te m a - a ≤ 3 then 2 else 6) else if tb m a = 44 then 3 else if tb m a = 59 then 4 else 6) else 0
def sk (m : zMem) (a : Nat) : Nat := rnE bB m a
def nx (m : zMem) (a : Nat) : Nat := sk m (te m a)
theorem te_ge (m : zMem) (a : Nat) : a ≤ te m a := by
  unfold te
  split
  · split
    · exact rnE_ge a
    · split
      · exact rnE_ge a
      · omega
  · omega
theorem te_le {m : zMem} {a : Nat} (h : a ≤ tn m) : te m a ≤ tn m := by
  unfold te
  split
  · split
    · exact rnE_le h
    · split
      · exact rnE_le h
      · omega
  · omega
theorem te_gt {m : zMem} {a : Nat} (h : a < tn m) : a < te m a := by
  unfold te
  rw [if_pos h]
  split
  · rename_i hl
    rw [rnE_1 h hl]
    exact rnE_ge (a + 1)
  · split
    · rename_i hl
      rw [rnE_1 h hl]
      exact rnE_ge (a + 1)
    · omega
theorem kd_lt {m : zMem} {a : Nat} (h : ¬ kd m a = 0) : a < tn m := by
  rcases Nat.lt_or_ge a (tn m) with z | z
  · exact z
  · exact absurd (by unfold kd; rw [if_neg (by omega)]) h
theorem kd_0 {m : zMem} {a : Nat} (h : ¬ a < tn m) : kd m a = 0 := by unfold kd; rw [if_neg h]
theorem kd_n0 {m : zMem} {a : Nat} (h : a < tn m) : ¬ kd m a = 0 := by
  unfold kd
  rw [if_pos h]
  split <;> (try split) <;> (try split) <;> (try split) <;> (try split) <;> decide
theorem kd_le {m : zMem} {a : Nat} : kd m a ≤ 6 := by
  unfold kd
  split <;> (try split) <;> (try split) <;> (try split) <;> (try split) <;> decide
theorem sk_ge (m : zMem) (a : Nat) : a ≤ sk m a := rnE_ge a
theorem sk_le {m : zMem} {a : Nat} (h : a ≤ tn m) : sk m a ≤ tn m := rnE_le h
theorem nx_le {m : zMem} {a : Nat} (h : a ≤ tn m) : nx m a ≤ tn m := sk_le (te_le h)
theorem nx_gt {m : zMem} {a : Nat} (h : a < tn m) : a < nx m a := Nat.lt_of_lt_of_le (te_gt h) (sk_ge m _)
theorem nx_ge (m : zMem) (a : Nat) : a ≤ nx m a := Nat.le_trans (te_ge m a) (sk_ge m _)
theorem sk_nb {m : zMem} {a : Nat} (h : sk m a < tn m) : ¬ bB (tb m (sk m a)) = true := fun z => rnE_end (p := bB) (m := m) a ⟨h, z⟩
/-- a name -/
theorem kd_1 {m : zMem} {a : Nat} : kd m a = 1 ↔ a < tn m ∧ bL (tb m a) = true ∧ te m a - a ≤ 6 := by
  unfold kd
  constructor
  · intro h
    split at h
    · rename_i h1
      split at h
      · rename_i h2
        split at h
        · rename_i h3; exact ⟨h1, h2, h3⟩
        · omega
      · split at h
        · split at h <;> omega
        · split at h
          · omega
          · split at h <;> omega
    · omega
  · rintro ⟨h1, h2, h3⟩
    rw [if_pos h1, if_pos h2, if_pos h3]
theorem bLF {b : Nat} (h : bL b = true) : ¬ bF b = true := by
  unfold bL at h; unfold bF
  simp only [decide_eq_true_eq] at h ⊢
  omega
theorem kd_2 {m : zMem} {a : Nat} : kd m a = 2 ↔ a < tn m ∧ bF (tb m a) = true ∧ te m a - a ≤ 3 := by
  unfold kd
  constructor
  · intro h
    split at h
    · rename_i h1
      split at h
      · split at h <;> omega
      · split at h
        · rename_i h2
          split at h
          · rename_i h3; exact ⟨h1, h2, h3⟩
          · omega
        · split at h
          · omega
          · split at h <;> omega
    · omega
  · rintro ⟨h1, h2, h3⟩
    rw [if_pos h1, if_neg (fun z => bLF z h2), if_pos h2, if_pos h3]
theorem te_L {m : zMem} {a : Nat} (h : a < tn m) (h2 : bL (tb m a) = true) : te m a = rnE bL m a := by unfold te; rw [if_pos h, if_pos h2]
theorem te_F {m : zMem} {a : Nat} (h : a < tn m) (h2 : bF (tb m a) = true) : te m a = rnE bF m a := by unfold te; rw [if_pos h, if_neg (fun z => bLF z h2), if_pos h2]
/-- values -/
def nvP (m : zMem) : Nat → Nat → Nat → Nat
  | 0, _, v => v
  | k + 1, a, v => nvP m k (a + 1) (10 * v + tb m a - 48)
def nv (m : zMem) (a : Nat) : Nat := nvP m (te m a - a) a 0
def wvP (m : zMem) : Nat → Nat → Nat → Nat
  | 0, _, v => v
  | k + 1, a, v => wvP m k (a + 1) (256 * v + tb m a)
def wd (m : zMem) (a : Nat) : Nat := if kd m a = 1 then wvP m (te m a - a) a 0 else 0
/-- bear: four letters at least -/
theorem wvP_4 {m : zMem} {a : Nat} (hb : ∀ j, j < tn m → tb m j ≤ 255) (h : wd m a = 0x62656172) : a + 4 ≤ te m a := by
  unfold wd at h
  by_cases h1 : kd m a = 1
  · rw [if_pos h1] at h
    obtain ⟨g1, g2, g3⟩ := kd_1.mp h1
    have hl := te_le (m := m) (a := a) (by omega)
    rcases Nat.lt_or_ge (te m a) (a + 4) with z | z
    · exfalso
      have k0 : a < tn m → tb m a ≤ 255 := hb a
      have k1 : a + 1 < tn m → tb m (a + 1) ≤ 255 := hb (a + 1)
      have k2 : a + 1 + 1 < tn m → tb m (a + 1 + 1) ≤ 255 := hb (a + 1 + 1)
      have hc : te m a - a = 0 ∨ te m a - a = 1 ∨ te m a - a = 2 ∨ te m a - a = 3 := by omega
      rcases hc with e | e | e | e <;> rw [e] at h <;> simp only [wvP] at h <;> omega
    · exact z
  · rw [if_neg h1] at h; omega
/-- the states of the reader: where it stands, and its fault -/
def ndS (m : zMem) (so : Prop) [Decidable so] (s : Nat × Nat) : Nat × Nat := if s.2 = 0 then (if so then (nx m s.1, 0) else (s.1, 1)) else s
def nmS (m : zMem) (lo hi : Nat) (s : Nat × Nat) : Nat × Nat := if s.2 = 0 then (if kd m s.1 = 2 then (if lo ≤ nv m s.1 ∧ nv m s.1 ≤ hi then (nx m s.1, 0) else (s.1, 2)) else (s.1, 1)) else s
theorem nmS_ge {m : zMem} {lo hi : Nat} {s : Nat × Nat} : s.1 ≤ (nmS m lo hi s).1 := by
  unfold nmS
  have := nx_ge m s.1
  split
  · split
    · split
      · exact this
      · exact Nat.le_refl _
    · exact Nat.le_refl _
  · exact Nat.le_refl _
theorem nmS_le {m : zMem} {lo hi : Nat} {s : Nat × Nat} (h : s.1 ≤ tn m) : (nmS m lo hi s).1 ≤ tn m := by
  unfold nmS
  have := nx_le h
  split
  · split
    · split
      · exact this
      · exact h
    · exact h
  · exact h
/-- read without a fault -/
theorem nmS_0 {m : zMem} {lo hi : Nat} {s : Nat × Nat} (h : (nmS m lo hi s).2 = 0) : s.2 = 0 ∧ kd m s.1 = 2 ∧ lo ≤ nv m s.1 ∧ nv m s.1 ≤ hi ∧ (nmS m lo hi s).1 = nx m s.1 := by
  unfold nmS at h ⊢
  split at h
  · rename_i h1
    split at h
    · rename_i h2
      split at h
      · rename_i h3
        rw [if_pos h1, if_pos h2, if_pos h3]
        exact ⟨h1, h2, h3.1, h3.2, rfl⟩
      · exact absurd h (by simp)
    · exact absurd h (by simp)
  · rename_i h1; exact absurd h h1
def wFl : Nat := 0x666c69676874
def wWy : Nat := 0x776179
def wBr : Nat := 0x62656172
def wSt : Nat := 0x73746f726d
/-- legs: k are allowed still -/
def lgS (m : zMem) : Nat → Nat → (Nat × Nat) × List (Nat × Nat)
  | 0, a => ((a, 3), [])
  | k + 1, a =>
    let s1 := nmS m 0 7 (a, 0)
    let s2 := nmS m 1 4 s1
    if s2.2 = 0 ∧ kd m s2.1 = 3 then (if k = 0 then ((s2.1, 3), [(nv m a, nv m s1.1)]) else ((lgS m k (nx m s2.1)).1, (nv m a, nv m s1.1) :: (lgS m k (nx m s2.1)).2)) else (s2, [(nv m a, nv m s1.1)])
/-- ways, at the word way: k are allowed still -/
def wyS (m : zMem) : Nat → Nat → (Nat × Nat) × List (List (Nat × Nat))
  | 0, a => ((a, 3), [])
  | k + 1, a =>
    let q := lgS m 5 (nx m a)
    if q.1.2 = 0 ∧ wd m q.1.1 = wWy then (if k = 0 then ((q.1.1, 3), [q.2]) else ((wyS m k q.1.1).1, q.2 :: (wyS m k q.1.1).2)) else (q.1, [q.2])
def zFl : Type := (Nat × Nat × Nat × Nat) × List (List (Nat × Nat))
def flS (m : zMem) (a : Nat) : (Nat × Nat) × zFl :=
  let s1 := nmS m 0 3 (a, 0)
  let s2 := nmS m 1 9 s1
  let s3 := nmS m 0 40 s2
  let s4 := nmS m 0 99 s3
  let q := if s4.2 = 0 then (if wd m s4.1 = wWy then wyS m 3 s4.1 else ((s4.1, 1), [])) else (s4, [])
  (q.1, ((nv m a, nv m s1.1, nv m s2.1, nv m s3.1), q.2))
def smS (m : zMem) (a : Nat) : (Nat × Nat) × (Nat × Nat × Nat × Nat × Nat) :=
  let s1 := nmS m 1 3 (a, 0)
  let s2 := nmS m 0 7 s1
  let s3 := nmS m 0 47 s2
  let s4 := nmS m (nv m s2.1 + 1) 48 s3
  let s5 := nmS m 0 99 s4
  (s5, (nv m a, nv m s1.1, nv m s2.1, nv m s3.1, nv m s4.1))
def brS (m : zMem) (a : Nat) : (Nat × Nat) × (Nat × Nat) :=
  let s1 := nmS m 0 7 (a, 0)
  let s2 := nmS m 0 99 s1
  (s2, (nv m a, nv m s1.1))
def semS (m : zMem) (s : Nat × Nat) : Nat × Nat := ndS m (kd m s.1 = 4) s
def zTx : Type := List zFl × List (Nat × Nat × Nat × Nat × Nat) × List (Nat × Nat)
/-- one told thing -/
def oneS (m : zMem) (q : zTx) (a : Nat) : (Nat × Nat) × zTx :=
  if wd m a = wFl then (if nfl m + q.1.length = 12 then ((a, 4), q) else (semS m (flS m (nx m a)).1, (q.1 ++ [(flS m (nx m a)).2], q.2.1, q.2.2)))
  else if wd m a = wSt then (if nst m + q.2.1.length = 20 then ((a, 4), q) else (semS m (smS m (nx m a)).1, (q.1, q.2.1 ++ [(smS m (nx m a)).2], q.2.2)))
  else if wd m a = wBr then (semS m (brS m (nx m a)).1, (q.1, q.2.1, q.2.2 ++ [(brS m (nx m a)).2]))
  else ((a, 1), q)
def allS (m : zMem) : Nat → zTx → Nat → (Nat × Nat) × zTx
  | 0, q, a => ((a, 0), q)
  | k + 1, q, a => if kd m a = 0 then ((a, 0), q) else if (oneS m q a).1.2 = 0 then allS m k (oneS m q a).2 (oneS m q a).1.1 else oneS m q a
def txS (m : zMem) : (Nat × Nat) × zTx := allS m 501 ([], [], []) (sk m 0)
/-- the reference's token -/
def cod (m : zMem) (a : Nat) : Nat := match kd m a with
  | 0 => 1
  | 1 => 2
  | 2 => 3
  | 3 => 4
  | 4 => 4
  | _ => 0
theorem rX12_byteAt_0 {x : zX} {w : zWd} {im : zMem} {lv : Int64} {P : Int32 → zMem → Int64 → Prop} {x1 : Int32} (hO : zOK x w zyX12_byteAt 2) (hR : zRetI x w zyX12_byteAt P) (hN : zN x 126 126)
 (h : (((im 43 0 19) ≤ x1 → P (-1000000) im lv) ∧
 (¬ ((im 43 0 19) ≤ x1) → (vp_in x1 500 ∧ P (im 55 0 (Int32.toNatClampNeg x1)) im lv)))) :
 zW x w 0 [(0, vR 43 0), (1, vI x1)] [] im lv := by
  refine zi_iload_n hO dX12_byteAt_0 1 rfl ?_
  refine zi_aload_n hO dX12_byteAt_1 0 rfl ?_
  refine zi_getI hO dX12_byteAt_2 fX12_152 rfl rfl (zI (by decide)) ?_
  refine zi_icmp_ge (tgt := 17) hO dX12_byteAt_5 (by decide) (fun c1 => ?_) (fun c1 => ?_)
  · have h := h.1 c1
    refine zi_ldc (v := (-1000000)) hO dX12_byteAt_17 nX12_131 ?_
    exact zr_I hO hR rfl dX12_byteAt_19 h
  · have h := h.2 c1
    refine zi_aload_n hO dX12_byteAt_8 0 rfl ?_
    refine zi_getR (r' := 55) (i' := 0) hO dX12_byteAt_9 fX12_71 rfl rfl (zI (by decide)) rfl ?_
    refine zi_iload_n hO dX12_byteAt_12 1 rfl ?_
    obtain ⟨s1, h⟩ := h
    refine zi_iald hO dX12_byteAt_13 rfl (zI (by decide)) s1 ?_
    refine zi_goto (tgt := 19) hO dX12_byteAt_14 (by decide) ?_
    exact zr_I hO hR rfl dX12_byteAt_19 h
theorem rX12_step_0 {x : zX} {w : zWd} {im : zMem} {lv : Int64} {P : zMem → Int64 → Prop} (hO : zOK x w zyX12_step 3) (hR : zRetV x w zyX12_step P) (hN : zN x 126 126)
 (h : (∃ P1 : Int32 → zMem → Int64 → Prop, zSpecI x.2.1 w 2 zyX12_byteAt [vR 43 0, vI (im 43 0 20)] im lv P1 ∧ ∀ (v1 : Int32) (im1 : zMem) (lv1 : Int64), P1 v1 im1 lv1 → ((v1 = 32 → zW x w 0 [(0, vR 43 0)] [] (zwr im1 43 0 20 ((im1 43 0 20) + 1)) lv1) ∧
 (¬ (v1 = 32) → (∃ P2 : Int32 → zMem → Int64 → Prop, zSpecI x.2.1 w 2 zyX12_byteAt [vR 43 0, vI (im1 43 0 20)] im1 lv1 P2 ∧ ∀ (v2 : Int32) (im2 : zMem) (lv2 : Int64), P2 v2 im2 lv2 → ((¬ (v2 = 10) → (∃ P3 : Int32 → zMem → Int64 → Prop, zSpecI x.2.1 w 2 zyX12_byteAt [vR 43 0, vI (im2 43 0 20)] (zwr im2 43 0 22 (im2 43 0 20)) lv2 P3 ∧ ∀ (v3 : Int32) (im3 : zMem) (lv3 : Int64), P3 v3 im3 lv3 → ((¬ (v3 = (-1000000)) → ((¬ (97 ≤ v3 ∧ v3 ≤ 122) → ((¬ (48 ≤ v3 ∧ v3 ≤ 57) → ((v3 = 59 → P (zwr (zwr (zwr im3 43 0 20 ((im3 43 0 20) + 1)) 43 0 21 4) 43 0 23 ((im3 43 0 20) + 1)) lv3) ∧
 (¬ (v3 = 59) → ((¬ (v3 = 44) → P (zwr (zwr (zwr im3 43 0 20 ((im3 43 0 20) + 1)) 43 0 21 0) 43 0 23 ((im3 43 0 20) + 1)) lv3) ∧
 (v3 = 44 → P (zwr (zwr (zwr im3 43 0 20 ((im3 43 0 20) + 1)) 43 0 21 4) 43 0 23 ((im3 43 0 20) + 1)) lv3))))) ∧
 (48 ≤ v3 ∧ v3 ≤ 57 → zW x w 137 [(0, vR 43 0), (1, vI v3)] [] im3 lv3))) ∧
 (97 ≤ v3 ∧ v3 ≤ 122 → zW x w 77 [(0, vR 43 0), (1, vI v3)] [] im3 lv3))) ∧
 (v3 = (-1000000) → P (zwr (zwr im3 43 0 21 1) 43 0 23 (im3 43 0 20)) lv3)))) ∧
 (v2 = 10 → zW x w 0 [(0, vR 43 0)] [] (zwr im2 43 0 20 ((im2 43 0 20) + 1)) lv2))))))) :
 zW x w 0 [(0, vR 43 0)] [] im lv := by
  refine zi_aload_n hO dX12_step_0 0 rfl ?_
  refine zi_aload_n hO dX12_step_1 0 rfl ?_
  refine zi_getI hO dX12_step_2 fX12_155 rfl rfl (zI (by decide)) ?_
  obtain ⟨P1, hM1, h⟩ := h
  refine zc_VI (as := [vI (im 43 0 20)]) hO hN dX12_step_5 kX12_158 (by decide) rfl (zI (by decide)) rfl rfl (Nat.le_of_ble_eq_true rfl) rfl rfl hM1 (fun v1 im1 lv1 hp1 => ?_)
  replace h := h v1 im1 lv1 hp1
  refine zi_bipush (v := 32) hO dX12_step_8 (by decide) ?_
  refine zi_icmp_eq (tgt := 26) hO dX12_step_10 (by decide) (fun c1 => ?_) (fun c1 => ?_)
  · have h := h.1 c1
    refine zi_aload_n hO dX12_step_26 0 rfl ?_
    refine zi_dup hO dX12_step_27 rfl ?_
    refine zi_getI hO dX12_step_28 fX12_155 rfl rfl (zI (by decide)) ?_
    refine zi_iconst (v := 1) hO dX12_step_31 (by decide) ?_
    refine zi_iadd hO dX12_step_32 ?_
    refine zi_putI hO dX12_step_33 gX12_155 rfl rfl (zI (by decide)) ?_
    refine zi_goto (tgt := 0) hO dX12_step_36 (by decide) ?_
    exact h
  · have h := h.2 c1
    refine zi_aload_n hO dX12_step_13 0 rfl ?_
    refine zi_aload_n hO dX12_step_14 0 rfl ?_
    refine zi_getI hO dX12_step_15 fX12_155 rfl rfl (zI (by decide)) ?_
    obtain ⟨P2, hM2, h⟩ := h
    refine zc_VI (as := [vI (im1 43 0 20)]) hO hN dX12_step_18 kX12_158 (by decide) rfl (zI (by decide)) rfl rfl (Nat.le_of_ble_eq_true rfl) rfl rfl hM2 (fun v2 im2 lv2 hp2 => ?_)
    replace h := h v2 im2 lv2 hp2
    refine zi_bipush (v := 10) hO dX12_step_21 (by decide) ?_
    refine zi_icmp_ne (tgt := 39) hO dX12_step_23 (by decide) (fun c2 => ?_) (fun c2 => ?_)
    · have h := h.1 c2
      refine zi_aload_n hO dX12_step_39 0 rfl ?_
      refine zi_aload_n hO dX12_step_40 0 rfl ?_
      refine zi_getI hO dX12_step_41 fX12_155 rfl rfl (zI (by decide)) ?_
      refine zi_putI hO dX12_step_44 gX12_161 rfl rfl (zI (by decide)) ?_
      refine zi_aload_n hO dX12_step_47 0 rfl ?_
      refine zi_aload_n hO dX12_step_48 0 rfl ?_
      refine zi_getI hO dX12_step_49 fX12_155 rfl rfl (zI (by decide)) ?_
      obtain ⟨P3, hM3, h⟩ := h
      refine zc_VI (as := [vI (im2 43 0 20)]) hO hN dX12_step_52 kX12_158 (by decide) rfl (zI (by decide)) rfl rfl (Nat.le_of_ble_eq_true rfl) rfl rfl hM3 (fun v3 im3 lv3 hp3 => ?_)
      replace h := h v3 im3 lv3 hp3
      refine zi_istore_n (L' := [(0, vR 43 0), (1, vI v3)]) hO dX12_step_55 (by decide) rfl rfl ?_
      refine zi_iload_n hO dX12_step_56 1 rfl ?_
      refine zi_ldc (v := (-1000000)) hO dX12_step_57 nX12_131 ?_
      refine zi_icmp_ne (tgt := 70) hO dX12_step_59 (by decide) (fun c3 => ?_) (fun c3 => ?_)
      · have h := h.1 c3
        refine zi_iload_n hO dX12_step_70 1 rfl ?_
        refine zc_SI (as := [vI v3]) hO hN dX12_step_71 kX12_167 (by decide) rfl (Nat.le_of_ble_eq_true rfl) rfl rfl (C_X12_isLetter _ _ _ _) (fun v4 im4 lv4 hp4 => ?_)
        rw [hp4.1, hp4.2.1, hp4.2.2]
        refine zi_if_eq (tgt := 130) hO dX12_step_74 (by decide) (fun c4 => ?_) (fun c4 => ?_)
        · have h := h.1 (vB_0.mp c4)
          refine zi_iload_n hO dX12_step_130 1 rfl ?_
          refine zc_SI (as := [vI v3]) hO hN dX12_step_131 kX12_170 (by decide) rfl (Nat.le_of_ble_eq_true rfl) rfl rfl (C_X12_isFigure _ _ _ _) (fun v5 im5 lv5 hp5 => ?_)
          rw [hp5.1, hp5.2.1, hp5.2.2]
          refine zi_if_eq (tgt := 189) hO dX12_step_134 (by decide) (fun c5 => ?_) (fun c5 => ?_)
          · have h := h.1 (vB_0.mp c5)
            refine zi_aload_n hO dX12_step_189 0 rfl ?_
            refine zi_dup hO dX12_step_190 rfl ?_
            refine zi_getI hO dX12_step_191 fX12_155 rfl rfl (zI (by decide)) ?_
            refine zi_iconst (v := 1) hO dX12_step_194 (by decide) ?_
            refine zi_iadd hO dX12_step_195 ?_
            refine zi_putI hO dX12_step_196 gX12_155 rfl rfl (zI (by decide)) ?_
            refine zi_aload_n hO dX12_step_199 0 rfl ?_
            refine zi_iload_n hO dX12_step_200 1 rfl ?_
            refine zi_bipush (v := 59) hO dX12_step_201 (by decide) ?_
            refine zi_icmp_eq (tgt := 212) hO dX12_step_203 (by decide) (fun c6 => ?_) (fun c6 => ?_)
            · have h := h.1 c6
              refine zi_iconst (v := 4) hO dX12_step_212 (by decide) ?_
              refine zi_goto (tgt := 217) hO dX12_step_213 (by decide) ?_
              refine zi_putI hO dX12_step_217 gX12_164 rfl rfl (zI (by decide)) ?_
              refine zi_aload_n hO dX12_step_220 0 rfl ?_
              refine zi_aload_n hO dX12_step_221 0 rfl ?_
              refine zi_getI hO dX12_step_222 fX12_155 rfl rfl (zI (by decide)) ?_
              refine zi_putI hO dX12_step_225 gX12_173 rfl rfl (zI (by decide)) ?_
              exact zr_V hO hR rfl dX12_step_228 h
            · have h := h.2 c6
              refine zi_iload_n hO dX12_step_206 1 rfl ?_
              refine zi_bipush (v := 44) hO dX12_step_207 (by decide) ?_
              refine zi_icmp_ne (tgt := 216) hO dX12_step_209 (by decide) (fun c7 => ?_) (fun c7 => ?_)
              · have h := h.1 c7
                refine zi_iconst (v := 0) hO dX12_step_216 (by decide) ?_
                refine zi_putI hO dX12_step_217 gX12_164 rfl rfl (zI (by decide)) ?_
                refine zi_aload_n hO dX12_step_220 0 rfl ?_
                refine zi_aload_n hO dX12_step_221 0 rfl ?_
                refine zi_getI hO dX12_step_222 fX12_155 rfl rfl (zI (by decide)) ?_
                refine zi_putI hO dX12_step_225 gX12_173 rfl rfl (zI (by decide)) ?_
                exact zr_V hO hR rfl dX12_step_228 h
              · have h := h.2 c7
                refine zi_iconst (v := 4) hO dX12_step_212 (by decide) ?_
                refine zi_goto (tgt := 217) hO dX12_step_213 (by decide) ?_
                refine zi_putI hO dX12_step_217 gX12_164 rfl rfl (zI (by decide)) ?_
                refine zi_aload_n hO dX12_step_220 0 rfl ?_
                refine zi_aload_n hO dX12_step_221 0 rfl ?_
                refine zi_getI hO dX12_step_222 fX12_155 rfl rfl (zI (by decide)) ?_
                refine zi_putI hO dX12_step_225 gX12_173 rfl rfl (zI (by decide)) ?_
                exact zr_V hO hR rfl dX12_step_228 h
          · have h := h.2 (vB_1.mp (vB_01.resolve_left c5))
            exact h
        · have h := h.2 (vB_1.mp (vB_01.resolve_left c4))
          exact h
      · have h := h.2 c3
        refine zi_aload_n hO dX12_step_62 0 rfl ?_
        refine zi_iconst (v := 1) hO dX12_step_63 (by decide) ?_
        refine zi_putI hO dX12_step_64 gX12_164 rfl rfl (zI (by decide)) ?_
        refine zi_goto (tgt := 220) hO dX12_step_67 (by decide) ?_
        refine zi_aload_n hO dX12_step_220 0 rfl ?_
        refine zi_aload_n hO dX12_step_221 0 rfl ?_
        refine zi_getI hO dX12_step_222 fX12_155 rfl rfl (zI (by decide)) ?_
        refine zi_putI hO dX12_step_225 gX12_173 rfl rfl (zI (by decide)) ?_
        exact zr_V hO hR rfl dX12_step_228 h
    · have h := h.2 c2
      refine zi_aload_n hO dX12_step_26 0 rfl ?_
      refine zi_dup hO dX12_step_27 rfl ?_
      refine zi_getI hO dX12_step_28 fX12_155 rfl rfl (zI (by decide)) ?_
      refine zi_iconst (v := 1) hO dX12_step_31 (by decide) ?_
      refine zi_iadd hO dX12_step_32 ?_
      refine zi_putI hO dX12_step_33 gX12_155 rfl rfl (zI (by decide)) ?_
      refine zi_goto (tgt := 0) hO dX12_step_36 (by decide) ?_
      exact h
theorem rX12_step_77 {x : zX} {w : zWd} {im : zMem} {lv : Int64} {P : zMem → Int64 → Prop} {x1 : Int32} (hO : zOK x w zyX12_step 3) (hR : zRetV x w zyX12_step P) (hN : zN x 126 126)
 (h : (∃ P1 : Int32 → zMem → Int64 → Prop, zSpecI x.2.1 w 2 zyX12_byteAt [vR 43 0, vI (im 43 0 20)] im lv P1 ∧ ∀ (v1 : Int32) (im1 : zMem) (lv1 : Int64), P1 v1 im1 lv1 → ((¬ (97 ≤ v1 ∧ v1 ≤ 122) → ((((im1 43 0 20) - (im1 43 0 22)) ≤ 6 → P (zwr (zwr im1 43 0 21 2) 43 0 23 (im1 43 0 20)) lv1) ∧
 (¬ (((im1 43 0 20) - (im1 43 0 22)) ≤ 6) → P (zwr (zwr im1 43 0 21 0) 43 0 23 (im1 43 0 20)) lv1))) ∧
 (97 ≤ v1 ∧ v1 ≤ 122 → zW x w 77 [(0, vR 43 0), (1, vI x1)] [] (zwr im1 43 0 20 ((im1 43 0 20) + 1)) lv1)))) :
 zW x w 77 [(0, vR 43 0), (1, vI x1)] [] im lv := by
  refine zi_aload_n hO dX12_step_77 0 rfl ?_
  refine zi_aload_n hO dX12_step_78 0 rfl ?_
  refine zi_getI hO dX12_step_79 fX12_155 rfl rfl (zI (by decide)) ?_
  obtain ⟨P1, hM1, h⟩ := h
  refine zc_VI (as := [vI (im 43 0 20)]) hO hN dX12_step_82 kX12_158 (by decide) rfl (zI (by decide)) rfl rfl (Nat.le_of_ble_eq_true rfl) rfl rfl hM1 (fun v1 im1 lv1 hp1 => ?_)
  replace h := h v1 im1 lv1 hp1
  refine zc_SI (as := [vI v1]) hO hN dX12_step_85 kX12_167 (by decide) rfl (Nat.le_of_ble_eq_true rfl) rfl rfl (C_X12_isLetter _ _ _ _) (fun v2 im2 lv2 hp2 => ?_)
  rw [hp2.1, hp2.2.1, hp2.2.2]
  refine zi_if_eq (tgt := 104) hO dX12_step_88 (by decide) (fun c1 => ?_) (fun c1 => ?_)
  · have h := h.1 (vB_0.mp c1)
    refine zi_aload_n hO dX12_step_104 0 rfl ?_
    refine zi_aload_n hO dX12_step_105 0 rfl ?_
    refine zi_getI hO dX12_step_106 fX12_155 rfl rfl (zI (by decide)) ?_
    refine zi_aload_n hO dX12_step_109 0 rfl ?_
    refine zi_getI hO dX12_step_110 fX12_161 rfl rfl (zI (by decide)) ?_
    refine zi_isub hO dX12_step_113 ?_
    refine zi_bipush (v := 6) hO dX12_step_114 (by decide) ?_
    refine zi_icmp_le (tgt := 123) hO dX12_step_116 (by decide) (fun c2 => ?_) (fun c2 => ?_)
    · have h := h.1 c2
      refine zi_iconst (v := 2) hO dX12_step_123 (by decide) ?_
      refine zi_putI hO dX12_step_124 gX12_164 rfl rfl (zI (by decide)) ?_
      refine zi_goto (tgt := 220) hO dX12_step_127 (by decide) ?_
      refine zi_aload_n hO dX12_step_220 0 rfl ?_
      refine zi_aload_n hO dX12_step_221 0 rfl ?_
      refine zi_getI hO dX12_step_222 fX12_155 rfl rfl (zI (by decide)) ?_
      refine zi_putI hO dX12_step_225 gX12_173 rfl rfl (zI (by decide)) ?_
      exact zr_V hO hR rfl dX12_step_228 h
    · have h := h.2 c2
      refine zi_iconst (v := 0) hO dX12_step_119 (by decide) ?_
      refine zi_goto (tgt := 124) hO dX12_step_120 (by decide) ?_
      refine zi_putI hO dX12_step_124 gX12_164 rfl rfl (zI (by decide)) ?_
      refine zi_goto (tgt := 220) hO dX12_step_127 (by decide) ?_
      refine zi_aload_n hO dX12_step_220 0 rfl ?_
      refine zi_aload_n hO dX12_step_221 0 rfl ?_
      refine zi_getI hO dX12_step_222 fX12_155 rfl rfl (zI (by decide)) ?_
      refine zi_putI hO dX12_step_225 gX12_173 rfl rfl (zI (by decide)) ?_
      exact zr_V hO hR rfl dX12_step_228 h
  · have h := h.2 (vB_1.mp (vB_01.resolve_left c1))
    refine zi_aload_n hO dX12_step_91 0 rfl ?_
    refine zi_dup hO dX12_step_92 rfl ?_
    refine zi_getI hO dX12_step_93 fX12_155 rfl rfl (zI (by decide)) ?_
    refine zi_iconst (v := 1) hO dX12_step_96 (by decide) ?_
    refine zi_iadd hO dX12_step_97 ?_
    refine zi_putI hO dX12_step_98 gX12_155 rfl rfl (zI (by decide)) ?_
    refine zi_goto (tgt := 77) hO dX12_step_101 (by decide) ?_
    exact h
theorem rX12_step_137 {x : zX} {w : zWd} {im : zMem} {lv : Int64} {P : zMem → Int64 → Prop} {x1 : Int32} (hO : zOK x w zyX12_step 3) (hR : zRetV x w zyX12_step P) (hN : zN x 126 126)
 (h : (∃ P1 : Int32 → zMem → Int64 → Prop, zSpecI x.2.1 w 2 zyX12_byteAt [vR 43 0, vI (im 43 0 20)] im lv P1 ∧ ∀ (v1 : Int32) (im1 : zMem) (lv1 : Int64), P1 v1 im1 lv1 → ((¬ (48 ≤ v1 ∧ v1 ≤ 57) → ((((im1 43 0 20) - (im1 43 0 22)) ≤ 3 → P (zwr (zwr im1 43 0 21 3) 43 0 23 (im1 43 0 20)) lv1) ∧
 (¬ (((im1 43 0 20) - (im1 43 0 22)) ≤ 3) → P (zwr (zwr im1 43 0 21 0) 43 0 23 (im1 43 0 20)) lv1))) ∧
 (48 ≤ v1 ∧ v1 ≤ 57 → zW x w 137 [(0, vR 43 0), (1, vI x1)] [] (zwr im1 43 0 20 ((im1 43 0 20) + 1)) lv1)))) :
 zW x w 137 [(0, vR 43 0), (1, vI x1)] [] im lv := by
  refine zi_aload_n hO dX12_step_137 0 rfl ?_
  refine zi_aload_n hO dX12_step_138 0 rfl ?_
  refine zi_getI hO dX12_step_139 fX12_155 rfl rfl (zI (by decide)) ?_
  obtain ⟨P1, hM1, h⟩ := h
  refine zc_VI (as := [vI (im 43 0 20)]) hO hN dX12_step_142 kX12_158 (by decide) rfl (zI (by decide)) rfl rfl (Nat.le_of_ble_eq_true rfl) rfl rfl hM1 (fun v1 im1 lv1 hp1 => ?_)
  replace h := h v1 im1 lv1 hp1
  refine zc_SI (as := [vI v1]) hO hN dX12_step_145 kX12_170 (by decide) rfl (Nat.le_of_ble_eq_true rfl) rfl rfl (C_X12_isFigure _ _ _ _) (fun v2 im2 lv2 hp2 => ?_)
  rw [hp2.1, hp2.2.1, hp2.2.2]
  refine zi_if_eq (tgt := 164) hO dX12_step_148 (by decide) (fun c1 => ?_) (fun c1 => ?_)
  · have h := h.1 (vB_0.mp c1)
    refine zi_aload_n hO dX12_step_164 0 rfl ?_
    refine zi_aload_n hO dX12_step_165 0 rfl ?_
    refine zi_getI hO dX12_step_166 fX12_155 rfl rfl (zI (by decide)) ?_
    refine zi_aload_n hO dX12_step_169 0 rfl ?_
    refine zi_getI hO dX12_step_170 fX12_161 rfl rfl (zI (by decide)) ?_
    refine zi_isub hO dX12_step_173 ?_
    refine zi_iconst (v := 3) hO dX12_step_174 (by decide) ?_
    refine zi_icmp_le (tgt := 182) hO dX12_step_175 (by decide) (fun c2 => ?_) (fun c2 => ?_)
    · have h := h.1 c2
      refine zi_iconst (v := 3) hO dX12_step_182 (by decide) ?_
      refine zi_putI hO dX12_step_183 gX12_164 rfl rfl (zI (by decide)) ?_
      refine zi_goto (tgt := 220) hO dX12_step_186 (by decide) ?_
      refine zi_aload_n hO dX12_step_220 0 rfl ?_
      refine zi_aload_n hO dX12_step_221 0 rfl ?_
      refine zi_getI hO dX12_step_222 fX12_155 rfl rfl (zI (by decide)) ?_
      refine zi_putI hO dX12_step_225 gX12_173 rfl rfl (zI (by decide)) ?_
      exact zr_V hO hR rfl dX12_step_228 h
    · have h := h.2 c2
      refine zi_iconst (v := 0) hO dX12_step_178 (by decide) ?_
      refine zi_goto (tgt := 183) hO dX12_step_179 (by decide) ?_
      refine zi_putI hO dX12_step_183 gX12_164 rfl rfl (zI (by decide)) ?_
      refine zi_goto (tgt := 220) hO dX12_step_186 (by decide) ?_
      refine zi_aload_n hO dX12_step_220 0 rfl ?_
      refine zi_aload_n hO dX12_step_221 0 rfl ?_
      refine zi_getI hO dX12_step_222 fX12_155 rfl rfl (zI (by decide)) ?_
      refine zi_putI hO dX12_step_225 gX12_173 rfl rfl (zI (by decide)) ?_
      exact zr_V hO hR rfl dX12_step_228 h
  · have h := h.2 (vB_1.mp (vB_01.resolve_left c1))
    refine zi_aload_n hO dX12_step_151 0 rfl ?_
    refine zi_dup hO dX12_step_152 rfl ?_
    refine zi_getI hO dX12_step_153 fX12_155 rfl rfl (zI (by decide)) ?_
    refine zi_iconst (v := 1) hO dX12_step_156 (by decide) ?_
    refine zi_iadd hO dX12_step_157 ?_
    refine zi_putI hO dX12_step_158 gX12_155 rfl rfl (zI (by decide)) ?_
    refine zi_goto (tgt := 137) hO dX12_step_161 (by decide) ?_
    exact h
theorem rX12_bad_0 {x : zX} {w : zWd} {im : zMem} {lv : Int64} {P : zMem → Int64 → Prop} {x1 : Int32} (hO : zOK x w zyX12_bad 2) (hR : zRetV x w zyX12_bad P) (hN : zN x 126 126)
 (h : ((¬ ((im 43 0 24) = 0) → P im lv) ∧
 ((im 43 0 24) = 0 → P (zwr (zwr im 43 0 24 x1) 43 0 25 (im 43 0 22)) lv))) :
 zW x w 0 [(0, vR 43 0), (1, vI x1)] [] im lv := by
  refine zi_aload_n hO dX12_bad_0 0 rfl ?_
  refine zi_getI hO dX12_bad_1 fX12_176 rfl rfl (zI (by decide)) ?_
  refine zi_if_ne (tgt := 20) hO dX12_bad_4 (by decide) (fun c1 => ?_) (fun c1 => ?_)
  · have h := h.1 c1
    exact zr_V hO hR rfl dX12_bad_20 h
  · have h := h.2 c1
    refine zi_aload_n hO dX12_bad_7 0 rfl ?_
    refine zi_iload_n hO dX12_bad_8 1 rfl ?_
    refine zi_putI hO dX12_bad_9 gX12_176 rfl rfl (zI (by decide)) ?_
    refine zi_aload_n hO dX12_bad_12 0 rfl ?_
    refine zi_aload_n hO dX12_bad_13 0 rfl ?_
    refine zi_getI hO dX12_bad_14 fX12_161 rfl rfl (zI (by decide)) ?_
    refine zi_putI hO dX12_bad_17 gX12_179 rfl rfl (zI (by decide)) ?_
    exact zr_V hO hR rfl dX12_bad_20 h
theorem rX12_need_0 {x : zX} {w : zWd} {im : zMem} {lv : Int64} {P : zMem → Int64 → Prop} {x1 : Int32} (hO : zOK x w zyX12_need 4) (hR : zRetV x w zyX12_need P) (hN : zN x 126 126)
 (h : ((¬ (x1 = 0) → ((¬ ((im 43 0 24) = 0) → P im lv) ∧
 ((im 43 0 24) = 0 → (∃ P1 : zMem → Int64 → Prop, zSpecV x.2.1 w 3 zyX12_step [vR 43 0] im lv P1 ∧ ∀ (im1 : zMem) (lv1 : Int64), P1 im1 lv1 → P im1 lv1)))) ∧
 (x1 = 0 → (∃ P2 : zMem → Int64 → Prop, zSpecV x.2.1 w 2 zyX12_bad [vR 43 0, vI 1] im lv P2 ∧ ∀ (im2 : zMem) (lv2 : Int64), P2 im2 lv2 → ((¬ ((im2 43 0 24) = 0) → P im2 lv2) ∧
 ((im2 43 0 24) = 0 → (∃ P3 : zMem → Int64 → Prop, zSpecV x.2.1 w 3 zyX12_step [vR 43 0] im2 lv2 P3 ∧ ∀ (im3 : zMem) (lv3 : Int64), P3 im3 lv3 → P im3 lv3))))))) :
 zW x w 0 [(0, vR 43 0), (1, vI x1)] [] im lv := by
  refine zi_iload_n hO dX12_need_0 1 rfl ?_
  refine zi_if_ne (tgt := 9) hO dX12_need_1 (by decide) (fun c1 => ?_) (fun c1 => ?_)
  · have h := h.1 c1
    refine zi_aload_n hO dX12_need_9 0 rfl ?_
    refine zi_getI hO dX12_need_10 fX12_176 rfl rfl (zI (by decide)) ?_
    refine zi_if_ne (tgt := 20) hO dX12_need_13 (by decide) (fun c2 => ?_) (fun c2 => ?_)
    · have h := h.1 c2
      exact zr_V hO hR rfl dX12_need_20 h
    · have h := h.2 c2
      refine zi_aload_n hO dX12_need_16 0 rfl ?_
      obtain ⟨P1, hM1, h⟩ := h
      refine zc_VV (as := []) hO hN dX12_need_17 kX12_186 (by decide) rfl (zI (by decide)) rfl rfl (Nat.le_of_ble_eq_true rfl) rfl rfl hM1 (fun im1 lv1 hp1 => ?_)
      replace h := h im1 lv1 hp1
      exact zr_V hO hR rfl dX12_need_20 h
  · have h := h.2 c1
    refine zi_aload_n hO dX12_need_4 0 rfl ?_
    refine zi_iconst (v := 1) hO dX12_need_5 (by decide) ?_
    obtain ⟨P2, hM2, h⟩ := h
    refine zc_VV (as := [vI 1]) hO hN dX12_need_6 kX12_182 (by decide) rfl (zI (by decide)) rfl rfl (Nat.le_of_ble_eq_true rfl) rfl rfl hM2 (fun im2 lv2 hp2 => ?_)
    replace h := h im2 lv2 hp2
    refine zi_aload_n hO dX12_need_9 0 rfl ?_
    refine zi_getI hO dX12_need_10 fX12_176 rfl rfl (zI (by decide)) ?_
    refine zi_if_ne (tgt := 20) hO dX12_need_13 (by decide) (fun c3 => ?_) (fun c3 => ?_)
    · have h := h.1 c3
      exact zr_V hO hR rfl dX12_need_20 h
    · have h := h.2 c3
      refine zi_aload_n hO dX12_need_16 0 rfl ?_
      obtain ⟨P3, hM3, h⟩ := h
      refine zc_VV (as := []) hO hN dX12_need_17 kX12_186 (by decide) rfl (zI (by decide)) rfl rfl (Nat.le_of_ble_eq_true rfl) rfl rfl hM3 (fun im3 lv3 hp3 => ?_)
      replace h := h im3 lv3 hp3
      exact zr_V hO hR rfl dX12_need_20 h
theorem rX12_is_0 {x : zX} {w : zWd} {im : zMem} {lv : Int64} {P : Int32 → zMem → Int64 → Prop} {x1 : Int32} (hO : zOK x w zyX12_is 2) (hR : zRetI x w zyX12_is P) (hN : zN x 126 126)
 (h : ((¬ ((im 43 0 21) = 4) → P 0 im lv) ∧
 ((im 43 0 21) = 4 → (vp_in (im 43 0 22) 500 ∧ ((¬ ((im 55 0 (Int32.toNatClampNeg (im 43 0 22))) = x1) → P 0 im lv) ∧
 ((im 55 0 (Int32.toNatClampNeg (im 43 0 22))) = x1 → P 1 im lv)))))) :
 zW x w 0 [(0, vR 43 0), (1, vI x1)] [] im lv := by
  refine zi_aload_n hO dX12_is_0 0 rfl ?_
  refine zi_getI hO dX12_is_1 fX12_164 rfl rfl (zI (by decide)) ?_
  refine zi_iconst (v := 4) hO dX12_is_4 (by decide) ?_
  refine zi_icmp_ne (tgt := 25) hO dX12_is_5 (by decide) (fun c1 => ?_) (fun c1 => ?_)
  · have h := h.1 c1
    refine zi_iconst (v := 0) hO dX12_is_25 (by decide) ?_
    exact zr_Z hO hR rfl (Or.inl rfl) dX12_is_26 h
  · have h := h.2 c1
    refine zi_aload_n hO dX12_is_8 0 rfl ?_
    refine zi_getR (r' := 55) (i' := 0) hO dX12_is_9 fX12_71 rfl rfl (zI (by decide)) rfl ?_
    refine zi_aload_n hO dX12_is_12 0 rfl ?_
    refine zi_getI hO dX12_is_13 fX12_161 rfl rfl (zI (by decide)) ?_
    obtain ⟨s1, h⟩ := h
    refine zi_iald hO dX12_is_16 rfl (zI (by decide)) s1 ?_
    refine zi_iload_n hO dX12_is_17 1 rfl ?_
    refine zi_icmp_ne (tgt := 25) hO dX12_is_18 (by decide) (fun c2 => ?_) (fun c2 => ?_)
    · have h := h.1 c2
      refine zi_iconst (v := 0) hO dX12_is_25 (by decide) ?_
      exact zr_Z hO hR rfl (Or.inl rfl) dX12_is_26 h
    · have h := h.2 c2
      refine zi_iconst (v := 1) hO dX12_is_21 (by decide) ?_
      refine zi_goto (tgt := 26) hO dX12_is_22 (by decide) ?_
      exact zr_Z hO hR rfl (Or.inr rfl) dX12_is_26 h
theorem rX12_word_0 {x : zX} {w : zWd} {im : zMem} {lv : Int64} {P : Int64 → zMem → Int64 → Prop} (hO : zOK x w zyX12_word 2) (hR : zRetL x w zyX12_word P) (hN : zN x 126 126)
 (h : zW x w 7 [(0, vR 43 0), (1, vL (0 : Int64)), (3, vI (im 43 0 22))] [] im lv) :
 zW x w 0 [(0, vR 43 0)] [] im lv := by
  refine zi_lconst (v := 0) hO dX12_word_0 (by decide) ?_
  refine zi_lstore_n (L' := [(0, vR 43 0), (1, vL (0 : Int64))]) hO dX12_word_1 (by decide) rfl rfl rfl ?_
  refine zi_aload_n hO dX12_word_2 0 rfl ?_
  refine zi_getI hO dX12_word_3 fX12_161 rfl rfl (zI (by decide)) ?_
  refine zi_istore_n (L' := [(0, vR 43 0), (1, vL (0 : Int64)), (3, vI (im 43 0 22))]) hO dX12_word_6 (by decide) rfl rfl ?_
  exact h
theorem rX12_word_7 {x : zX} {w : zWd} {im : zMem} {lv : Int64} {P : Int64 → zMem → Int64 → Prop} {y1 : Int64} {x3 : Int32} (hO : zOK x w zyX12_word 2) (hR : zRetL x w zyX12_word P) (hN : zN x 126 126)
 (h : (((im 43 0 23) ≤ x3 → P y1 im lv) ∧
 (¬ ((im 43 0 23) ≤ x3) → ((¬ ((im 43 0 21) = 2) → P y1 im lv) ∧
 ((im 43 0 21) = 2 → (vp_in x3 500 ∧ zW x w 7 [(0, vR 43 0), (1, vL ((y1 <<< (Int32.toInt64 8 &&& 63)) ||| (Int32.toInt64 (im 55 0 (Int32.toNatClampNeg x3))))), (3, vI (x3 + 1))] [] im lv)))))) :
 zW x w 7 [(0, vR 43 0), (1, vL y1), (3, vI x3)] [] im lv := by
  refine zi_iload_n hO dX12_word_7 2 rfl ?_
  refine zi_aload_n hO dX12_word_8 0 rfl ?_
  refine zi_getI hO dX12_word_9 fX12_173 rfl rfl (zI (by decide)) ?_
  refine zi_icmp_ge (tgt := 42) hO dX12_word_12 (by decide) (fun c1 => ?_) (fun c1 => ?_)
  · have h := h.1 c1
    refine zi_lload_n hO dX12_word_42 1 rfl ?_
    exact zr_L hO hR rfl dX12_word_43 h
  · have h := h.2 c1
    refine zi_aload_n hO dX12_word_15 0 rfl ?_
    refine zi_getI hO dX12_word_16 fX12_164 rfl rfl (zI (by decide)) ?_
    refine zi_iconst (v := 2) hO dX12_word_19 (by decide) ?_
    refine zi_icmp_ne (tgt := 42) hO dX12_word_20 (by decide) (fun c2 => ?_) (fun c2 => ?_)
    · have h := h.1 c2
      refine zi_lload_n hO dX12_word_42 1 rfl ?_
      exact zr_L hO hR rfl dX12_word_43 h
    · have h := h.2 c2
      refine zi_lload_n hO dX12_word_23 1 rfl ?_
      refine zi_bipush (v := 8) hO dX12_word_24 (by decide) ?_
      refine zi_lshl hO dX12_word_26 ?_
      refine zi_aload_n hO dX12_word_27 0 rfl ?_
      refine zi_getR (r' := 55) (i' := 0) hO dX12_word_28 fX12_71 rfl rfl (zI (by decide)) rfl ?_
      refine zi_iload_n hO dX12_word_31 2 rfl ?_
      obtain ⟨s1, h⟩ := h
      refine zi_iald hO dX12_word_32 rfl (zI (by decide)) s1 ?_
      refine zi_i2l hO dX12_word_33 ?_
      refine zi_lor hO dX12_word_34 ?_
      refine zi_lstore_n (L' := [(0, vR 43 0), (1, vL ((y1 <<< (Int32.toInt64 8 &&& 63)) ||| (Int32.toInt64 (im 55 0 (Int32.toNatClampNeg x3))))), (3, vI x3)]) hO dX12_word_35 (by decide) rfl rfl rfl ?_
      refine zi_iinc (v' := (x3 + 1)) (L' := [(0, vR 43 0), (1, vL ((y1 <<< (Int32.toInt64 8 &&& 63)) ||| (Int32.toInt64 (im 55 0 (Int32.toNatClampNeg x3))))), (3, vI (x3 + 1))]) hO dX12_word_36 2 rfl rfl (by decide) rfl rfl ?_
      refine zi_goto (tgt := 7) hO dX12_word_39 (by decide) ?_
      exact h
theorem rX12_numberIn_0 {x : zX} {w : zWd} {im : zMem} {lv : Int64} {P : Int32 → zMem → Int64 → Prop} {x1 : Int32} {x2 : Int32} (hO : zOK x w zyX12_numberIn 5) (hR : zRetI x w zyX12_numberIn P) (hN : zN x 126 126)
 (h : (((im 43 0 24) ≤ 0 → zW x w 17 [(0, vR 43 0), (1, vI x1), (2, vI x2), (3, vI 0), (4, vI (im 43 0 22))] [] im lv) ∧
 (¬ ((im 43 0 24) ≤ 0) → P 0 im lv))) :
 zW x w 0 [(0, vR 43 0), (1, vI x1), (2, vI x2)] [] im lv := by
  refine zi_aload_n hO dX12_numberIn_0 0 rfl ?_
  refine zi_getI hO dX12_numberIn_1 fX12_176 rfl rfl (zI (by decide)) ?_
  refine zi_if_le (tgt := 9) hO dX12_numberIn_4 (by decide) (fun c1 => ?_) (fun c1 => ?_)
  · have h := h.1 c1
    refine zi_iconst (v := 0) hO dX12_numberIn_9 (by decide) ?_
    refine zi_istore_n (L' := [(0, vR 43 0), (1, vI x1), (2, vI x2), (3, vI 0)]) hO dX12_numberIn_10 (by decide) rfl rfl ?_
    refine zi_aload_n hO dX12_numberIn_11 0 rfl ?_
    refine zi_getI hO dX12_numberIn_12 fX12_161 rfl rfl (zI (by decide)) ?_
    refine zi_istore (L' := [(0, vR 43 0), (1, vI x1), (2, vI x2), (3, vI 0), (4, vI (im 43 0 22))]) hO dX12_numberIn_15 (by decide) rfl rfl ?_
    exact h
  · have h := h.2 c1
    refine zi_iconst (v := 0) hO dX12_numberIn_7 (by decide) ?_
    exact zr_I hO hR rfl dX12_numberIn_8 h
theorem rX12_numberIn_17 {x : zX} {w : zWd} {im : zMem} {lv : Int64} {P : Int32 → zMem → Int64 → Prop} {x1 : Int32} {x2 : Int32} {x3 : Int32} {x4 : Int32} (hO : zOK x w zyX12_numberIn 5) (hR : zRetI x w zyX12_numberIn P) (hN : zN x 126 126)
 (h : (((im 43 0 23) ≤ x4 → ((¬ ((im 43 0 21) = 3) → (∃ P1 : zMem → Int64 → Prop, zSpecV x.2.1 w 4 zyX12_need [vR 43 0, vI 0] im lv P1 ∧ ∀ (im1 : zMem) (lv1 : Int64), P1 im1 lv1 → P x3 im1 lv1)) ∧
 ((im 43 0 21) = 3 → ((x1 ≤ x3 ∧ x3 ≤ x2 → (∃ P3 : zMem → Int64 → Prop, zSpecV x.2.1 w 4 zyX12_need [vR 43 0, vI 1] im lv P3 ∧ ∀ (im3 : zMem) (lv3 : Int64), P3 im3 lv3 → P x3 im3 lv3)) ∧
 (¬ (x1 ≤ x3 ∧ x3 ≤ x2) → (∃ P4 : zMem → Int64 → Prop, zSpecV x.2.1 w 2 zyX12_bad [vR 43 0, vI 2] im lv P4 ∧ ∀ (im4 : zMem) (lv4 : Int64), P4 im4 lv4 → ((¬ ((im4 43 0 21) = 3) → (∃ P5 : zMem → Int64 → Prop, zSpecV x.2.1 w 4 zyX12_need [vR 43 0, vI 0] im4 lv4 P5 ∧ ∀ (im5 : zMem) (lv5 : Int64), P5 im5 lv5 → P x3 im5 lv5)) ∧
 ((im4 43 0 21) = 3 → (∃ P6 : zMem → Int64 → Prop, zSpecV x.2.1 w 4 zyX12_need [vR 43 0, vI 1] im4 lv4 P6 ∧ ∀ (im6 : zMem) (lv6 : Int64), P6 im6 lv6 → P x3 im6 lv6))))))))) ∧
 (¬ ((im 43 0 23) ≤ x4) → ((¬ ((im 43 0 21) = 3) → (∃ P7 : zMem → Int64 → Prop, zSpecV x.2.1 w 4 zyX12_need [vR 43 0, vI 0] im lv P7 ∧ ∀ (im7 : zMem) (lv7 : Int64), P7 im7 lv7 → P x3 im7 lv7)) ∧
 ((im 43 0 21) = 3 → (vp_in x4 500 ∧ zW x w 17 [(0, vR 43 0), (1, vI x1), (2, vI x2), (3, vI (((10 * x3) + (im 55 0 (Int32.toNatClampNeg x4))) - 48)), (4, vI (x4 + 1))] [] im lv)))))) :
 zW x w 17 [(0, vR 43 0), (1, vI x1), (2, vI x2), (3, vI x3), (4, vI x4)] [] im lv := by
  refine zi_iload hO dX12_numberIn_17 4 rfl ?_
  refine zi_aload_n hO dX12_numberIn_19 0 rfl ?_
  refine zi_getI hO dX12_numberIn_20 fX12_173 rfl rfl (zI (by decide)) ?_
  refine zi_icmp_ge (tgt := 56) hO dX12_numberIn_23 (by decide) (fun c1 => ?_) (fun c1 => ?_)
  · have h := h.1 c1
    refine zi_aload_n hO dX12_numberIn_56 0 rfl ?_
    refine zi_getI hO dX12_numberIn_57 fX12_164 rfl rfl (zI (by decide)) ?_
    refine zi_iconst (v := 3) hO dX12_numberIn_60 (by decide) ?_
    refine zi_icmp_ne (tgt := 81) hO dX12_numberIn_61 (by decide) (fun c2 => ?_) (fun c2 => ?_)
    · have h := h.1 c2
      refine zi_aload_n hO dX12_numberIn_81 0 rfl ?_
      refine zi_aload_n hO dX12_numberIn_82 0 rfl ?_
      refine zi_getI hO dX12_numberIn_83 fX12_164 rfl rfl (zI (by decide)) ?_
      refine zi_iconst (v := 3) hO dX12_numberIn_86 (by decide) ?_
      refine zi_icmp_ne (tgt := 94) hO dX12_numberIn_87 (by decide) (fun _ => ?_) (fun c3 => absurd c3 c2)
      refine zi_iconst (v := 0) hO dX12_numberIn_94 (by decide) ?_
      obtain ⟨P1, hM1, h⟩ := h
      refine zc_VV (as := [vI 0]) hO hN dX12_numberIn_95 kX12_189 (by decide) rfl (zI (by decide)) rfl rfl (Nat.le_of_ble_eq_true rfl) rfl rfl hM1 (fun im1 lv1 hp1 => ?_)
      replace h := h im1 lv1 hp1
      refine zi_iload_n hO dX12_numberIn_98 3 rfl ?_
      exact zr_I hO hR rfl dX12_numberIn_99 h
    · have h := h.2 c2
      refine zi_iload_n hO dX12_numberIn_64 3 rfl ?_
      refine zi_i2l hO dX12_numberIn_65 ?_
      refine zi_iload_n hO dX12_numberIn_66 1 rfl ?_
      refine zi_i2l hO dX12_numberIn_67 ?_
      refine zi_iload_n hO dX12_numberIn_68 2 rfl ?_
      refine zi_i2l hO dX12_numberIn_69 ?_
      refine zc_SI (as := [vL (Int32.toInt64 x3), vL (Int32.toInt64 x1), vL (Int32.toInt64 x2)]) hO hN dX12_numberIn_70 kX12_13 (by decide) rfl (Nat.le_of_ble_eq_true rfl) rfl rfl (C_X12_in _ _ _ _ (a := x3) (b := x1) (c := x2) rfl rfl rfl) (fun v2 im2 lv2 hp2 => ?_)
      rw [hp2.1, hp2.2.1, hp2.2.2]
      refine zi_if_ne (tgt := 81) hO dX12_numberIn_73 (by decide) (fun c4 => ?_) (fun c4 => ?_)
      · have h := h.1 (vB_1.mp (vB_01.resolve_left c4))
        refine zi_aload_n hO dX12_numberIn_81 0 rfl ?_
        refine zi_aload_n hO dX12_numberIn_82 0 rfl ?_
        refine zi_getI hO dX12_numberIn_83 fX12_164 rfl rfl (zI (by decide)) ?_
        refine zi_iconst (v := 3) hO dX12_numberIn_86 (by decide) ?_
        refine zi_icmp_ne (tgt := 94) hO dX12_numberIn_87 (by decide) (fun c5 => absurd c2 c5) (fun _ => ?_)
        refine zi_iconst (v := 1) hO dX12_numberIn_90 (by decide) ?_
        refine zi_goto (tgt := 95) hO dX12_numberIn_91 (by decide) ?_
        obtain ⟨P3, hM3, h⟩ := h
        refine zc_VV (as := [vI 1]) hO hN dX12_numberIn_95 kX12_189 (by decide) rfl (zI (by decide)) rfl rfl (Nat.le_of_ble_eq_true rfl) rfl rfl hM3 (fun im3 lv3 hp3 => ?_)
        replace h := h im3 lv3 hp3
        refine zi_iload_n hO dX12_numberIn_98 3 rfl ?_
        exact zr_I hO hR rfl dX12_numberIn_99 h
      · have h := h.2 (vB_0.mp c4)
        refine zi_aload_n hO dX12_numberIn_76 0 rfl ?_
        refine zi_iconst (v := 2) hO dX12_numberIn_77 (by decide) ?_
        obtain ⟨P4, hM4, h⟩ := h
        refine zc_VV (as := [vI 2]) hO hN dX12_numberIn_78 kX12_182 (by decide) rfl (zI (by decide)) rfl rfl (Nat.le_of_ble_eq_true rfl) rfl rfl hM4 (fun im4 lv4 hp4 => ?_)
        replace h := h im4 lv4 hp4
        refine zi_aload_n hO dX12_numberIn_81 0 rfl ?_
        refine zi_aload_n hO dX12_numberIn_82 0 rfl ?_
        refine zi_getI hO dX12_numberIn_83 fX12_164 rfl rfl (zI (by decide)) ?_
        refine zi_iconst (v := 3) hO dX12_numberIn_86 (by decide) ?_
        refine zi_icmp_ne (tgt := 94) hO dX12_numberIn_87 (by decide) (fun c6 => ?_) (fun c6 => ?_)
        · have h := h.1 c6
          refine zi_iconst (v := 0) hO dX12_numberIn_94 (by decide) ?_
          obtain ⟨P5, hM5, h⟩ := h
          refine zc_VV (as := [vI 0]) hO hN dX12_numberIn_95 kX12_189 (by decide) rfl (zI (by decide)) rfl rfl (Nat.le_of_ble_eq_true rfl) rfl rfl hM5 (fun im5 lv5 hp5 => ?_)
          replace h := h im5 lv5 hp5
          refine zi_iload_n hO dX12_numberIn_98 3 rfl ?_
          exact zr_I hO hR rfl dX12_numberIn_99 h
        · have h := h.2 c6
          refine zi_iconst (v := 1) hO dX12_numberIn_90 (by decide) ?_
          refine zi_goto (tgt := 95) hO dX12_numberIn_91 (by decide) ?_
          obtain ⟨P6, hM6, h⟩ := h
          refine zc_VV (as := [vI 1]) hO hN dX12_numberIn_95 kX12_189 (by decide) rfl (zI (by decide)) rfl rfl (Nat.le_of_ble_eq_true rfl) rfl rfl hM6 (fun im6 lv6 hp6 => ?_)
          replace h := h im6 lv6 hp6
          refine zi_iload_n hO dX12_numberIn_98 3 rfl ?_
          exact zr_I hO hR rfl dX12_numberIn_99 h
  · have h := h.2 c1
    refine zi_aload_n hO dX12_numberIn_26 0 rfl ?_
    refine zi_getI hO dX12_numberIn_27 fX12_164 rfl rfl (zI (by decide)) ?_
    refine zi_iconst (v := 3) hO dX12_numberIn_30 (by decide) ?_
    refine zi_icmp_ne (tgt := 56) hO dX12_numberIn_31 (by decide) (fun c7 => ?_) (fun c7 => ?_)
    · have h := h.1 c7
      refine zi_aload_n hO dX12_numberIn_56 0 rfl ?_
      refine zi_getI hO dX12_numberIn_57 fX12_164 rfl rfl (zI (by decide)) ?_
      refine zi_iconst (v := 3) hO dX12_numberIn_60 (by decide) ?_
      refine zi_icmp_ne (tgt := 81) hO dX12_numberIn_61 (by decide) (fun _ => ?_) (fun c8 => absurd c8 c7)
      refine zi_aload_n hO dX12_numberIn_81 0 rfl ?_
      refine zi_aload_n hO dX12_numberIn_82 0 rfl ?_
      refine zi_getI hO dX12_numberIn_83 fX12_164 rfl rfl (zI (by decide)) ?_
      refine zi_iconst (v := 3) hO dX12_numberIn_86 (by decide) ?_
      refine zi_icmp_ne (tgt := 94) hO dX12_numberIn_87 (by decide) (fun _ => ?_) (fun c9 => absurd c9 c7)
      refine zi_iconst (v := 0) hO dX12_numberIn_94 (by decide) ?_
      obtain ⟨P7, hM7, h⟩ := h
      refine zc_VV (as := [vI 0]) hO hN dX12_numberIn_95 kX12_189 (by decide) rfl (zI (by decide)) rfl rfl (Nat.le_of_ble_eq_true rfl) rfl rfl hM7 (fun im7 lv7 hp7 => ?_)
      replace h := h im7 lv7 hp7
      refine zi_iload_n hO dX12_numberIn_98 3 rfl ?_
      exact zr_I hO hR rfl dX12_numberIn_99 h
    · have h := h.2 c7
      refine zi_bipush (v := 10) hO dX12_numberIn_34 (by decide) ?_
      refine zi_iload_n hO dX12_numberIn_36 3 rfl ?_
      refine zi_imul hO dX12_numberIn_37 ?_
      refine zi_aload_n hO dX12_numberIn_38 0 rfl ?_
      refine zi_getR (r' := 55) (i' := 0) hO dX12_numberIn_39 fX12_71 rfl rfl (zI (by decide)) rfl ?_
      refine zi_iload hO dX12_numberIn_42 4 rfl ?_
      obtain ⟨s8, h⟩ := h
      refine zi_iald hO dX12_numberIn_44 rfl (zI (by decide)) s8 ?_
      refine zi_iadd hO dX12_numberIn_45 ?_
      refine zi_bipush (v := 48) hO dX12_numberIn_46 (by decide) ?_
      refine zi_isub hO dX12_numberIn_48 ?_
      refine zi_istore_n (L' := [(0, vR 43 0), (1, vI x1), (2, vI x2), (3, vI (((10 * x3) + (im 55 0 (Int32.toNatClampNeg x4))) - 48)), (4, vI x4)]) hO dX12_numberIn_49 (by decide) rfl rfl ?_
      refine zi_iinc (v' := (x4 + 1)) (L' := [(0, vR 43 0), (1, vI x1), (2, vI x2), (3, vI (((10 * x3) + (im 55 0 (Int32.toNatClampNeg x4))) - 48)), (4, vI (x4 + 1))]) hO dX12_numberIn_50 4 rfl rfl (by decide) rfl rfl ?_
      refine zi_goto (tgt := 17) hO dX12_numberIn_53 (by decide) ?_
      exact h

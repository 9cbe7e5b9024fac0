theorem lgS_ge {m : zMem} : ∀ k a, a ≤ (lgS m k a).1.1
  | 0, a => Nat.le_refl _
  | k + 1, a => by
    have h1 := nmS_ge (m := m) (lo := 0) (hi := 7) (s := (a, 0))
    have h2 := nmS_ge (m := m) (lo := 1) (hi := 4) (s := nmS m 0 7 (a, 0))
    have h3 := nx_ge m (nmS m 1 4 (nmS m 0 7 (a, 0))).1
    have h4 := lgS_ge (m := m) k (nx m (nmS m 1 4 (nmS m 0 7 (a, 0))).1)
    rw [lgS]
    dsimp only at *
    split
    · split
      · dsimp only; omega
      · dsimp only; omega
    · dsimp only; omega
theorem wyS_ge {m : zMem} : ∀ k a, a ≤ (wyS m k a).1.1
  | 0, a => Nat.le_refl _
  | k + 1, a => by
    have h1 := nx_ge m a
    have h2 := lgS_ge (m := m) 5 (nx m a)
    have h3 := wyS_ge (m := m) k (lgS m 5 (nx m a)).1.1
    rw [wyS]
    split
    · split
      · dsimp only; omega
      · dsimp only; omega
    · dsimp only; omega
theorem flS_ge {m : zMem} {a : Nat} : a ≤ (flS m a).1.1 := by
  have h1 := nmS_ge (m := m) (lo := 0) (hi := 3) (s := (a, 0))
  have h2 := nmS_ge (m := m) (lo := 1) (hi := 9) (s := nmS m 0 3 (a, 0))
  have h3 := nmS_ge (m := m) (lo := 0) (hi := 40) (s := nmS m 1 9 (nmS m 0 3 (a, 0)))
  have h4 := nmS_ge (m := m) (lo := 0) (hi := 99) (s := nmS m 0 40 (nmS m 1 9 (nmS m 0 3 (a, 0))))
  have h5 := wyS_ge (m := m) 3 (nmS m 0 99 (nmS m 0 40 (nmS m 1 9 (nmS m 0 3 (a, 0))))).1
  unfold flS
  dsimp only at *
  split
  · split
    · omega
    · dsimp only; omega
  · dsimp only; omega
theorem smS_ge {m : zMem} {a : Nat} : a ≤ (smS m a).1.1 := by
  unfold smS
  dsimp only
  have h1 := nmS_ge (m := m) (lo := 1) (hi := 3) (s := (a, 0))
  generalize nmS m 1 3 (a, 0) = s1 at *
  have h2 := nmS_ge (m := m) (lo := 0) (hi := 7) (s := s1)
  generalize nmS m 0 7 s1 = s2 at *
  have h3 := nmS_ge (m := m) (lo := 0) (hi := 47) (s := s2)
  generalize nmS m 0 47 s2 = s3 at *
  have h4 := nmS_ge (m := m) (lo := nv m s2.1 + 1) (hi := 48) (s := s3)
  generalize nmS m (nv m s2.1 + 1) 48 s3 = s4 at *
  have h5 := nmS_ge (m := m) (lo := 0) (hi := 99) (s := s4)
  dsimp only at h1
  omega
theorem brS_ge {m : zMem} {a : Nat} : a ≤ (brS m a).1.1 := by
  unfold brS
  dsimp only
  have h1 := nmS_ge (m := m) (lo := 0) (hi := 7) (s := (a, 0))
  generalize nmS m 0 7 (a, 0) = s1 at *
  have h2 := nmS_ge (m := m) (lo := 0) (hi := 99) (s := s1)
  dsimp only at h1
  omega
theorem semS_ge {m : zMem} {s : Nat × Nat} : s.1 ≤ (semS m s).1 := by
  have := nx_ge m s.1
  unfold semS ndS
  split
  · split
    · exact this
    · exact Nat.le_refl _
  · exact Nat.le_refl _
theorem semS_0 {m : zMem} {s : Nat × Nat} (h : (semS m s).2 = 0) : s.2 = 0 ∧ kd m s.1 = 4 ∧ (semS m s).1 = nx m s.1 := by
  unfold semS ndS at h ⊢
  by_cases h1 : s.2 = 0
  · rw [if_pos h1] at h ⊢
    by_cases h2 : kd m s.1 = 4
    · rw [if_pos h2]; exact ⟨h1, h2, rfl⟩
    · rw [if_neg h2] at h; exact absurd h (by simp)
  · rw [if_neg h1] at h; exact absurd h h1
theorem wd_lt' {m : zMem} {a : Nat} (h : ¬ wd m a = 0) : a < tn m := by
  unfold wd at h
  by_cases h1 : kd m a = 1
  · exact (kd_1.mp h1).1
  · rw [if_neg h1] at h; exact absurd rfl h
/-- a told thing takes its place -/
theorem oneS_gt {m : zMem} {q : zTx} {a : Nat} (h : (oneS m q a).1.2 = 0) : a < (oneS m q a).1.1 := by
  unfold oneS at h ⊢
  by_cases h1 : wd m a = wFl
  · have hlt := nx_gt (m := m) (a := a) (wd_lt' (by rw [h1]; decide))
    rw [if_pos h1] at h ⊢
    by_cases h2 : nfl m + q.1.length = 12
    · rw [if_pos h2] at h; exact absurd h (by simp)
    · rw [if_neg h2]
      exact Nat.lt_of_lt_of_le hlt (Nat.le_trans flS_ge semS_ge)
  · rw [if_neg h1] at h ⊢
    by_cases h2 : wd m a = wSt
    · have hlt := nx_gt (m := m) (a := a) (wd_lt' (by rw [h2]; decide))
      rw [if_pos h2] at h ⊢
      by_cases h3 : nst m + q.2.1.length = 20
      · rw [if_pos h3] at h; exact absurd h (by simp)
      · rw [if_neg h3]
        exact Nat.lt_of_lt_of_le hlt (Nat.le_trans smS_ge semS_ge)
    · rw [if_neg h2] at h ⊢
      by_cases h3 : wd m a = wBr
      · have hlt := nx_gt (m := m) (a := a) (wd_lt' (by rw [h3]; decide))
        rw [if_pos h3]
        exact Nat.lt_of_lt_of_le hlt (Nat.le_trans brS_ge semS_ge)
      · rw [if_neg h3] at h; exact absurd h (by simp)
/-- between two numbers stands a blank -/
theorem nx_num {m : zMem} {a : Nat} (h1 : kd m a = 2) (h2 : kd m (nx m a) = 2) : a + 2 ≤ nx m a := by
  obtain ⟨g1, g2, -⟩ := kd_2.mp h1
  obtain ⟨g3, g4, -⟩ := kd_2.mp h2
  have h3 := te_gt g1
  have h4 := sk_ge m (te m a)
  have h5 : nx m a = sk m (te m a) := rfl
  rcases Nat.lt_or_ge (te m a) (nx m a) with z | z
  · omega
  · exfalso
    have e : nx m a = te m a := by omega
    rw [e] at g3 g4
    rw [te_F g1 g2] at g3 g4
    exact rnE_end a ⟨g3, g4⟩
theorem bear_8 {m : zMem} (hb : ∀ j, j < tn m → tb m j ≤ 255) {a : Nat} (h1 : wd m a = wBr) (h : (semS m (brS m (nx m a)).1).2 = 0) : a + 8 ≤ (semS m (brS m (nx m a)).1).1 := by
  obtain ⟨k1, k2, k3⟩ := semS_0 h
  have e4 := wvP_4 hb h1
  have e5 := sk_ge m (te m a)
  have e6 : nx m a = sk m (te m a) := rfl
  have e7 := nx_gt (m := m) (kd_lt (a := (brS m (nx m a)).1.1) (by omega))
  unfold brS at k1 k2 k3 h e7 ⊢
  dsimp only at k1 k2 k3 h e7 ⊢
  obtain ⟨d1, d2, -, -, d5⟩ := nmS_0 k1
  obtain ⟨-, f2, -, -, f5⟩ := nmS_0 d1
  rw [f5] at d2 d5
  dsimp only at d2 d5 f5 f2
  have e8 := nx_num f2 d2
  have e9 := nx_gt (m := m) (kd_lt (a := nx m (nx m a)) (by omega))
  rw [d5] at e7 k3
  rw [k3]
  omega
/-- what is told can stand -/
def okL (g : List (Nat × Nat)) : Prop := 1 ≤ g.length ∧ g.length ≤ 5 ∧ ∀ p ∈ g, p.1 ≤ 7 ∧ 1 ≤ p.2 ∧ p.2 ≤ 4
def okF (d : zFl) : Prop := (d.1.1 ≤ 3 ∧ (1 ≤ d.1.2.1 ∧ d.1.2.1 ≤ 9) ∧ d.1.2.2.1 ≤ 40 ∧ d.1.2.2.2 ≤ 99) ∧ 1 ≤ d.2.length ∧ d.2.length ≤ 3 ∧ ∀ g ∈ d.2, okL g
def okS (d : Nat × Nat × Nat × Nat × Nat) : Prop := (1 ≤ d.1 ∧ d.1 ≤ 3) ∧ d.2.1 ≤ 7 ∧ d.2.2.1 ≤ 47 ∧ (d.2.2.1 < d.2.2.2.1 ∧ d.2.2.2.1 ≤ 48) ∧ d.2.2.2.2 ≤ 99
def okB (d : Nat × Nat) : Prop := d.1 ≤ 7 ∧ d.2 ≤ 99
theorem lgS_ok {m : zMem} : ∀ k a, k ≤ 5 → (lgS m k a).1.2 = 0 → 1 ≤ (lgS m k a).2.length ∧ (lgS m k a).2.length ≤ k ∧ ∀ p ∈ (lgS m k a).2, p.1 ≤ 7 ∧ 1 ≤ p.2 ∧ p.2 ≤ 4
  | 0, a, _, h => absurd h (by rw [lgS]; simp)
  | k + 1, a, hk, h => by
    rw [lgS] at h ⊢
    generalize hs1 : nmS m 0 7 (a, 0) = s1 at *
    generalize hs2 : nmS m 1 4 s1 = s2 at *
    have ok : s2.2 = 0 → nv m a ≤ 7 ∧ 1 ≤ nv m s1.1 ∧ nv m s1.1 ≤ 4 := by
      intro z
      rw [← hs2] at z
      obtain ⟨d1, -, d3, d4, -⟩ := nmS_0 z
      rw [← hs1] at d1
      obtain ⟨-, -, -, f4, -⟩ := nmS_0 d1
      exact ⟨f4, d3, d4⟩
    by_cases hc : s2.2 = 0 ∧ kd m s2.1 = 3
    · rw [if_pos hc] at h ⊢
      by_cases hk0 : k = 0
      · rw [if_pos hk0] at h; exact absurd h (by simp)
      · rw [if_neg hk0] at h ⊢
        obtain ⟨i1, i2, i3⟩ := lgS_ok k _ (by omega) h
        refine ⟨by rw [List.length_cons]; omega, by rw [List.length_cons]; omega, fun p hp => ?_⟩
        rcases List.mem_cons.mp hp with rfl | hp
        · exact ok hc.1
        · exact i3 p hp
    · rw [if_neg hc] at h ⊢
      refine ⟨Nat.le_refl _, by rw [List.length_singleton]; omega, fun p hp => ?_⟩
      rw [List.mem_singleton.mp hp]
      exact ok h
theorem wyS_ok {m : zMem} : ∀ k a, (wyS m k a).1.2 = 0 → 1 ≤ (wyS m k a).2.length ∧ (wyS m k a).2.length ≤ k ∧ ∀ g ∈ (wyS m k a).2, okL g
  | 0, a, h => absurd h (by rw [wyS]; simp)
  | k + 1, a, h => by
    rw [wyS] at h ⊢
    have ok := lgS_ok (m := m) 5 (nx m a) (Nat.le_refl _)
    generalize lgS m 5 (nx m a) = q at *
    by_cases hc : q.1.2 = 0 ∧ wd m q.1.1 = wWy
    · rw [if_pos hc] at h ⊢
      by_cases hk0 : k = 0
      · rw [if_pos hk0] at h; exact absurd h (by simp)
      · rw [if_neg hk0] at h ⊢
        obtain ⟨i1, i2, i3⟩ := wyS_ok k _ h
        refine ⟨by rw [List.length_cons]; omega, by rw [List.length_cons]; omega, fun p hp => ?_⟩
        rcases List.mem_cons.mp hp with rfl | hp
        · exact ok hc.1
        · exact i3 p hp
    · rw [if_neg hc] at h ⊢
      refine ⟨Nat.le_refl _, by rw [List.length_singleton]; omega, fun p hp => ?_⟩
      rw [List.mem_singleton.mp hp]
      exact ok h
theorem flS_ok {m : zMem} {a : Nat} (h : (flS m a).1.2 = 0) : okF (flS m a).2 := by
  unfold flS at h ⊢
  dsimp only at h ⊢
  generalize hs1 : nmS m 0 3 (a, 0) = s1 at *
  generalize hs2 : nmS m 1 9 s1 = s2 at *
  generalize hs3 : nmS m 0 40 s2 = s3 at *
  generalize hs4 : nmS m 0 99 s3 = s4 at *
  by_cases z : s4.2 = 0
  rotate_left
  · rw [if_neg z] at h; exact absurd h z
  rw [if_pos z] at h ⊢
  by_cases hw : wd m s4.1 = wWy
  rotate_left
  · rw [if_neg hw] at h; exact absurd h (by simp)
  rw [if_pos hw] at h ⊢
  have hy := wyS_ok 3 _ h
  rw [← hs4] at z
  obtain ⟨d1, -, -, d4, -⟩ := nmS_0 z
  rw [← hs3] at d1
  obtain ⟨e1, -, -, e4, -⟩ := nmS_0 d1
  rw [← hs2] at e1
  obtain ⟨f1, -, f3, f4, -⟩ := nmS_0 e1
  rw [← hs1] at f1
  obtain ⟨-, -, -, g4, -⟩ := nmS_0 f1
  exact ⟨⟨g4, ⟨f3, f4⟩, e4, d4⟩, hy⟩
theorem smS_ok {m : zMem} {a : Nat} (h : (smS m a).1.2 = 0) : okS (smS m a).2 := by
  unfold smS at h ⊢
  dsimp only at h ⊢
  generalize hs1 : nmS m 1 3 (a, 0) = s1 at *
  generalize hs2 : nmS m 0 7 s1 = s2 at *
  generalize hs3 : nmS m 0 47 s2 = s3 at *
  generalize hs4 : nmS m (nv m s2.1 + 1) 48 s3 = s4 at *
  obtain ⟨d1, -, -, d4, -⟩ := nmS_0 h
  rw [← hs4] at d1
  obtain ⟨e1, -, e3, e4, -⟩ := nmS_0 d1
  rw [← hs3] at e1
  obtain ⟨f1, -, -, f4, -⟩ := nmS_0 e1
  rw [← hs2] at f1
  obtain ⟨g1, -, -, g4, -⟩ := nmS_0 f1
  rw [← hs1] at g1
  obtain ⟨-, -, i3, i4, -⟩ := nmS_0 g1
  exact ⟨⟨i3, i4⟩, g4, f4, ⟨e3, e4⟩, d4⟩
theorem brS_ok {m : zMem} {a : Nat} (h : (brS m a).1.2 = 0) : okB (brS m a).2 := by
  unfold brS at h ⊢
  dsimp only at h ⊢
  generalize hs1 : nmS m 0 7 (a, 0) = s1 at *
  obtain ⟨d1, -, -, d4, -⟩ := nmS_0 h
  rw [← hs1] at d1
  obtain ⟨-, -, -, e4, -⟩ := nmS_0 d1
  exact ⟨e4, d4⟩
def okT' (m : zMem) (q : zTx) : Prop := (nfl m + q.1.length ≤ 12 ∧ ∀ d ∈ q.1, okF d) ∧ (nst m + q.2.1.length ≤ 20 ∧ ∀ d ∈ q.2.1, okS d) ∧ ∀ d ∈ q.2.2, okB d
theorem oneS_ok {m : zMem} {q : zTx} {a : Nat} (hq : okT' m q) (h : (oneS m q a).1.2 = 0) : okT' m (oneS m q a).2 := by
  unfold oneS at h ⊢
  obtain ⟨⟨q1, q2⟩, ⟨q3, q4⟩, q5⟩ := hq
  by_cases h1 : wd m a = wFl
  · rw [if_pos h1] at h ⊢
    by_cases h2 : nfl m + q.1.length = 12
    · rw [if_pos h2] at h; exact absurd h (by simp)
    · rw [if_neg h2] at h ⊢
      have hf := flS_ok (semS_0 h).1
      refine ⟨⟨?_, fun d hd => ?_⟩, ⟨q3, q4⟩, q5⟩
      · dsimp only; rw [List.length_append, List.length_singleton]; omega
      · rcases List.mem_append.mp hd with hd | hd
        · exact q2 d hd
        · rw [List.mem_singleton.mp hd]; exact hf
  · rw [if_neg h1] at h ⊢
    by_cases h2 : wd m a = wSt
    · rw [if_pos h2] at h ⊢
      by_cases h3 : nst m + q.2.1.length = 20
      · rw [if_pos h3] at h; exact absurd h (by simp)
      · rw [if_neg h3] at h ⊢
        have hf := smS_ok (semS_0 h).1
        refine ⟨⟨q1, q2⟩, ⟨?_, fun d hd => ?_⟩, q5⟩
        · dsimp only; rw [List.length_append, List.length_singleton]; omega
        · rcases List.mem_append.mp hd with hd | hd
          · exact q4 d hd
          · rw [List.mem_singleton.mp hd]; exact hf
    · rw [if_neg h2] at h ⊢
      by_cases h3 : wd m a = wBr
      · rw [if_pos h3] at h ⊢
        have hf := brS_ok (semS_0 h).1
        refine ⟨⟨q1, q2⟩, ⟨q3, q4⟩, fun d hd => ?_⟩
        rcases List.mem_append.mp hd with hd | hd
        · exact q5 d hd
        · rw [List.mem_singleton.mp hd]; exact hf
      · rw [if_neg h3] at h; exact absurd h (by simp)
theorem allS_ok {m : zMem} : ∀ k q a, okT' m q → (allS m k q a).1.2 = 0 → okT' m (allS m k q a).2
  | 0, q, a, hq, _ => hq
  | k + 1, q, a, hq, h => by
    rw [allS] at h ⊢
    by_cases h1 : kd m a = 0
    · rw [if_pos h1]; exact hq
    · rw [if_neg h1] at h ⊢
      by_cases h2 : (oneS m q a).1.2 = 0
      · rw [if_pos h2] at h ⊢
        exact allS_ok k _ _ (oneS_ok hq h2) h
      · rw [if_neg h2] at h; exact absurd h h2
theorem txS_ok {m : zMem} (hW : WF m) (h : (txS m).1.2 = 0) : okT' m (txS m).2 := allS_ok _ _ _ ⟨⟨hW.1.2, fun d hd => by cases hd⟩, ⟨hW.2.2.1.2, fun d hd => by cases hd⟩, fun d hd => by cases hd⟩ h
/-- the last told of a room -/
def lsB : List (Nat × Nat) → Nat → Option Nat
  | [], _ => none
  | q :: l, r => match lsB l r with
    | some v => some v
    | none => if q.1 = r then some q.2 else none
theorem lsB_app (q : Nat × Nat) (r : Nat) : ∀ l, lsB (l ++ [q]) r = if q.1 = r then some q.2 else lsB l r
  | [] => by
    show (if q.1 = r then some q.2 else none) = _
    rfl
  | p :: l => by
    show (match lsB (l ++ [q]) r with
      | some v => some v
      | none => if p.1 = r then some p.2 else none) = _
    rw [lsB_app q r l]
    by_cases h : q.1 = r
    · rw [if_pos h, if_pos h]
    · rw [if_neg h, if_neg h]; rfl
/-- what the rooms bear behind the reading -/
def bsR (m : zMem) (l : List (Nat × Nat)) (k : Nat) : Int32 := match lsB l (k / 48) with
  | some v => nI v
  | none => m 47 0 k
theorem rX12_read_0 {x : zX} {w : zWd} {im : zMem} {lv : Int64} {P : Int32 → zMem → Int64 → Prop} (hO : zOK x w zyX12_read 8) (hR : zRetI x w zyX12_read P) (hN : zN x 126 126)
 (h : (∃ P1 : zMem → Int64 → Prop, zSpecV x.2.1 w 3 zyX12_step [vR 43 0] (zwr (zwr (zwr (zwr (zwr (zwr (zwr (zwr im 43 0 0 0) 43 0 19 (im 43 0 17)) 43 0 17 0) 43 0 20 0) 43 0 24 0) 43 0 26 (im 43 0 10)) 43 0 27 (im 43 0 8)) 43 0 28 0) lv P1 ∧ ∀ (im1 : zMem) (lv1 : Int64), P1 im1 lv1 → zW x w 53 [(0, vR 43 0)] [] im1 lv1)) :
 zW x w 0 [(0, vR 43 0)] [] im lv := by
  refine zi_aload_n hO dX12_read_0 0 rfl ?_
  refine zi_iconst (v := 0) hO dX12_read_1 (by decide) ?_
  refine zi_putI hO dX12_read_2 gX12_1 rfl rfl (zI (by decide)) ?_
  refine zi_aload_n hO dX12_read_5 0 rfl ?_
  refine zi_aload_n hO dX12_read_6 0 rfl ?_
  refine zi_getI hO dX12_read_7 fX12_146 rfl rfl (zI (by decide)) ?_
  refine zi_putI hO dX12_read_10 gX12_152 rfl rfl (zI (by decide)) ?_
  refine zi_aload_n hO dX12_read_13 0 rfl ?_
  refine zi_iconst (v := 0) hO dX12_read_14 (by decide) ?_
  refine zi_putI hO dX12_read_15 gX12_146 rfl rfl (zI (by decide)) ?_
  refine zi_aload_n hO dX12_read_18 0 rfl ?_
  refine zi_iconst (v := 0) hO dX12_read_19 (by decide) ?_
  refine zi_putI hO dX12_read_20 gX12_155 rfl rfl (zI (by decide)) ?_
  refine zi_aload_n hO dX12_read_23 0 rfl ?_
  refine zi_iconst (v := 0) hO dX12_read_24 (by decide) ?_
  refine zi_putI hO dX12_read_25 gX12_176 rfl rfl (zI (by decide)) ?_
  refine zi_aload_n hO dX12_read_28 0 rfl ?_
  refine zi_aload_n hO dX12_read_29 0 rfl ?_
  refine zi_getI hO dX12_read_30 fX12_138 rfl rfl (zI (by decide)) ?_
  refine zi_putI hO dX12_read_33 gX12_193 rfl rfl (zI (by decide)) ?_
  refine zi_aload_n hO dX12_read_36 0 rfl ?_
  refine zi_aload_n hO dX12_read_37 0 rfl ?_
  refine zi_getI hO dX12_read_38 fX12_124 rfl rfl (zI (by decide)) ?_
  refine zi_putI hO dX12_read_41 gX12_211 rfl rfl (zI (by decide)) ?_
  refine zi_aload_n hO dX12_read_44 0 rfl ?_
  refine zi_iconst (v := 0) hO dX12_read_45 (by decide) ?_
  refine zi_putI hO dX12_read_46 gX12_214 rfl rfl (zI (by decide)) ?_
  refine zi_aload_n hO dX12_read_49 0 rfl ?_
  obtain ⟨P1, hM1, h⟩ := h
  refine zc_VV (as := []) hO hN dX12_read_50 kX12_186 (by decide) rfl (zI (by decide)) rfl rfl (Nat.le_of_ble_eq_true rfl) rfl rfl hM1 (fun im1 lv1 hp1 => ?_)
  replace h := h im1 lv1 hp1
  exact h
theorem rX12_read_53 {x : zX} {w : zWd} {im : zMem} {lv : Int64} {P : Int32 → zMem → Int64 → Prop} (hO : zOK x w zyX12_read 8) (hR : zRetI x w zyX12_read P) (hN : zN x 126 126)
 (h : ((¬ ((im 43 0 24) = 0) → (((im 43 0 24) ≤ 0 → zW x w 299 [(0, vR 43 0), (1, vI 0)] [] (zwr (zwr im 43 0 10 (im 43 0 26)) 43 0 8 (im 43 0 27)) lv) ∧
 (¬ ((im 43 0 24) ≤ 0) → P ((-1000100) - (im 43 0 25)) (zwr im 43 0 18 (im 43 0 24)) lv))) ∧
 ((im 43 0 24) = 0 → (((im 43 0 21) = 1 → (((im 43 0 24) ≤ 0 → zW x w 299 [(0, vR 43 0), (1, vI 0)] [] (zwr (zwr im 43 0 10 (im 43 0 26)) 43 0 8 (im 43 0 27)) lv) ∧
 (¬ ((im 43 0 24) ≤ 0) → P ((-1000100) - (im 43 0 25)) (zwr im 43 0 18 (im 43 0 24)) lv))) ∧
 (¬ ((im 43 0 21) = 1) → (∃ P1 : Int64 → zMem → Int64 → Prop, zSpecL x.2.1 w 2 zyX12_word [vR 43 0] im lv P1 ∧ ∀ (v1 : Int64) (im1 : zMem) (lv1 : Int64), P1 v1 im1 lv1 → ((¬ ((lg_cmp v1 (112615810885748 : Int64)) = 0) → ((¬ ((lg_cmp v1 (495874699885 : Int64)) = 0) → zW x w 112 [(0, vR 43 0), (1, vL v1)] [] im1 lv1) ∧
 ((lg_cmp v1 (495874699885 : Int64)) = 0 → ((¬ ((im1 43 0 27) = 20) → zW x w 112 [(0, vR 43 0), (1, vL v1)] [] im1 lv1) ∧
 ((im1 43 0 27) = 20 → (∃ P2 : zMem → Int64 → Prop, zSpecV x.2.1 w 2 zyX12_bad [vR 43 0, vI 4] im1 lv1 P2 ∧ ∀ (im2 : zMem) (lv2 : Int64), P2 im2 lv2 → zW x w 112 [(0, vR 43 0), (1, vL v1)] [] im2 lv2)))))) ∧
 ((lg_cmp v1 (112615810885748 : Int64)) = 0 → (((im1 43 0 26) = 12 → (∃ P3 : zMem → Int64 → Prop, zSpecV x.2.1 w 2 zyX12_bad [vR 43 0, vI 4] im1 lv1 P3 ∧ ∀ (im3 : zMem) (lv3 : Int64), P3 im3 lv3 → zW x w 112 [(0, vR 43 0), (1, vL v1)] [] im3 lv3)) ∧
 (¬ ((im1 43 0 26) = 12) → ((¬ ((lg_cmp v1 (495874699885 : Int64)) = 0) → zW x w 112 [(0, vR 43 0), (1, vL v1)] [] im1 lv1) ∧
 ((lg_cmp v1 (495874699885 : Int64)) = 0 → ((¬ ((im1 43 0 27) = 20) → zW x w 112 [(0, vR 43 0), (1, vL v1)] [] im1 lv1) ∧
 ((im1 43 0 27) = 20 → (∃ P4 : zMem → Int64 → Prop, zSpecV x.2.1 w 2 zyX12_bad [vR 43 0, vI 4] im1 lv1 P4 ∧ ∀ (im4 : zMem) (lv4 : Int64), P4 im4 lv4 → zW x w 112 [(0, vR 43 0), (1, vL v1)] [] im4 lv4))))))))))))))) :
 zW x w 53 [(0, vR 43 0)] [] im lv := by
  refine zi_aload_n hO dX12_read_53 0 rfl ?_
  refine zi_getI hO dX12_read_54 fX12_176 rfl rfl (zI (by decide)) ?_
  refine zi_if_ne (tgt := 258) hO dX12_read_57 (by decide) (fun c1 => ?_) (fun c1 => ?_)
  · have h := h.1 c1
    refine zi_aload_n hO dX12_read_258 0 rfl ?_
    refine zi_getI hO dX12_read_259 fX12_176 rfl rfl (zI (by decide)) ?_
    refine zi_if_le (tgt := 281) hO dX12_read_262 (by decide) (fun c2 => ?_) (fun c2 => ?_)
    · have h := h.1 c2
      refine zi_aload_n hO dX12_read_281 0 rfl ?_
      refine zi_aload_n hO dX12_read_282 0 rfl ?_
      refine zi_getI hO dX12_read_283 fX12_193 rfl rfl (zI (by decide)) ?_
      refine zi_putI hO dX12_read_286 gX12_138 rfl rfl (zI (by decide)) ?_
      refine zi_aload_n hO dX12_read_289 0 rfl ?_
      refine zi_aload_n hO dX12_read_290 0 rfl ?_
      refine zi_getI hO dX12_read_291 fX12_211 rfl rfl (zI (by decide)) ?_
      refine zi_putI hO dX12_read_294 gX12_124 rfl rfl (zI (by decide)) ?_
      refine zi_iconst (v := 0) hO dX12_read_297 (by decide) ?_
      refine zi_istore_n (L' := [(0, vR 43 0), (1, vI 0)]) hO dX12_read_298 (by decide) rfl rfl ?_
      exact h
    · have h := h.2 c2
      refine zi_aload_n hO dX12_read_265 0 rfl ?_
      refine zi_aload_n hO dX12_read_266 0 rfl ?_
      refine zi_getI hO dX12_read_267 fX12_176 rfl rfl (zI (by decide)) ?_
      refine zi_putI hO dX12_read_270 gX12_229 rfl rfl (zI (by decide)) ?_
      refine zi_ldc (v := (-1000100)) hO dX12_read_273 nX12_232 ?_
      refine zi_aload_n hO dX12_read_275 0 rfl ?_
      refine zi_getI hO dX12_read_276 fX12_179 rfl rfl (zI (by decide)) ?_
      refine zi_isub hO dX12_read_279 ?_
      exact zr_I hO hR rfl dX12_read_280 h
  · have h := h.2 c1
    refine zi_aload_n hO dX12_read_60 0 rfl ?_
    refine zi_getI hO dX12_read_61 fX12_164 rfl rfl (zI (by decide)) ?_
    refine zi_iconst (v := 1) hO dX12_read_64 (by decide) ?_
    refine zi_icmp_eq (tgt := 258) hO dX12_read_65 (by decide) (fun c3 => ?_) (fun c3 => ?_)
    · have h := h.1 c3
      refine zi_aload_n hO dX12_read_258 0 rfl ?_
      refine zi_getI hO dX12_read_259 fX12_176 rfl rfl (zI (by decide)) ?_
      refine zi_if_le (tgt := 281) hO dX12_read_262 (by decide) (fun c4 => ?_) (fun c4 => ?_)
      · have h := h.1 c4
        refine zi_aload_n hO dX12_read_281 0 rfl ?_
        refine zi_aload_n hO dX12_read_282 0 rfl ?_
        refine zi_getI hO dX12_read_283 fX12_193 rfl rfl (zI (by decide)) ?_
        refine zi_putI hO dX12_read_286 gX12_138 rfl rfl (zI (by decide)) ?_
        refine zi_aload_n hO dX12_read_289 0 rfl ?_
        refine zi_aload_n hO dX12_read_290 0 rfl ?_
        refine zi_getI hO dX12_read_291 fX12_211 rfl rfl (zI (by decide)) ?_
        refine zi_putI hO dX12_read_294 gX12_124 rfl rfl (zI (by decide)) ?_
        refine zi_iconst (v := 0) hO dX12_read_297 (by decide) ?_
        refine zi_istore_n (L' := [(0, vR 43 0), (1, vI 0)]) hO dX12_read_298 (by decide) rfl rfl ?_
        exact h
      · have h := h.2 c4
        refine zi_aload_n hO dX12_read_265 0 rfl ?_
        refine zi_aload_n hO dX12_read_266 0 rfl ?_
        refine zi_getI hO dX12_read_267 fX12_176 rfl rfl (zI (by decide)) ?_
        refine zi_putI hO dX12_read_270 gX12_229 rfl rfl (zI (by decide)) ?_
        refine zi_ldc (v := (-1000100)) hO dX12_read_273 nX12_232 ?_
        refine zi_aload_n hO dX12_read_275 0 rfl ?_
        refine zi_getI hO dX12_read_276 fX12_179 rfl rfl (zI (by decide)) ?_
        refine zi_isub hO dX12_read_279 ?_
        exact zr_I hO hR rfl dX12_read_280 h
    · have h := h.2 c3
      refine zi_aload_n hO dX12_read_68 0 rfl ?_
      obtain ⟨P1, hM1, h⟩ := h
      refine zc_VL (as := []) hO hN dX12_read_69 kX12_202 (by decide) rfl (zI (by decide)) rfl rfl (Nat.le_of_ble_eq_true rfl) rfl rfl hM1 (fun v1 im1 lv1 hp1 => ?_)
      replace h := h v1 im1 lv1 hp1
      refine zi_lstore_n (L' := [(0, vR 43 0), (1, vL v1)]) hO dX12_read_72 (by decide) rfl rfl rfl ?_
      refine zi_lload_n hO dX12_read_73 1 rfl ?_
      refine zi_ldc2 (v := 112615810885748) hO dX12_read_74 nX12_217 ?_
      refine zi_lcmp hO dX12_read_77 ?_
      refine zi_if_ne (tgt := 90) hO dX12_read_78 (by decide) (fun c5 => ?_) (fun c5 => ?_)
      · have h := h.1 c5
        refine zi_lload_n hO dX12_read_90 1 rfl ?_
        refine zi_ldc2 (v := 495874699885) hO dX12_read_91 nX12_219 ?_
        refine zi_lcmp hO dX12_read_94 ?_
        refine zi_if_ne (tgt := 112) hO dX12_read_95 (by decide) (fun c6 => ?_) (fun c6 => ?_)
        · have h := h.1 c6
          exact h
        · have h := h.2 c6
          refine zi_aload_n hO dX12_read_98 0 rfl ?_
          refine zi_getI hO dX12_read_99 fX12_211 rfl rfl (zI (by decide)) ?_
          refine zi_bipush (v := 20) hO dX12_read_102 (by decide) ?_
          refine zi_icmp_ne (tgt := 112) hO dX12_read_104 (by decide) (fun c7 => ?_) (fun c7 => ?_)
          · have h := h.1 c7
            exact h
          · have h := h.2 c7
            refine zi_aload_n hO dX12_read_107 0 rfl ?_
            refine zi_iconst (v := 4) hO dX12_read_108 (by decide) ?_
            obtain ⟨P2, hM2, h⟩ := h
            refine zc_VV (as := [vI 4]) hO hN dX12_read_109 kX12_182 (by decide) rfl (zI (by decide)) rfl rfl (Nat.le_of_ble_eq_true rfl) rfl rfl hM2 (fun im2 lv2 hp2 => ?_)
            replace h := h im2 lv2 hp2
            exact h
      · have h := h.2 c5
        refine zi_aload_n hO dX12_read_81 0 rfl ?_
        refine zi_getI hO dX12_read_82 fX12_193 rfl rfl (zI (by decide)) ?_
        refine zi_bipush (v := 12) hO dX12_read_85 (by decide) ?_
        refine zi_icmp_eq (tgt := 107) hO dX12_read_87 (by decide) (fun c8 => ?_) (fun c8 => ?_)
        · have h := h.1 c8
          refine zi_aload_n hO dX12_read_107 0 rfl ?_
          refine zi_iconst (v := 4) hO dX12_read_108 (by decide) ?_
          obtain ⟨P3, hM3, h⟩ := h
          refine zc_VV (as := [vI 4]) hO hN dX12_read_109 kX12_182 (by decide) rfl (zI (by decide)) rfl rfl (Nat.le_of_ble_eq_true rfl) rfl rfl hM3 (fun im3 lv3 hp3 => ?_)
          replace h := h im3 lv3 hp3
          exact h
        · have h := h.2 c8
          refine zi_lload_n hO dX12_read_90 1 rfl ?_
          refine zi_ldc2 (v := 495874699885) hO dX12_read_91 nX12_219 ?_
          refine zi_lcmp hO dX12_read_94 ?_
          refine zi_if_ne (tgt := 112) hO dX12_read_95 (by decide) (fun c9 => ?_) (fun c9 => ?_)
          · have h := h.1 c9
            exact h
          · have h := h.2 c9
            refine zi_aload_n hO dX12_read_98 0 rfl ?_
            refine zi_getI hO dX12_read_99 fX12_211 rfl rfl (zI (by decide)) ?_
            refine zi_bipush (v := 20) hO dX12_read_102 (by decide) ?_
            refine zi_icmp_ne (tgt := 112) hO dX12_read_104 (by decide) (fun c10 => ?_) (fun c10 => ?_)
            · have h := h.1 c10
              exact h
            · have h := h.2 c10
              refine zi_aload_n hO dX12_read_107 0 rfl ?_
              refine zi_iconst (v := 4) hO dX12_read_108 (by decide) ?_
              obtain ⟨P4, hM4, h⟩ := h
              refine zc_VV (as := [vI 4]) hO hN dX12_read_109 kX12_182 (by decide) rfl (zI (by decide)) rfl rfl (Nat.le_of_ble_eq_true rfl) rfl rfl hM4 (fun im4 lv4 hp4 => ?_)
              replace h := h im4 lv4 hp4
              exact h
theorem rX12_read_112 {x : zX} {w : zWd} {im : zMem} {lv : Int64} {P : Int32 → zMem → Int64 → Prop} {y1 : Int64} (hO : zOK x w zyX12_read 8) (hR : zRetI x w zyX12_read P) (hN : zN x 126 126)
 (h : (((lg_cmp y1 (112615810885748 : Int64)) = 0 → (∃ P1 : zMem → Int64 → Prop, zSpecV x.2.1 w 4 zyX12_need [vR 43 0, vI 1] im lv P1 ∧ ∀ (im1 : zMem) (lv1 : Int64), P1 im1 lv1 → zW x w 145 [(0, vR 43 0), (1, vL y1)] [] im1 lv1)) ∧
 (¬ ((lg_cmp y1 (112615810885748 : Int64)) = 0) → (((lg_cmp y1 (1650811250 : Int64)) = 0 → (∃ P2 : zMem → Int64 → Prop, zSpecV x.2.1 w 4 zyX12_need [vR 43 0, vI 1] im lv P2 ∧ ∀ (im2 : zMem) (lv2 : Int64), P2 im2 lv2 → zW x w 145 [(0, vR 43 0), (1, vL y1)] [] im2 lv2)) ∧
 (¬ ((lg_cmp y1 (1650811250 : Int64)) = 0) → ((¬ ((lg_cmp y1 (495874699885 : Int64)) = 0) → (∃ P3 : zMem → Int64 → Prop, zSpecV x.2.1 w 4 zyX12_need [vR 43 0, vI 0] im lv P3 ∧ ∀ (im3 : zMem) (lv3 : Int64), P3 im3 lv3 → zW x w 145 [(0, vR 43 0), (1, vL y1)] [] im3 lv3)) ∧
 ((lg_cmp y1 (495874699885 : Int64)) = 0 → (∃ P4 : zMem → Int64 → Prop, zSpecV x.2.1 w 4 zyX12_need [vR 43 0, vI 1] im lv P4 ∧ ∀ (im4 : zMem) (lv4 : Int64), P4 im4 lv4 → zW x w 145 [(0, vR 43 0), (1, vL y1)] [] im4 lv4)))))))) :
 zW x w 112 [(0, vR 43 0), (1, vL y1)] [] im lv := by
  refine zi_aload_n hO dX12_read_112 0 rfl ?_
  refine zi_lload_n hO dX12_read_113 1 rfl ?_
  refine zi_ldc2 (v := 112615810885748) hO dX12_read_114 nX12_217 ?_
  refine zi_lcmp hO dX12_read_117 ?_
  refine zi_if_eq (tgt := 137) hO dX12_read_118 (by decide) (fun c1 => ?_) (fun c1 => ?_)
  · have h := h.1 c1
    refine zi_iconst (v := 1) hO dX12_read_137 (by decide) ?_
    refine zi_goto (tgt := 142) hO dX12_read_138 (by decide) ?_
    obtain ⟨P1, hM1, h⟩ := h
    refine zc_VV (as := [vI 1]) hO hN dX12_read_142 kX12_189 (by decide) rfl (zI (by decide)) rfl rfl (Nat.le_of_ble_eq_true rfl) rfl rfl hM1 (fun im1 lv1 hp1 => ?_)
    replace h := h im1 lv1 hp1
    exact h
  · have h := h.2 c1
    refine zi_lload_n hO dX12_read_121 1 rfl ?_
    refine zi_ldc2 (v := 1650811250) hO dX12_read_122 nX12_221 ?_
    refine zi_lcmp hO dX12_read_125 ?_
    refine zi_if_eq (tgt := 137) hO dX12_read_126 (by decide) (fun c2 => ?_) (fun c2 => ?_)
    · have h := h.1 c2
      refine zi_iconst (v := 1) hO dX12_read_137 (by decide) ?_
      refine zi_goto (tgt := 142) hO dX12_read_138 (by decide) ?_
      obtain ⟨P2, hM2, h⟩ := h
      refine zc_VV (as := [vI 1]) hO hN dX12_read_142 kX12_189 (by decide) rfl (zI (by decide)) rfl rfl (Nat.le_of_ble_eq_true rfl) rfl rfl hM2 (fun im2 lv2 hp2 => ?_)
      replace h := h im2 lv2 hp2
      exact h
    · have h := h.2 c2
      refine zi_lload_n hO dX12_read_129 1 rfl ?_
      refine zi_ldc2 (v := 495874699885) hO dX12_read_130 nX12_219 ?_
      refine zi_lcmp hO dX12_read_133 ?_
      refine zi_if_ne (tgt := 141) hO dX12_read_134 (by decide) (fun c3 => ?_) (fun c3 => ?_)
      · have h := h.1 c3
        refine zi_iconst (v := 0) hO dX12_read_141 (by decide) ?_
        obtain ⟨P3, hM3, h⟩ := h
        refine zc_VV (as := [vI 0]) hO hN dX12_read_142 kX12_189 (by decide) rfl (zI (by decide)) rfl rfl (Nat.le_of_ble_eq_true rfl) rfl rfl hM3 (fun im3 lv3 hp3 => ?_)
        replace h := h im3 lv3 hp3
        exact h
      · have h := h.2 c3
        refine zi_iconst (v := 1) hO dX12_read_137 (by decide) ?_
        refine zi_goto (tgt := 142) hO dX12_read_138 (by decide) ?_
        obtain ⟨P4, hM4, h⟩ := h
        refine zc_VV (as := [vI 1]) hO hN dX12_read_142 kX12_189 (by decide) rfl (zI (by decide)) rfl rfl (Nat.le_of_ble_eq_true rfl) rfl rfl hM4 (fun im4 lv4 hp4 => ?_)
        replace h := h im4 lv4 hp4
        exact h
theorem rX12_read_145 {x : zX} {w : zWd} {im : zMem} {lv : Int64} {P : Int32 → zMem → Int64 → Prop} {y1 : Int64} (hO : zOK x w zyX12_read 8) (hR : zRetI x w zyX12_read P) (hN : zN x 126 126)
 (h : ((¬ ((im 43 0 24) = 0) → zW x w 238 [(0, vR 43 0), (1, vL y1)] [] im lv) ∧
 ((im 43 0 24) = 0 → ((¬ ((lg_cmp y1 (112615810885748 : Int64)) = 0) → ((¬ ((lg_cmp y1 (495874699885 : Int64)) = 0) → (∃ P1 : Int32 → zMem → Int64 → Prop, zSpecI x.2.1 w 5 zyX12_numberIn [vR 43 0, vI 0, vI 7] im lv P1 ∧ ∀ (v1 : Int32) (im1 : zMem) (lv1 : Int64), P1 v1 im1 lv1 → (vp_in (im 43 0 28) 64 ∧ (∃ P3 : Int32 → zMem → Int64 → Prop, zSpecI x.2.1 w 5 zyX12_numberIn [vR 43 0, vI 0, vI 99] (zwr im1 56 0 (Int32.toNatClampNeg (im 43 0 28)) v1) lv1 P3 ∧ ∀ (v3 : Int32) (im3 : zMem) (lv3 : Int64), P3 v3 im3 lv3 → (vp_in (im1 43 0 28) 64 ∧ zW x w 238 [(0, vR 43 0), (1, vL y1)] [] (zwr (zwr im3 57 0 (Int32.toNatClampNeg (im1 43 0 28)) v3) 43 0 28 ((im3 43 0 28) + 1)) lv3))))) ∧
 ((lg_cmp y1 (495874699885 : Int64)) = 0 → (∃ P5 : zMem → Int64 → Prop, zSpecV x.2.1 w 6 zyX12_readStorm [vR 43 0] im lv P5 ∧ ∀ (im5 : zMem) (lv5 : Int64), P5 im5 lv5 → zW x w 238 [(0, vR 43 0), (1, vL y1)] [] im5 lv5)))) ∧
 ((lg_cmp y1 (112615810885748 : Int64)) = 0 → (∃ P6 : zMem → Int64 → Prop, zSpecV x.2.1 w 7 zyX12_readFlight [vR 43 0] im lv P6 ∧ ∀ (im6 : zMem) (lv6 : Int64), P6 im6 lv6 → zW x w 238 [(0, vR 43 0), (1, vL y1)] [] im6 lv6)))))) :
 zW x w 145 [(0, vR 43 0), (1, vL y1)] [] im lv := by
  refine zi_aload_n hO dX12_read_145 0 rfl ?_
  refine zi_getI hO dX12_read_146 fX12_176 rfl rfl (zI (by decide)) ?_
  refine zi_if_ne (tgt := 167) hO dX12_read_149 (by decide) (fun c1 => ?_) (fun c1 => ?_)
  · have h := h.1 c1
    refine zi_aload_n hO dX12_read_167 0 rfl ?_
    refine zi_getI hO dX12_read_168 fX12_176 rfl rfl (zI (by decide)) ?_
    refine zi_if_ne (tgt := 189) hO dX12_read_171 (by decide) (fun _ => ?_) (fun c2 => absurd c2 c1)
    refine zi_aload_n hO dX12_read_189 0 rfl ?_
    refine zi_getI hO dX12_read_190 fX12_176 rfl rfl (zI (by decide)) ?_
    refine zi_if_ne (tgt := 238) hO dX12_read_193 (by decide) (fun _ => ?_) (fun c3 => absurd c3 c1)
    exact h
  · have h := h.2 c1
    refine zi_lload_n hO dX12_read_152 1 rfl ?_
    refine zi_ldc2 (v := 112615810885748) hO dX12_read_153 nX12_217 ?_
    refine zi_lcmp hO dX12_read_156 ?_
    refine zi_if_ne (tgt := 167) hO dX12_read_157 (by decide) (fun c4 => ?_) (fun c4 => ?_)
    · have h := h.1 c4
      refine zi_aload_n hO dX12_read_167 0 rfl ?_
      refine zi_getI hO dX12_read_168 fX12_176 rfl rfl (zI (by decide)) ?_
      refine zi_if_ne (tgt := 189) hO dX12_read_171 (by decide) (fun c5 => absurd c1 c5) (fun _ => ?_)
      refine zi_lload_n hO dX12_read_174 1 rfl ?_
      refine zi_ldc2 (v := 495874699885) hO dX12_read_175 nX12_219 ?_
      refine zi_lcmp hO dX12_read_178 ?_
      refine zi_if_ne (tgt := 189) hO dX12_read_179 (by decide) (fun c6 => ?_) (fun c6 => ?_)
      · have h := h.1 c6
        refine zi_aload_n hO dX12_read_189 0 rfl ?_
        refine zi_getI hO dX12_read_190 fX12_176 rfl rfl (zI (by decide)) ?_
        refine zi_if_ne (tgt := 238) hO dX12_read_193 (by decide) (fun c7 => absurd c1 c7) (fun _ => ?_)
        refine zi_aload_n hO dX12_read_196 0 rfl ?_
        refine zi_getR (r' := 56) (i' := 0) hO dX12_read_197 fX12_74 rfl rfl (zI (by decide)) rfl ?_
        refine zi_aload_n hO dX12_read_200 0 rfl ?_
        refine zi_getI hO dX12_read_201 fX12_214 rfl rfl (zI (by decide)) ?_
        refine zi_aload_n hO dX12_read_204 0 rfl ?_
        refine zi_iconst (v := 0) hO dX12_read_205 (by decide) ?_
        refine zi_bipush (v := 7) hO dX12_read_206 (by decide) ?_
        obtain ⟨P1, hM1, h⟩ := h
        refine zc_VI (as := [vI 0, vI 7]) hO hN dX12_read_208 kX12_196 (by decide) rfl (zI (by decide)) rfl rfl (Nat.le_of_ble_eq_true rfl) rfl rfl hM1 (fun v1 im1 lv1 hp1 => ?_)
        replace h := h v1 im1 lv1 hp1
        obtain ⟨s2, h⟩ := h
        refine zi_iast hO dX12_read_211 rfl (zI (by decide)) s2 ?_
        refine zi_aload_n hO dX12_read_212 0 rfl ?_
        refine zi_getR (r' := 57) (i' := 0) hO dX12_read_213 fX12_77 rfl rfl (zI (by decide)) rfl ?_
        refine zi_aload_n hO dX12_read_216 0 rfl ?_
        refine zi_getI hO dX12_read_217 fX12_214 rfl rfl (zI (by decide)) ?_
        refine zi_aload_n hO dX12_read_220 0 rfl ?_
        refine zi_iconst (v := 0) hO dX12_read_221 (by decide) ?_
        refine zi_bipush (v := 99) hO dX12_read_222 (by decide) ?_
        obtain ⟨P3, hM3, h⟩ := h
        refine zc_VI (as := [vI 0, vI 99]) hO hN dX12_read_224 kX12_196 (by decide) rfl (zI (by decide)) rfl rfl (Nat.le_of_ble_eq_true rfl) rfl rfl hM3 (fun v3 im3 lv3 hp3 => ?_)
        replace h := h v3 im3 lv3 hp3
        obtain ⟨s4, h⟩ := h
        refine zi_iast hO dX12_read_227 rfl (zI (by decide)) s4 ?_
        refine zi_aload_n hO dX12_read_228 0 rfl ?_
        refine zi_dup hO dX12_read_229 rfl ?_
        refine zi_getI hO dX12_read_230 fX12_214 rfl rfl (zI (by decide)) ?_
        refine zi_iconst (v := 1) hO dX12_read_233 (by decide) ?_
        refine zi_iadd hO dX12_read_234 ?_
        refine zi_putI hO dX12_read_235 gX12_214 rfl rfl (zI (by decide)) ?_
        exact h
      · have h := h.2 c6
        refine zi_aload_n hO dX12_read_182 0 rfl ?_
        obtain ⟨P5, hM5, h⟩ := h
        refine zc_VV (as := []) hO hN dX12_read_183 kX12_226 (by decide) rfl (zI (by decide)) rfl rfl (Nat.le_of_ble_eq_true rfl) rfl rfl hM5 (fun im5 lv5 hp5 => ?_)
        replace h := h im5 lv5 hp5
        refine zi_goto (tgt := 238) hO dX12_read_186 (by decide) ?_
        exact h
    · have h := h.2 c4
      refine zi_aload_n hO dX12_read_160 0 rfl ?_
      obtain ⟨P6, hM6, h⟩ := h
      refine zc_VV (as := []) hO hN dX12_read_161 kX12_223 (by decide) rfl (zI (by decide)) rfl rfl (Nat.le_of_ble_eq_true rfl) rfl rfl hM6 (fun im6 lv6 hp6 => ?_)
      replace h := h im6 lv6 hp6
      refine zi_goto (tgt := 238) hO dX12_read_164 (by decide) ?_
      exact h
theorem rX12_read_238 {x : zX} {w : zWd} {im : zMem} {lv : Int64} {P : Int32 → zMem → Int64 → Prop} {y1 : Int64} (hO : zOK x w zyX12_read 8) (hR : zRetI x w zyX12_read P) (hN : zN x 126 126)
 (h : ((¬ ((im 43 0 24) = 0) → zW x w 53 [(0, vR 43 0)] [] im lv) ∧
 ((im 43 0 24) = 0 → (∃ P1 : Int32 → zMem → Int64 → Prop, zSpecI x.2.1 w 2 zyX12_is [vR 43 0, vI 59] im lv P1 ∧ ∀ (v1 : Int32) (im1 : zMem) (lv1 : Int64), P1 v1 im1 lv1 → (∃ P2 : zMem → Int64 → Prop, zSpecV x.2.1 w 4 zyX12_need [vR 43 0, vI v1] im1 lv1 P2 ∧ ∀ (im2 : zMem) (lv2 : Int64), P2 im2 lv2 → zW x w 53 [(0, vR 43 0)] [] im2 lv2))))) :
 zW x w 238 [(0, vR 43 0), (1, vL y1)] [] im lv := by
  refine zi_aload_n hO dX12_read_238 0 rfl ?_
  refine zi_getI hO dX12_read_239 fX12_176 rfl rfl (zI (by decide)) ?_
  refine zi_if_ne (tgt := 255) hO dX12_read_242 (by decide) (fun c1 => ?_) (fun c1 => ?_)
  · have h := h.1 c1
    refine zi_goto (tgt := 53) hO dX12_read_255 (by decide) ?_
    refine zi_pick (L' := [(0, vR 43 0)]) [0] rfl ?_
    exact h
  · have h := h.2 c1
    refine zi_aload_n hO dX12_read_245 0 rfl ?_
    refine zi_aload_n hO dX12_read_246 0 rfl ?_
    refine zi_bipush (v := 59) hO dX12_read_247 (by decide) ?_
    obtain ⟨P1, hM1, h⟩ := h
    refine zc_VI (as := [vI 59]) hO hN dX12_read_249 kX12_199 (by decide) rfl (zI (by decide)) rfl rfl (Nat.le_of_ble_eq_true rfl) rfl rfl hM1 (fun v1 im1 lv1 hp1 => ?_)
    replace h := h v1 im1 lv1 hp1
    obtain ⟨P2, hM2, h⟩ := h
    refine zc_VV (as := [vI v1]) hO hN dX12_read_252 kX12_189 (by decide) rfl (zI (by decide)) rfl rfl (Nat.le_of_ble_eq_true rfl) rfl rfl hM2 (fun im2 lv2 hp2 => ?_)
    replace h := h im2 lv2 hp2
    refine zi_goto (tgt := 53) hO dX12_read_255 (by decide) ?_
    refine zi_pick (L' := [(0, vR 43 0)]) [0] rfl ?_
    exact h
theorem rX12_read_299 {x : zX} {w : zWd} {im : zMem} {lv : Int64} {P : Int32 → zMem → Int64 → Prop} {x1 : Int32} (hO : zOK x w zyX12_read 8) (hR : zRetI x w zyX12_read P) (hN : zN x 126 126)
 (h : (((im 43 0 28) ≤ x1 → P (im 43 0 10) im lv) ∧
 (¬ ((im 43 0 28) ≤ x1) → zW x w 309 [(0, vR 43 0), (1, vI x1), (2, vI 0)] [] im lv))) :
 zW x w 299 [(0, vR 43 0), (1, vI x1)] [] im lv := by
  refine zi_iload_n hO dX12_read_299 1 rfl ?_
  refine zi_aload_n hO dX12_read_300 0 rfl ?_
  refine zi_getI hO dX12_read_301 fX12_214 rfl rfl (zI (by decide)) ?_
  refine zi_icmp_ge (tgt := 349) hO dX12_read_304 (by decide) (fun c1 => ?_) (fun c1 => ?_)
  · have h := h.1 c1
    refine zi_aload_n hO dX12_read_349 0 rfl ?_
    refine zi_getI hO dX12_read_350 fX12_138 rfl rfl (zI (by decide)) ?_
    exact zr_I hO hR rfl dX12_read_353 h
  · have h := h.2 c1
    refine zi_iconst (v := 0) hO dX12_read_307 (by decide) ?_
    refine zi_istore_n (L' := [(0, vR 43 0), (1, vI x1), (2, vI 0)]) hO dX12_read_308 (by decide) rfl rfl ?_
    exact h
theorem rX12_read_309 {x : zX} {w : zWd} {im : zMem} {lv : Int64} {P : Int32 → zMem → Int64 → Prop} {x1 : Int32} {x2 : Int32} (hO : zOK x w zyX12_read 8) (hR : zRetI x w zyX12_read P) (hN : zN x 126 126)
 (h : ((48 ≤ x2 → zW x w 299 [(0, vR 43 0), (1, vI (x1 + 1))] [] im lv) ∧
 (¬ (48 ≤ x2) → (vp_in x1 64 ∧ (vp_in ((48 * (im 56 0 (Int32.toNatClampNeg x1))) + x2) 384 ∧ zW x w 309 [(0, vR 43 0), (1, vI x1), (2, vI (x2 + 1))] [] (zwr im 47 0 (Int32.toNatClampNeg ((48 * (im 56 0 (Int32.toNatClampNeg x1))) + x2)) (im 57 0 (Int32.toNatClampNeg x1))) lv))))) :
 zW x w 309 [(0, vR 43 0), (1, vI x1), (2, vI x2)] [] im lv := by
  refine zi_iload_n hO dX12_read_309 2 rfl ?_
  refine zi_bipush (v := 48) hO dX12_read_310 (by decide) ?_
  refine zi_icmp_ge (tgt := 343) hO dX12_read_312 (by decide) (fun c1 => ?_) (fun c1 => ?_)
  · have h := h.1 c1
    refine zi_iinc (v' := (x1 + 1)) (L' := [(0, vR 43 0), (1, vI (x1 + 1)), (2, vI x2)]) hO dX12_read_343 1 rfl rfl (by decide) rfl rfl ?_
    refine zi_goto (tgt := 299) hO dX12_read_346 (by decide) ?_
    refine zi_pick (L' := [(0, vR 43 0), (1, vI (x1 + 1))]) [0, 1] rfl ?_
    exact h
  · have h := h.2 c1
    refine zi_aload_n hO dX12_read_315 0 rfl ?_
    refine zi_getR (r' := 47) (i' := 0) hO dX12_read_316 fX12_44 rfl rfl (zI (by decide)) rfl ?_
    refine zi_bipush (v := 48) hO dX12_read_319 (by decide) ?_
    refine zi_aload_n hO dX12_read_321 0 rfl ?_
    refine zi_getR (r' := 56) (i' := 0) hO dX12_read_322 fX12_74 rfl rfl (zI (by decide)) rfl ?_
    refine zi_iload_n hO dX12_read_325 1 rfl ?_
    obtain ⟨s1, h⟩ := h
    refine zi_iald hO dX12_read_326 rfl (zI (by decide)) s1 ?_
    refine zi_imul hO dX12_read_327 ?_
    refine zi_iload_n hO dX12_read_328 2 rfl ?_
    refine zi_iadd hO dX12_read_329 ?_
    refine zi_aload_n hO dX12_read_330 0 rfl ?_
    refine zi_getR (r' := 57) (i' := 0) hO dX12_read_331 fX12_77 rfl rfl (zI (by decide)) rfl ?_
    refine zi_iload_n hO dX12_read_334 1 rfl ?_
    refine zi_iald hO dX12_read_335 rfl (zI (by decide)) s1 ?_
    obtain ⟨s2, h⟩ := h
    refine zi_iast hO dX12_read_336 rfl (zI (by decide)) s2 ?_
    refine zi_iinc (v' := (x2 + 1)) (L' := [(0, vR 43 0), (1, vI x1), (2, vI (x2 + 1))]) hO dX12_read_337 2 rfl rfl (by decide) rfl rfl ?_
    refine zi_goto (tgt := 309) hO dX12_read_340 (by decide) ?_
    exact h

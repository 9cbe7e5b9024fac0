def hasP (i n : Int32) (k : Nat) : Prop := 0 ≤ i ∧ 0 ≤ n ∧ cN i + cN n ≤ k
theorem nn0 {x : Int32} : ¬ x < 0 ↔ 0 ≤ x := by rw [Int32.not_lt]
theorem hasP_x {i n : Int32} {k : Nat} (h : hasP i n k) : ∃ a b, i = nI a ∧ n = nI b ∧ a + b ≤ k ∧ a < 2 ^ 31 ∧ b < 2 ^ 31 := by
  obtain ⟨h1, h2, h3⟩ := h
  obtain ⟨a, ha, rfl⟩ := nI_of (nn0.mpr h1)
  obtain ⟨b, hb, rfl⟩ := nI_of (nn0.mpr h2)
  rw [cNn ha, cNn hb] at h3
  exact ⟨a, b, rfl, rfl, h3, ha, hb⟩
theorem hasP_l {i n : Int32} {k : Nat} (hk : k ≤ 48) (h1 : ¬ i < 0) (h2 : ¬ n < 0) : ((Int32.toInt64 i) + (Int32.toInt64 n)) ≤ Int32.toInt64 (nI k) ↔ hasP i n k := by
  obtain ⟨b, hb, rfl⟩ := nI_of h2
  rw [zlong_le hb hk h1]
  refine ⟨fun ⟨j, e, h⟩ => ?_, fun h => ?_⟩
  · subst e
    exact ⟨nn0.mp h1, nn0.mp h2, by rw [cNn (n := j) (by omega), cNn hb]; exact h⟩
  · obtain ⟨a, b', rfl, e, h3, ha, hb'⟩ := hasP_x h
    rw [nI_eq hb hb'] at e
    subst e
    exact ⟨a, rfl, h3⟩
theorem lg_ngt {a b : Int64} : ¬ 0 < lg_cmp a b ↔ a ≤ b := by
  rw [lg_gt, Int64.lt_iff_toInt_lt, Int64.le_iff_toInt_le]
  omega
/-- what copy, asked of sheets that are there and alike, does -/
def cpM (im : zMem) (a i b j n : Nat) : zMem := zset (zwr im 43 0 1 0) 46 0 (va_cpy (im 46 0) (im 46 0) (48 * a + i) (48 * b + j) n)
theorem C_X12_copy (l : Launch) (w : zWd) {im : zMem} (lv : Int64) (hS : WS im) (h0 : im 43 0 0 = 0) (x1 x2 x3 x4 x5 : Int32) : zSpecI l w 4 zyX12_copy [vR 43 0, vI x1, vI x2, vI x3, vI x4, vI x5] im lv (fun v im' lv' => (((¬ (0 ≤ x1 ∧ x1 < nI 8) ∨ ¬ (0 ≤ x3 ∧ x3 < nI 8)) ∧ v = -1000001 ∧ im' = im) ∨ (∃ a b, a < 8 ∧ b < 8 ∧ x1 = nI a ∧ x3 = nI b ∧ (((im 44 0 a = -1 ∨ im 44 0 b = -1) ∧ v = -1000011 ∧ im' = zwr im 43 0 1 1) ∨ (¬ im 44 0 a = -1 ∧ ¬ im 44 0 b = -1 ∧ ((¬ im 44 0 a = im 44 0 b ∧ v = -1000015 ∧ im' = zwr im 43 0 1 5) ∨ (im 44 0 a = im 44 0 b ∧ ((¬ (hasP x2 x5 (mny im a) ∧ hasP x4 x5 (mny im b)) ∧ v = -1000012 ∧ im' = zwr im 43 0 1 2) ∨ ((hasP x2 x5 (mny im a) ∧ hasP x4 x5 (mny im b)) ∧ v = x5 ∧ im' = cpM im a (cN x2) b (cN x4) (cN x5)))))))) ) ∧ lv' = lv) := by
  refine ze_I (by decide) (Nat.le_of_ble_eq_true rfl) (fun x hO hR hN => rX12_copy_0 hO hR hN ?_)
  rw [zwr_id h0, zwr_zwr, zwr_zwr, zwr_zwr]
  have q7 : (0 ≤ x1 ∧ x1 ≤ 7) ↔ (0 ≤ x1 ∧ x1 < nI 8) := zrl (by decide)
  have q7' : (0 ≤ x3 ∧ x3 ≤ 7) ↔ (0 ≤ x3 ∧ x3 < nI 8) := zrl (by decide)
  rw [q7, q7']
  refine ⟨fun q => ⟨Or.inl ⟨Or.inl q, rfl, rfl⟩, rfl⟩, fun q => ⟨fun q2 => ?_, fun q2 => ⟨Or.inl ⟨Or.inr q2, rfl, rfl⟩, rfl⟩⟩⟩
  obtain ⟨a, ha, rfl⟩ := zrx (by decide) q
  obtain ⟨b, hb, rfl⟩ := zrx (by decide) q2
  obtain ⟨a1, a2, a3⟩ := hS a ha
  obtain ⟨b1, b2, b3⟩ := hS b hb
  have ca : Int32.toNatClampNeg (nI a) = a := nI_clamp (by omega)
  have cb : Int32.toNatClampNeg (nI b) = b := nI_clamp (by omega)
  rw [ca, cb, a2, b2, lane_lt hS ha, lg_ngt, lg_le]
  have e11 : (-1000010 : Int32) - 1 = -1000011 := by decide
  have e12 : (-1000010 : Int32) - 2 = -1000012 := by decide
  have e15 : (-1000010 : Int32) - 5 = -1000015 := by decide
  rw [e11, e12, e15]
  refine ⟨vp_in_nI ha (by decide), fun z1 => ⟨Or.inr ⟨a, b, ha, hb, rfl, rfl, Or.inl ⟨Or.inl z1, rfl, rfl⟩⟩, rfl⟩, fun z1 => ⟨vp_in_nI hb (by decide), fun z2 => ?_, fun z2 => ⟨Or.inr ⟨a, b, ha, hb, rfl, rfl, Or.inl ⟨Or.inr ((lane_neg hS hb).mp z2), rfl, rfl⟩⟩, rfl⟩⟩⟩
  have z2' : ¬ im 44 0 b = -1 := fun z => by rw [z] at z2; exact absurd z2 (by decide)
  refine ⟨fun z3 => ?_, fun z3 => ⟨Or.inr ⟨a, b, ha, hb, rfl, rfl, Or.inr ⟨z1, z2', Or.inl ⟨z3, rfl, rfl⟩⟩⟩, rfl⟩⟩
  have bad : ¬ (hasP x2 x5 (mny im a) ∧ hasP x4 x5 (mny im b)) → ((((¬ (0 ≤ nI a ∧ nI a < nI 8) ∨ ¬ (0 ≤ nI b ∧ nI b < nI 8)) ∧ (-1000012 : Int32) = -1000001 ∧ zwr im 43 0 1 2 = im) ∨ (∃ a' b', a' < 8 ∧ b' < 8 ∧ nI a = nI a' ∧ nI b = nI b' ∧ (((im 44 0 a' = -1 ∨ im 44 0 b' = -1) ∧ (-1000012 : Int32) = -1000011 ∧ zwr im 43 0 1 2 = zwr im 43 0 1 1) ∨ (¬ im 44 0 a' = -1 ∧ ¬ im 44 0 b' = -1 ∧ ((¬ im 44 0 a' = im 44 0 b' ∧ (-1000012 : Int32) = -1000015 ∧ zwr im 43 0 1 2 = zwr im 43 0 1 5) ∨ (im 44 0 a' = im 44 0 b' ∧ ((¬ (hasP x2 x5 (mny im a') ∧ hasP x4 x5 (mny im b')) ∧ (-1000012 : Int32) = -1000012 ∧ zwr im 43 0 1 2 = zwr im 43 0 1 2) ∨ ((hasP x2 x5 (mny im a') ∧ hasP x4 x5 (mny im b')) ∧ (-1000012 : Int32) = x5 ∧ zwr im 43 0 1 2 = cpM im a' (cN x2) b' (cN x4) (cN x5)))))))) ) ∧ lv = lv) := fun h => ⟨Or.inr ⟨a, b, ha, hb, rfl, rfl, Or.inr ⟨z1, z2', Or.inr ⟨z3, Or.inl ⟨h, rfl, rfl⟩⟩⟩⟩, rfl⟩
  refine ⟨fun y1 => bad (fun h => nn0.mpr h.1.1 y1), fun y1 => ⟨fun y2 => bad (fun h => nn0.mpr h.2.1 y2), fun y2 => ⟨fun y3 => bad (fun h => nn0.mpr h.1.2.1 y3), fun y3 => ?_⟩⟩⟩
  rw [hasP_l a3 y1 y3, hasP_l b3 y2 y3]
  refine ⟨fun y4 => bad (fun h => ?_), fun y4 => ⟨fun y5 => ?_, fun y5 => bad (fun h => y5 h.2)⟩⟩
  · rw [lg_gt] at y4
    have := (hasP_l a3 y1 y3).mpr h.1
    rw [Int64.lt_iff_toInt_lt] at y4
    rw [Int64.le_iff_toInt_le] at this
    omega
  have fin : ∀ (im' : zMem), im' = cpM im a (cN x2) b (cN x4) (cN x5) → ((((¬ (0 ≤ nI a ∧ nI a < nI 8) ∨ ¬ (0 ≤ nI b ∧ nI b < nI 8)) ∧ x5 = -1000001 ∧ im' = im) ∨ (∃ a' b', a' < 8 ∧ b' < 8 ∧ nI a = nI a' ∧ nI b = nI b' ∧ (((im 44 0 a' = -1 ∨ im 44 0 b' = -1) ∧ x5 = -1000011 ∧ im' = zwr im 43 0 1 1) ∨ (¬ im 44 0 a' = -1 ∧ ¬ im 44 0 b' = -1 ∧ ((¬ im 44 0 a' = im 44 0 b' ∧ x5 = -1000015 ∧ im' = zwr im 43 0 1 5) ∨ (im 44 0 a' = im 44 0 b' ∧ ((¬ (hasP x2 x5 (mny im a') ∧ hasP x4 x5 (mny im b')) ∧ x5 = -1000012 ∧ im' = zwr im 43 0 1 2) ∨ ((hasP x2 x5 (mny im a') ∧ hasP x4 x5 (mny im b')) ∧ x5 = x5 ∧ im' = cpM im a' (cN x2) b' (cN x4) (cN x5)))))))) ) ∧ lv = lv) := fun im' h => ⟨Or.inr ⟨a, b, ha, hb, rfl, rfl, Or.inr ⟨z1, z2', Or.inr ⟨z3, Or.inr ⟨⟨y4, y5⟩, rfl, h⟩⟩⟩⟩, rfl⟩
  obtain ⟨i, n, rfl, rfl, hin, hi31, hn31⟩ := hasP_x y4
  obtain ⟨j, n', rfl, e, hjn, hj31, -⟩ := hasP_x y5
  rw [nI_eq hn31 (by omega)] at e
  subst e
  rw [nI_ltI hi31 hj31]
  have hd46 : (zwr im 43 0 1 0) 46 0 = im 46 0 := by rw [zwr_r (by decide)]
  generalize hBe : zwr im 43 0 1 0 = B at hd46 ⊢
  refine ⟨fun dn => ?_, fun up => ?_⟩
  · have key : ∀ n2 k, n2 + k = n → zW x w 143 [(0, vR 43 0), (1, vI (nI a)), (2, vI (nI i)), (3, vI (nI b)), (4, vI (nI j)), (5, vI (nI n)), (6, vI (nI 0)), (7, vI (nI k))] [] (zset B 46 0 (va_cpy (im 46 0) (B 46 0) (48 * a + i + n2) (48 * b + j + n2) k)) lv := by
      intro n2
      induction n2 with
      | zero =>
        intro k hk
        have : k = n := by omega
        subst this
        exact rX12_copy_143 hO hR hN ⟨fun _ => by refine fin _ ?_; unfold cpM; (try simp only [Nat.add_zero]); rw [cNn (n := i) (by omega), cNn (n := j) (by omega), cNn (n := k) (by omega), hBe, hd46], fun q => absurd (by simp) q⟩
      | succ n2 ih =>
        intro k hk
        have ih := ih (k + 1) (by omega)
        rw [← cpy_dn] at ih
        refine rX12_copy_143 hO hR hN ?_
        have e1 : nI n - 1 - nI k = nI n2 := by
          rw [show nI n - 1 = nI (n - 1) from pk_sub (a := n) (b := 1) (by omega), pk_sub (by omega)]
          congr 1
          omega
        rw [e1]
        simp (disch := omega) only [zlit, nI_add, pk_mul, nI_clamp, nI_leI, nI_eq]
        refine ⟨fun q => by omega, fun _ => ⟨fun _ => ⟨vp_in_nI (by omega) (by decide), vp_in_nI (by omega) (by decide), ?_⟩, fun q => absurd trivial q⟩⟩
        have hrd : zset B 46 0 (va_cpy (im 46 0) (B 46 0) (48 * a + i + (n2 + 1)) (48 * b + j + (n2 + 1)) k) 46 0 (48 * a + i + n2) = im 46 0 (48 * a + i + n2) := by
          rw [zset_eq]
          unfold va_cpy
          rw [if_neg (by omega), hd46]
        rw [hrd]
        exact ih
    have := key n 0 (by omega)
    rw [cpy_0] at this
    exact this
  · have key : ∀ n2 k, n2 + k = n → zW x w 143 [(0, vR 43 0), (1, vI (nI a)), (2, vI (nI i)), (3, vI (nI b)), (4, vI (nI j)), (5, vI (nI n)), (6, vI (nI 1)), (7, vI (nI k))] [] (zset B 46 0 (va_cpy (im 46 0) (B 46 0) (48 * a + i) (48 * b + j) k)) lv := by
      intro n2
      induction n2 with
      | zero =>
        intro k hk
        have : k = n := by omega
        subst this
        exact rX12_copy_143 hO hR hN ⟨fun _ => by refine fin _ ?_; unfold cpM; (try simp only [Nat.add_zero]); rw [cNn (n := i) (by omega), cNn (n := j) (by omega), cNn (n := k) (by omega), hBe, hd46], fun q => absurd (by simp) q⟩
      | succ n2 ih =>
        intro k hk
        have ih := ih (k + 1) (by omega)
        rw [← cpy_up] at ih
        refine rX12_copy_143 hO hR hN ?_
        have h10 : ¬ (nI 1 = 0) := by decide
        refine ⟨fun q => ?_, fun _ => ⟨fun q => absurd q h10, fun _ => ?_⟩⟩
        · exfalso
          rw [nI_leI (by omega) (by omega)] at q
          omega
        simp (disch := omega) only [zlit, nI_add, pk_mul, nI_clamp]
        refine ⟨vp_in_nI (by omega) (by decide), vp_in_nI (by omega) (by decide), ?_⟩
        have hrd : zset B 46 0 (va_cpy (im 46 0) (B 46 0) (48 * a + i) (48 * b + j) k) 46 0 (48 * a + i + k) = im 46 0 (48 * a + i + k) := by
          rw [zset_eq]
          unfold va_cpy
          rw [if_neg (by omega), hd46]
        rw [hrd]
        exact ih
    have := key n 0 (by omega)
    rw [cpy_0] at this
    exact this
theorem n1x {x : Int32} {N : Nat} (hN : N < 2 ^ 30) : (1 ≤ x ∧ x ≤ nI N) ↔ ∃ n, 1 ≤ n ∧ n ≤ N ∧ x = nI n := by
  constructor
  · intro h
    have h0 : 0 ≤ x := by
      have := h.1
      rw [Int32.le_iff_toInt_le] at this ⊢
      have e1 : (1 : Int32).toInt = 1 := rfl
      have e0 : (0 : Int32).toInt = 0 := rfl
      omega
    obtain ⟨n, hn, rfl⟩ := (zle_n hN h0).mp h.2
    have h1 : nI 1 ≤ nI n := h.1
    rw [nI_leI (by omega) (by omega)] at h1
    exact ⟨n, h1, hn, rfl⟩
  · rintro ⟨n, h1, h2, rfl⟩
    exact ⟨nI_le (a := 1) h1 (by omega), nI_le h2 (by omega)⟩
/-- what bears, staff do: n items come to a row of places -/
def bsM (im : zMem) (r s i dp n : Nat) : zMem := zset (zwr im 43 0 1 0) r 0 (va_cpy (im 46 0) (im r 0) (48 * s + i) dp n)
/-- the answers of bears and staff behind the first looks -/
def itM (im : zMem) (r s : Nat) (x2 : Int32) (dp n : Nat) (hi : Int32) (v : Int32) (im' : zMem) : Prop := if im 44 0 s = -1 then v = -1000011 ∧ im' = zwr im 43 0 1 1 else if 0 ≤ x2 ∧ x2 ≤ nI (mny im s) - nI n then (if okN (im 46 0) (48 * s + cN x2) hi n = true then v = nI n ∧ im' = bsM im r s (cN x2) dp n else v = -1000001 ∧ im' = im) else v = -1000012 ∧ im' = zwr im 43 0 1 2
theorem C_X12_bears (l : Launch) (w : zWd) {im : zMem} (lv : Int64) (hS : WS im) (h0 : im 43 0 0 = 0) (x1 x2 x3 x4 x5 : Int32) : zSpecI l w 4 zyX12_bears [vR 43 0, vI x1, vI x2, vI x3, vI x4, vI x5] im lv (fun v im' lv' => ((∃ r t s n, (r < 8 ∧ t < 48 ∧ s < 8 ∧ 1 ≤ n ∧ n ≤ 48 - t) ∧ (x1 = nI r ∧ x2 = nI t ∧ x3 = nI s ∧ x5 = nI n) ∧ itM im 47 s x4 (48 * r + t) n 99 v im') ∨ (¬ (∃ r t s n, (r < 8 ∧ t < 48 ∧ s < 8 ∧ 1 ≤ n ∧ n ≤ 48 - t) ∧ (x1 = nI r ∧ x2 = nI t ∧ x3 = nI s ∧ x5 = nI n)) ∧ v = -1000001 ∧ im' = im)) ∧ lv' = lv) := by
  refine ze_I (by decide) (Nat.le_of_ble_eq_true rfl) (fun x hO hR hN => rX12_bears_0 hO hR hN ?_)
  rw [zwr_id h0]
  have q7 : (0 ≤ x1 ∧ x1 ≤ 7) ↔ (0 ≤ x1 ∧ x1 < nI 8) := zrl (by decide)
  have q47 : (0 ≤ x2 ∧ x2 ≤ 47) ↔ (0 ≤ x2 ∧ x2 < nI 48) := zrl (by decide)
  have q7' : (0 ≤ x3 ∧ x3 ≤ 7) ↔ (0 ≤ x3 ∧ x3 < nI 8) := zrl (by decide)
  rw [q7, q47, q7']
  refine ⟨fun q => ⟨Or.inr ⟨?_, rfl, rfl⟩, rfl⟩, fun q => ⟨fun q2 => ⟨Or.inr ⟨?_, rfl, rfl⟩, rfl⟩, fun q2 => ?_⟩⟩
  · rintro ⟨r, t, s, n, ⟨g1, -⟩, rfl, -⟩
    exact q (zin0 (by decide) g1)
  · rintro ⟨r, t, s, n, ⟨-, g2, -⟩, -, rfl, -⟩
    exact q2 (zin0 (by decide) g2)
  obtain ⟨r, hr, rfl⟩ := zrx (by decide) q
  obtain ⟨t, ht, rfl⟩ := zrx (by decide) q2
  have e48 : (48 : Int32) - nI t = nI (48 - t) := pk_sub (a := 48) (by omega)
  rw [e48, n1x (by omega)]
  refine ⟨fun q3 => ⟨Or.inr ⟨?_, rfl, rfl⟩, rfl⟩, fun q3 => ⟨fun q4 => ?_, fun q4 => ⟨Or.inr ⟨?_, rfl, rfl⟩, rfl⟩⟩⟩
  · rintro ⟨r', t', s', n', ⟨-, g2, -, g4, g5⟩, -, e2, -, e4⟩
    rw [nI_eq (by omega) (by omega)] at e2
    subst e2
    exact q3 ⟨n', g4, g5, e4⟩
  rotate_left
  · rintro ⟨r', t', s', n', ⟨-, -, g3, -⟩, -, -, rfl, -⟩
    exact q4 (zin0 (by decide) g3)
  obtain ⟨s, hs, rfl⟩ := zrx (by decide) q4
  obtain ⟨n, hn1, hn2, rfl⟩ := q3
  have out : ∀ (v : Int32) (im' : zMem), itM im 47 s x4 (48 * r + t) n 99 v im' → (((∃ r' t' s' n', (r' < 8 ∧ t' < 48 ∧ s' < 8 ∧ 1 ≤ n' ∧ n' ≤ 48 - t') ∧ (nI r = nI r' ∧ nI t = nI t' ∧ nI s = nI s' ∧ nI n = nI n') ∧ itM im 47 s' x4 (48 * r' + t') n' 99 v im') ∨ (¬ (∃ r' t' s' n', (r' < 8 ∧ t' < 48 ∧ s' < 8 ∧ 1 ≤ n' ∧ n' ≤ 48 - t') ∧ (nI r = nI r' ∧ nI t = nI t' ∧ nI s = nI s' ∧ nI n = nI n')) ∧ v = -1000001 ∧ im' = im))) := fun v im' h => Or.inl ⟨r, t, s, n, ⟨hr, ht, hs, hn1, hn2⟩, ⟨rfl, rfl, rfl, rfl⟩, h⟩
  refine ⟨_, C_X12_lookItems _ _ _ hS hs hn1 (by omega) x4 99, ?_⟩
  rintro v5 im5 lv5 ⟨hv, rfl⟩
  refine ⟨fun z => ?_, fun z => ⟨out _ _ ?_, rfl⟩⟩
  · by_cases c1 : im 44 0 s = -1
    · rw [if_pos c1] at hv
      rw [hv.1] at z
      exact absurd z (by decide)
    by_cases c2 : 0 ≤ x4 ∧ x4 ≤ nI (mny im s) - nI n
    rotate_left
    · rw [if_neg c1, if_neg c2] at hv
      rw [hv.1] at z
      exact absurd z (by decide)
    by_cases c3 : okN (im 46 0) (48 * s + cN x4) 99 n = true
    rotate_left
    · rw [if_neg c1, if_pos c2, if_neg c3] at hv
      rw [hv.1] at z
      exact absurd z (by decide)
    rw [if_neg c1, if_pos c2, if_pos c3] at hv
    obtain ⟨rfl, e5⟩ := hv
    obtain ⟨i, hi31, rfl⟩ := nI_of (nn0.mpr c2.1)
    obtain ⟨-, -, w3⟩ := hS s hs
    have hin : i + n ≤ mny im s := by
      have := pk_sub_toInt (a := mny im s) (b := n) (by omega) (by omega)
      have c := c2.2
      rw [Int32.le_iff_toInt_le, this, nI_toInt hi31] at c
      omega
    have f46 : im5 46 0 = im 46 0 := by rw [e5, zwr_r (by decide)]
    have f47 : im5 47 0 = im 47 0 := by rw [e5, zwr_r (by decide)]
    have key : ∀ n2 k, n2 + k = n → zW x w 68 [(0, vR 43 0), (1, vI (nI r)), (2, vI (nI t)), (3, vI (nI s)), (4, vI (nI i)), (5, vI (nI n)), (6, vI 0), (7, vI (nI k))] [] (zset im5 47 0 (va_cpy (im5 46 0) (im5 47 0) (48 * s + i) (48 * r + t) k)) lv5 := by
      intro n2
      induction n2 with
      | zero =>
        intro k hk
        have : k = n := by omega
        subst this
        refine rX12_bears_68 hO hR hN ⟨fun _ => ⟨out _ _ ?_, rfl⟩, fun q => absurd (by simp) q⟩
        unfold itM
        rw [if_neg c1, if_pos c2, if_pos c3]
        refine ⟨rfl, ?_⟩
        unfold bsM
        rw [f46, f47, e5, cNn hi31]
      | succ n2 ih =>
        intro k hk
        have ih := ih (k + 1) (by omega)
        rw [← cpy_up] at ih
        refine rX12_bears_68 hO hR hN ?_
        have hk1 : nI k + 1 = nI (k + 1) := nI_1 k
        have ci : Int32.toNatClampNeg (48 * nI s + nI i + nI k) = 48 * s + i + k := by simp (disch := omega) only [zlit, nI_add, pk_mul, nI_clamp]
        have cj : Int32.toNatClampNeg (48 * nI r + nI t + nI k) = 48 * r + t + k := by simp (disch := omega) only [zlit, nI_add, pk_mul, nI_clamp]
        have vi : vp_in (48 * nI s + nI i + nI k) 384 := by simp (disch := omega) only [zlit, nI_add, pk_mul]; exact vp_in_nI (by omega) (by decide)
        have vj : vp_in (48 * nI r + nI t + nI k) 384 := by simp (disch := omega) only [zlit, nI_add, pk_mul]; exact vp_in_nI (by omega) (by decide)
        rw [ci, cj, hk1, nI_leI (by omega) (by omega), cpy_r (by decide)]
        exact ⟨fun q => by omega, fun _ => ⟨vi, vj, ih⟩⟩
    have := key n 0 (by omega)
    rw [cpy_0] at this
    exact this
  · unfold itM
    by_cases c1 : im 44 0 s = -1
    · rw [if_pos c1] at hv ⊢; exact hv
    rw [if_neg c1] at hv ⊢
    by_cases c2 : 0 ≤ x4 ∧ x4 ≤ nI (mny im s) - nI n
    rotate_left
    · rw [if_neg c2] at hv ⊢; exact hv
    rw [if_pos c2] at hv ⊢
    by_cases c3 : okN (im 46 0) (48 * s + cN x4) 99 n = true
    rotate_left
    · rw [if_neg c3] at hv ⊢; exact hv
    rw [if_pos c3] at hv
    rw [hv.1] at z
    exact absurd (by decide) z
theorem C_X12_staff (l : Launch) (w : zWd) {im : zMem} (lv : Int64) (hS : WS im) (h0 : im 43 0 0 = 0) (x2 x3 x4 x5 : Int32) : zSpecI l w 4 zyX12_staff [vR 43 0, vI x2, vI x3, vI x4, vI x5] im lv (fun v im' lv' => ((∃ t s n, (t < 48 ∧ s < 8 ∧ 1 ≤ n ∧ n ≤ 48 - t) ∧ (x2 = nI t ∧ x3 = nI s ∧ x5 = nI n) ∧ itM im 48 s x4 t n 9 v im') ∨ (¬ (∃ t s n, (t < 48 ∧ s < 8 ∧ 1 ≤ n ∧ n ≤ 48 - t) ∧ (x2 = nI t ∧ x3 = nI s ∧ x5 = nI n)) ∧ v = -1000001 ∧ im' = im)) ∧ lv' = lv) := by
  refine ze_I (by decide) (Nat.le_of_ble_eq_true rfl) (fun x hO hR hN => rX12_staff_0 hO hR hN ?_)
  rw [zwr_id h0]
  have q47 : (0 ≤ x2 ∧ x2 ≤ 47) ↔ (0 ≤ x2 ∧ x2 < nI 48) := zrl (by decide)
  have q7' : (0 ≤ x3 ∧ x3 ≤ 7) ↔ (0 ≤ x3 ∧ x3 < nI 8) := zrl (by decide)
  rw [q47, q7']
  refine ⟨fun q2 => ⟨Or.inr ⟨?_, rfl, rfl⟩, rfl⟩, fun q2 => ?_⟩
  · rintro ⟨t, s, n, ⟨g2, -⟩, rfl, -⟩
    exact q2 (zin0 (by decide) g2)
  obtain ⟨t, ht, rfl⟩ := zrx (by decide) q2
  have e48 : (48 : Int32) - nI t = nI (48 - t) := pk_sub (a := 48) (by omega)
  rw [e48, n1x (by omega)]
  refine ⟨fun q3 => ⟨Or.inr ⟨?_, rfl, rfl⟩, rfl⟩, fun q3 => ⟨fun q4 => ?_, fun q4 => ⟨Or.inr ⟨?_, rfl, rfl⟩, rfl⟩⟩⟩
  · rintro ⟨t', s', n', ⟨g2, -, g4, g5⟩, e2, -, e4⟩
    rw [nI_eq (by omega) (by omega)] at e2
    subst e2
    exact q3 ⟨n', g4, g5, e4⟩
  rotate_left
  · rintro ⟨t', s', n', ⟨-, g3, -⟩, -, rfl, -⟩
    exact q4 (zin0 (by decide) g3)
  obtain ⟨s, hs, rfl⟩ := zrx (by decide) q4
  obtain ⟨n, hn1, hn2, rfl⟩ := q3
  have out : ∀ (v : Int32) (im' : zMem), itM im 48 s x4 t n 9 v im' → (((∃ t' s' n', (t' < 48 ∧ s' < 8 ∧ 1 ≤ n' ∧ n' ≤ 48 - t') ∧ (nI t = nI t' ∧ nI s = nI s' ∧ nI n = nI n') ∧ itM im 48 s' x4 t' n' 9 v im') ∨ (¬ (∃ t' s' n', (t' < 48 ∧ s' < 8 ∧ 1 ≤ n' ∧ n' ≤ 48 - t') ∧ (nI t = nI t' ∧ nI s = nI s' ∧ nI n = nI n')) ∧ v = -1000001 ∧ im' = im))) := fun v im' h => Or.inl ⟨t, s, n, ⟨ht, hs, hn1, hn2⟩, ⟨rfl, rfl, rfl⟩, h⟩
  refine ⟨_, C_X12_lookItems _ _ _ hS hs hn1 (by omega) x4 9, ?_⟩
  rintro v5 im5 lv5 ⟨hv, rfl⟩
  refine ⟨fun z => ?_, fun z => ⟨out _ _ ?_, rfl⟩⟩
  · by_cases c1 : im 44 0 s = -1
    · rw [if_pos c1] at hv
      rw [hv.1] at z
      exact absurd z (by decide)
    by_cases c2 : 0 ≤ x4 ∧ x4 ≤ nI (mny im s) - nI n
    rotate_left
    · rw [if_neg c1, if_neg c2] at hv
      rw [hv.1] at z
      exact absurd z (by decide)
    by_cases c3 : okN (im 46 0) (48 * s + cN x4) 9 n = true
    rotate_left
    · rw [if_neg c1, if_pos c2, if_neg c3] at hv
      rw [hv.1] at z
      exact absurd z (by decide)
    rw [if_neg c1, if_pos c2, if_pos c3] at hv
    obtain ⟨rfl, e5⟩ := hv
    obtain ⟨i, hi31, rfl⟩ := nI_of (nn0.mpr c2.1)
    obtain ⟨-, -, w3⟩ := hS s hs
    have hin : i + n ≤ mny im s := by
      have := pk_sub_toInt (a := mny im s) (b := n) (by omega) (by omega)
      have c := c2.2
      rw [Int32.le_iff_toInt_le, this, nI_toInt hi31] at c
      omega
    have f46 : im5 46 0 = im 46 0 := by rw [e5, zwr_r (by decide)]
    have f48 : im5 48 0 = im 48 0 := by rw [e5, zwr_r (by decide)]
    have key : ∀ n2 k, n2 + k = n → zW x w 60 [(0, vR 43 0), (1, vI (nI t)), (2, vI (nI s)), (3, vI (nI i)), (4, vI (nI n)), (5, vI 0), (6, vI (nI k))] [] (zset im5 48 0 (va_cpy (im5 46 0) (im5 48 0) (48 * s + i) t k)) lv5 := by
      intro n2
      induction n2 with
      | zero =>
        intro k hk
        have : k = n := by omega
        subst this
        refine rX12_staff_60 hO hR hN ⟨fun _ => ⟨out _ _ ?_, rfl⟩, fun q => absurd (by simp) q⟩
        unfold itM
        rw [if_neg c1, if_pos c2, if_pos c3]
        refine ⟨rfl, ?_⟩
        unfold bsM
        rw [f46, f48, e5, cNn hi31]
      | succ n2 ih =>
        intro k hk
        have ih := ih (k + 1) (by omega)
        rw [← cpy_up] at ih
        refine rX12_staff_60 hO hR hN ?_
        have hk1 : nI k + 1 = nI (k + 1) := nI_1 k
        have ci : Int32.toNatClampNeg (48 * nI s + nI i + nI k) = 48 * s + i + k := by simp (disch := omega) only [zlit, nI_add, pk_mul, nI_clamp]
        have vi : vp_in (48 * nI s + nI i + nI k) 384 := by simp (disch := omega) only [zlit, nI_add, pk_mul]; exact vp_in_nI (by omega) (by decide)
        have cj : Int32.toNatClampNeg (nI t + nI k) = t + k := by rw [nI_add]; exact nI_clamp (by omega)
        have vj : vp_in (nI t + nI k) 48 := by rw [nI_add]; exact vp_in_nI (by omega) (by decide)
        rw [ci, cj, hk1, nI_leI (by omega) (by omega), cpy_r (by decide)]
        exact ⟨fun q => by omega, fun _ => ⟨vi, vj, ih⟩⟩
    have := key n 0 (by omega)
    rw [cpy_0] at this
    exact this
  · unfold itM
    by_cases c1 : im 44 0 s = -1
    · rw [if_pos c1] at hv ⊢; exact hv
    rw [if_neg c1] at hv ⊢
    by_cases c2 : 0 ≤ x4 ∧ x4 ≤ nI (mny im s) - nI n
    rotate_left
    · rw [if_neg c2] at hv ⊢; exact hv
    rw [if_pos c2] at hv ⊢
    by_cases c3 : okN (im 46 0) (48 * s + cN x4) 9 n = true
    rotate_left
    · rw [if_neg c3] at hv ⊢; exact hv
    rw [if_pos c3] at hv
    rw [hv.1] at z
    exact absurd (by decide) z
/-- byte k of a long -/
def byt (y : Int64) (k : Nat) : Int32 := Int64.toInt32 ((y >>> (Int32.toInt64 (8 * nI k) &&& 63)) &&& (255 : Int64))
def fdM (y : Int64) : Nat → Nat → zMem → zMem
  | 0, _, im => im
  | n + 1, L, im => fdM y n (L + 1) (zwr (zwr im 55 0 L (byt y n)) 43 0 17 (nI (L + 1)))
theorem C_X12_feed (l : Launch) (w : zWd) {im : zMem} (lv : Int64) (h0 : im 43 0 0 = 0) {L : Nat} (hL : im 43 0 17 = nI L) (hL5 : L ≤ 500) (y1 : Int64) (x3 : Int32) : zSpecI l w 3 zyX12_feed [vR 43 0, vL y1, vI x3] im lv (fun v im' lv' => ((∃ n, 1 ≤ n ∧ n ≤ 8 ∧ x3 = nI n ∧ ((500 < L + n ∧ v = -1000003 ∧ im' = im) ∨ (L + n ≤ 500 ∧ v = nI (L + n) ∧ im' = fdM y1 n L im))) ∨ ((¬ ∃ n, 1 ≤ n ∧ n ≤ 8 ∧ x3 = nI n) ∧ v = -1000001 ∧ im' = im)) ∧ lv' = lv) := by
  refine ze_I (by decide) (Nat.le_of_ble_eq_true rfl) (fun x hO hR hN => rX12_feed_0 hO hR hN ?_)
  have q8 : (1 ≤ x3 ∧ x3 ≤ 8) ↔ ∃ n, 1 ≤ n ∧ n ≤ 8 ∧ x3 = nI n := n1x (N := 8) (by decide)
  rw [zwr_id h0, q8, hL]
  refine ⟨fun q => ?_, fun q => ⟨Or.inr ⟨q, rfl, rfl⟩, rfl⟩⟩
  obtain ⟨n, hn1, hn8, rfl⟩ := q
  have e5 : (nI L + nI n ≤ 500) ↔ L + n ≤ 500 := by rw [nI_add]; exact nI_leI (b := 500) (by omega) (by omega)
  rw [e5]
  refine ⟨fun q => ?_, fun q => ⟨Or.inl ⟨n, hn1, hn8, rfl, Or.inl ⟨by omega, rfl, rfl⟩⟩, rfl⟩⟩
  have key : ∀ k L' (im1 : zMem), k + L' = L + n → im1 43 0 17 = nI L' → fdM y1 k L' im1 = fdM y1 n L im → ∀ x4 : Int32, x4 = nI k - 1 → zW x w 40 [(0, vR 43 0), (1, vL y1), (3, vI (nI n)), (4, vI x4)] [] im1 lv := by
    intro k
    induction k with
    | zero =>
      intro L' im1 hk h17 e x4 hx4
      have : L' = L + n := by omega
      subst this
      refine rX12_feed_40 hO hR hN ?_
      rw [hx4, h17]
      exact ⟨fun _ => ⟨Or.inl ⟨n, hn1, hn8, rfl, Or.inr ⟨q, rfl, e⟩⟩, rfl⟩, fun z => absurd (by decide) z⟩
    | succ k ih =>
      intro L' im1 hk h17 e x4 hx4
      have hx : x4 = nI k := by rw [hx4]; exact nI_pred k
      refine rX12_feed_40 hO hR hN ?_
      have cL : Int32.toNatClampNeg (nI L') = L' := nI_clamp (by omega)
      rw [hx, h17, cL, nI_1]
      refine ⟨fun z => absurd z (nI_pos (by omega)), fun _ => ⟨vp_in_nI (by omega) (by decide), ?_⟩⟩
      exact ih (L' + 1) _ (by omega) (by rw [zwr_eq]) e _ (Int32.sub_eq_add_neg _ _).symm
  exact key n L im (by omega) hL rfl _ rfl

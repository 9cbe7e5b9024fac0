theorem wI {b : Nat} (hb : b < 2 ^ 31) : Int32.toInt64 (nI b) = Int64.ofNat b := by
  apply Int64.toInt_inj.mp
  show (Int32.toInt64 (Int32.ofNat b)).toInt = _
  rw [Int32.toInt_toInt64, Int32.toInt_ofNat_of_lt hb, Int64.toInt_ofNat_of_lt (by omega)]
theorem w8 {v b : Nat} (hv : v < 2 ^ 40) (hb : b < 256) : ((Int64.ofNat v <<< (Int32.toInt64 8 &&& 63)) ||| Int32.toInt64 (nI b)) = Int64.ofNat (256 * v + b) := by
  have h8 : (Int32.toInt64 8 &&& 63) = 8 := by decide
  rw [h8, wI (by omega)]
  apply Int64.toBitVec_inj.mp
  have e : ((Int64.toBitVec 8).smod 64) = 8#64 := by decide
  rw [Int64.toBitVec_or, Int64.toBitVec_shiftLeft, e]
  apply BitVec.eq_of_toNat_eq
  show ((BitVec.ofNat 64 v <<< 8#64) ||| BitVec.ofNat 64 b).toNat = (BitVec.ofNat 64 (256 * v + b)).toNat
  rw [BitVec.toNat_or, BitVec.shiftLeft_eq', BitVec.toNat_shiftLeft, BitVec.toNat_ofNat, BitVec.toNat_ofNat, BitVec.toNat_ofNat, BitVec.toNat_ofNat]
  rw [Nat.mod_eq_of_lt (show v < 2 ^ 64 by omega), Nat.mod_eq_of_lt (show b < 2 ^ 64 by omega), Nat.mod_eq_of_lt (show 256 * v + b < 2 ^ 64 by omega)]
  rw [show 8 % 2 ^ 64 = 8 from rfl, Nat.mod_eq_of_lt (by rw [Nat.shiftLeft_eq]; omega), ← Nat.shiftLeft_add_eq_or_of_lt (by omega), Nat.shiftLeft_eq]
  omega
/-- where the reference's reader stands -/
def RS (m im : zMem) (s : Nat × Nat) : Prop := RdR m im ∧ TkR m im s.1 ∧ im 43 0 24 = nI s.2 ∧ (¬ s.2 = 0 → im 43 0 25 = nI s.1) ∧ s.1 ≤ tn m ∧ s.2 ≤ 4
/-- what is changed elsewhere doesn't touch it -/
theorem RS.fr {m im im' : zMem} {s : Nat × Nat} (h : RS m im s) (h55 : im' 55 = im 55) (h43 : ∀ k, 19 ≤ k → k ≤ 25 → im' 43 0 k = im 43 0 k) : RS m im' s := by
  obtain ⟨⟨a, b⟩, ⟨c1, c2, c3, c4⟩, d, e, f, g⟩ := h
  refine ⟨⟨h55.trans a, (h43 19 (by decide) (by decide)).trans b⟩, ⟨?_, ?_, ?_, ?_⟩, ?_, fun z => ?_, f, g⟩
  · exact (h43 20 (by decide) (by decide)).trans c1
  · exact (h43 21 (by decide) (by decide)).trans c2
  · exact (h43 22 (by decide) (by decide)).trans c3
  · exact (h43 23 (by decide) (by decide)).trans c4
  · exact (h43 24 (by decide) (by decide)).trans d
  · exact (h43 25 (by decide) (by decide)).trans (e z)
theorem RS.wr {m im : zMem} {s : Nat × Nat} (h : RS m im s) {r k : Nat} {v : Int32} (h55 : ¬ r = 55) (h43 : ¬ (r = 43 ∧ 19 ≤ k ∧ k ≤ 25)) : RS m (zwr im r 0 k v) s :=
  h.fr (zwr_r (fun z => h55 z.symm)) (fun j h1 h2 => by rw [zwr_app, if_neg (by omega)])
def bdS (k : Nat) (s : Nat × Nat) : Nat × Nat := if s.2 = 0 then (s.1, k) else s
theorem C_X12_bad (l : Launch) (w : zWd) {m im : zMem} (lv : Int64) {s : Nat × Nat} (hS : RS m im s) {k : Nat} (hk1 : 1 ≤ k) (hk : k ≤ 4) {x1 : Int32} (hx : x1 = nI k) : zSpecV l w 2 zyX12_bad [vR 43 0, vI x1] im lv (fun im' lv' => (f43 20 25 im im' ∧ RS m im' (bdS k s)) ∧ lv' = lv) := by
  refine ze_V (by decide) (Nat.le_of_ble_eq_true rfl) (fun x hO hR hN => rX12_bad_0 hO hR hN ?_)
  subst hx
  have hS' := hS
  obtain ⟨a, b, d, e, f, g⟩ := hS
  rw [d, show (0 : Int32) = nI 0 from rfl, nI_eq (by omega) (by decide)]
  unfold bdS
  refine ⟨fun z => ⟨⟨Fr.refl, ?_⟩, rfl⟩, fun z => ⟨⟨?_, ?_⟩, rfl⟩⟩
  · rw [if_neg z]; exact hS'
  · exact (f43.refl.wr (by omega)).wr (by omega)
  · rw [if_pos z]
    refine ⟨⟨?_, ?_⟩, ⟨?_, ?_, ?_, ?_⟩, ?_, fun _ => ?_, f, hk⟩
    · rw [zwr_r (by decide), zwr_r (by decide)]; exact a.1
    · rw [zwk (by decide), zwk (by decide)]; exact a.2
    · rw [zwk (by decide), zwk (by decide)]; exact b.1
    · rw [zwk (by decide), zwk (by decide)]; exact b.2.1
    · rw [zwk (by decide), zwk (by decide)]; exact b.2.2.1
    · rw [zwk (by decide), zwk (by decide)]; exact b.2.2.2
    · rw [zwk (by decide), zwr_eq]
    · rw [zwr_eq]; exact b.2.2.1
/-- a step behind a token -/
theorem stepR (l : Launch) (w : zWd) {m im : zMem} (lv : Int64) (hT : WT m) {a : Nat} (hS : RS m im (a, 0)) : ∃ P1 : zMem → Int64 → Prop, zSpecV l w 3 zyX12_step [vR 43 0] im lv P1 ∧ ∀ im' lv', P1 im' lv' → (f43 20 25 im im' ∧ RS m im' (nx m a, 0)) ∧ lv' = lv := by
  obtain ⟨h1, b, d, e, f, g⟩ := hS
  have hle := te_le f
  refine ⟨_, C_X12_step l w lv hT h1 b.1 hle, ?_⟩
  rintro im' lv' ⟨⟨g1, g2⟩, rfl⟩
  exact ⟨⟨g1.wid (by omega), h1.fr g1 (by decide), g2, (g1 43 0 24 (by omega)).trans d, fun z => absurd rfl z, nx_le f, Nat.zero_le 4⟩, rfl⟩
theorem C_X12_need (l : Launch) (w : zWd) {m im : zMem} (lv : Int64) (hT : WT m) {s : Nat × Nat} (hS : RS m im s) (so : Prop) [Decidable so] {x1 : Int32} (hx : x1 = 0 ↔ ¬ so) : zSpecV l w 4 zyX12_need [vR 43 0, vI x1] im lv (fun im' lv' => (f43 20 25 im im' ∧ RS m im' (ndS m so s)) ∧ lv' = lv) := by
  refine ze_V (by decide) (Nat.le_of_ble_eq_true rfl) (fun x hO hR hN => rX12_need_0 hO hR hN ?_)
  have h24 : im 43 0 24 = nI s.2 := hS.2.2.1
  have hs4 : s.2 ≤ 4 := hS.2.2.2.2.2
  have e0 : nI s.2 = 0 ↔ s.2 = 0 := nI_eq (b := 0) (by omega) (by decide)
  rw [hx]
  refine ⟨fun z => ?_, fun z => ?_⟩
  · have z : so := Classical.not_not.mp z
    rw [h24, e0]
    refine ⟨fun y => ⟨⟨Fr.refl, ?_⟩, rfl⟩, fun y => ?_⟩
    · unfold ndS; rw [if_neg y]; exact hS
    · obtain ⟨a, ft⟩ := s
      have y : ft = 0 := y
      subst y
      obtain ⟨P1, p1, p2⟩ := stepR x.2.1 w lv hT hS
      refine ⟨P1, p1, fun im1 lv1 h => ?_⟩
      obtain ⟨⟨g1, g2⟩, rfl⟩ := p2 im1 lv1 h
      refine ⟨⟨g1, ?_⟩, rfl⟩
      unfold ndS
      rw [if_pos rfl, if_pos z]
      exact g2
  · refine ⟨_, C_X12_bad _ _ _ hS (k := 1) (by decide) (by decide) rfl, ?_⟩
    rintro im1 lv1 ⟨⟨g1, g2⟩, rfl⟩
    have hb : (bdS 1 s).2 ≠ 0 := by
      unfold bdS
      split
      · exact Nat.one_ne_zero
      · assumption
    have hb4 : (bdS 1 s).2 ≤ 4 := g2.2.2.2.2.2
    have e1 : im1 43 0 24 = 0 ↔ (bdS 1 s).2 = 0 := by rw [g2.2.2.1]; exact nI_eq (b := 0) (by omega) (by decide)
    rw [e1]
    refine ⟨fun _ => ⟨⟨g1, ?_⟩, rfl⟩, fun y => absurd y hb⟩
    unfold ndS
    unfold bdS at g2
    by_cases y : s.2 = 0
    · rw [if_pos y] at g2 ⊢
      rw [if_neg z]
      exact g2
    · rw [if_neg y] at g2 ⊢
      exact g2
theorem cod_le {m : zMem} {a : Nat} : cod m a ≤ 4 := by
  unfold cod
  split <;> decide
theorem cod_k {m : zMem} {a : Nat} : (cod m a = 2 ↔ kd m a = 1) ∧ (cod m a = 3 ↔ kd m a = 2) ∧ (cod m a = 4 ↔ kd m a = 3 ∨ kd m a = 4) ∧ (cod m a = 1 ↔ kd m a = 0) := by
  unfold cod
  have := kd_le (m := m) (a := a)
  generalize kd m a = k at *
  have : k = 0 ∨ k = 1 ∨ k = 2 ∨ k = 3 ∨ k = 4 ∨ k = 5 ∨ k = 6 := by omega
  rcases this with rfl | rfl | rfl | rfl | rfl | rfl | rfl <;> decide
theorem kd_34 {m : zMem} {a : Nat} : (kd m a = 3 → tb m a = 44) ∧ (kd m a = 4 → tb m a = 59) := by
  unfold kd
  refine ⟨fun h => ?_, fun h => ?_⟩
  · split at h
    · split at h
      · split at h <;> omega
      · split at h
        · split at h <;> omega
        · split at h
          · assumption
          · split at h <;> omega
    · omega
  · split at h
    · split at h
      · split at h <;> omega
      · split at h
        · split at h <;> omega
        · split at h
          · omega
          · split at h
            · assumption
            · omega
    · omega
theorem C_X12_is (l : Launch) (w : zWd) {m im : zMem} (lv : Int64) (hT : WT m) {s : Nat × Nat} (hS : RS m im s) {c k : Nat} (hk : (c = 44 ∧ k = 3) ∨ (c = 59 ∧ k = 4)) {x1 : Int32} (hx : x1 = nI c) : zSpecI l w 2 zyX12_is [vR 43 0, vI x1] im lv (fun v im' lv' => v = vB (kd m s.1 = k) ∧ im' = im ∧ lv' = lv) := by
  refine ze_I (by decide) (Nat.le_of_ble_eq_true rfl) (fun x hO hR hN => rX12_is_0 hO hR hN ?_)
  subst hx
  have h5 := hT.1.2
  have hc4 := cod_le (m := m) (a := s.1)
  have e4 : im 43 0 21 = 4 ↔ cod m s.1 = 4 := by rw [hS.2.1.2.1]; exact nI_eq (b := 4) (by omega) (by decide)
  rw [e4, cod_k.2.2.1, hS.2.1.2.2.1]
  refine ⟨fun z => ⟨?_, rfl, rfl⟩, fun z => ?_⟩
  · unfold vB; rw [if_neg (by omega)]
  · have hlt := kd_lt (m := m) (a := s.1) (by omega)
    have hb := hT.2 s.1 hlt
    rw [nI_clamp (by omega), hS.1.1, hb.1, nI_eq (by omega) (by omega)]
    have h3 := (kd_34 (m := m) (a := s.1)).1
    have h4 := (kd_34 (m := m) (a := s.1)).2
    refine ⟨vp_in_nI (by omega) (by decide), fun y => ⟨?_, rfl, rfl⟩, fun y => ⟨?_, rfl, rfl⟩⟩
    · unfold vB; rw [if_neg (by omega)]
    · unfold vB; rw [if_pos (by omega)]
theorem wvP_lt {m : zMem} (hb : ∀ j, j < tn m → tb m j ≤ 255) : ∀ k a v, a + k ≤ tn m → wvP m k a v < (v + 1) * 256 ^ k
  | 0, a, v, _ => by rw [wvP]; omega
  | k + 1, a, v, h => by
    have h1 := wvP_lt hb k (a + 1) (256 * v + tb m a) (by omega)
    have h2 := hb a (by omega)
    rw [wvP, Nat.pow_succ]
    refine Nat.lt_of_lt_of_le h1 ?_
    rw [Nat.mul_comm (256 ^ k) 256, ← Nat.mul_assoc]
    exact Nat.mul_le_mul_right _ (by omega)
theorem C_X12_word (l : Launch) (w : zWd) {m im : zMem} (lv : Int64) (hT : WT m) {s : Nat × Nat} (hS : RS m im s) : zSpecL l w 2 zyX12_word [vR 43 0] im lv (fun v im' lv' => v = Int64.ofNat (wd m s.1) ∧ im' = im ∧ lv' = lv) := by
  refine ze_L (by decide) (Nat.le_of_ble_eq_true rfl) (fun x hO hR hN => rX12_word_0 hO hR hN ?_)
  have h5 := hT.1.2
  have hc4 := cod_le (m := m) (a := s.1)
  have hle := te_le hS.2.2.2.2.1
  have hge := te_ge m s.1
  have e2 : im 43 0 21 = 2 ↔ kd m s.1 = 1 := by rw [hS.2.1.2.1, ← cod_k.1]; exact nI_eq (b := 2) (by omega) (by decide)
  have key : ∀ n a v, n + a = te m s.1 → s.1 ≤ a → (kd m s.1 = 1 → v < 256 ^ (a - s.1) ∧ wvP m n a v = wd m s.1) → (¬ kd m s.1 = 1 → v = 0) → zW x w 7 [(0, vR 43 0), (1, vL (Int64.ofNat v)), (3, vI (nI a))] [] im lv := by
    intro n
    induction n with
    | zero =>
      intro a v hn ha h1 h2
      refine rX12_word_7 hO hR hN ?_
      rw [hS.2.1.2.2.2, nI_leI (by omega) (by omega)]
      refine ⟨fun _ => ⟨?_, rfl, rfl⟩, fun z => absurd (by omega) z⟩
      by_cases hk : kd m s.1 = 1
      · rw [← (h1 hk).2]; rfl
      · rw [h2 hk]; unfold wd; rw [if_neg hk]
    | succ n ih =>
      intro a v hn ha h1 h2
      refine rX12_word_7 hO hR hN ?_
      rw [hS.2.1.2.2.2, nI_leI (by omega) (by omega), e2, nI_clamp (by omega), nI_1, hS.1.1, (hT.2 a (by omega)).1]
      refine ⟨fun z => by omega, fun _ => ⟨fun hk => ⟨?_, rfl, rfl⟩, fun hk => ⟨vp_in_nI (by omega) (by decide), ?_⟩⟩⟩
      · rw [h2 hk]; unfold wd; rw [if_neg hk]
      · obtain ⟨g1, g2⟩ := h1 hk
        have h6 := (kd_1.mp hk).2.2
        have hb := (hT.2 a (by omega)).2
        have hp : 256 ^ (a - s.1) ≤ 256 ^ 5 := Nat.pow_le_pow_right (by decide) (by omega)
        rw [w8 (by omega) (by omega)]
        refine ih (a + 1) _ (by omega) (by omega) (fun _ => ⟨?_, g2⟩) (fun z => absurd hk z)
        rw [show a + 1 - s.1 = (a - s.1) + 1 by omega, Nat.pow_succ]
        omega
  have := key (te m s.1 - s.1) s.1 0 (by omega) (Nat.le_refl _) (fun hk => ⟨by rw [Nat.sub_self]; decide, by unfold wd; rw [if_pos hk]⟩) (fun _ => rfl)
  rw [hS.2.1.2.2.1]
  exact this
theorem nvP_lt {m : zMem} {a : Nat} (h : kd m a = 2) : ∀ k b v, a ≤ b → b + k = te m a → nvP m k b v < (v + 1) * 10 ^ k ∧ ∀ j, a ≤ j → j < te m a → 48 ≤ tb m j ∧ tb m j ≤ 57 := by
  obtain ⟨g1, g2, g3⟩ := kd_2.mp h
  have all : ∀ j, a ≤ j → j < te m a → 48 ≤ tb m j ∧ tb m j ≤ 57 := fun j h1 h2 => by
    rw [te_F g1 g2] at h2
    have := rnP_all (p := bF) (m := m) _ a j h1 h2
    unfold bF at this
    rw [decide_eq_true_eq] at this
    exact this
  intro k
  induction k with
  | zero => intro b v _ _; exact ⟨by rw [nvP]; omega, all⟩
  | succ k ih =>
    intro b v hb hk
    refine ⟨?_, all⟩
    have h1 := (ih (b + 1) (10 * v + tb m b - 48) (by omega) (by omega)).1
    have h2 := all b hb (by omega)
    rw [nvP, Nat.pow_succ]
    refine Nat.lt_of_lt_of_le h1 ?_
    rw [Nat.mul_comm (10 ^ k) 10, ← Nat.mul_assoc]
    exact Nat.mul_le_mul_right _ (by omega)
theorem nv_le {m : zMem} {a : Nat} (h : kd m a = 2) : nv m a ≤ 999 := by
  have hge := te_ge m a
  have h1 := (nvP_lt h (te m a - a) a 0 (Nat.le_refl _) (by omega)).1
  have h2 : 10 ^ (te m a - a) ≤ 10 ^ 3 := Nat.pow_le_pow_right (by decide) (kd_2.mp h).2.2
  unfold nv
  omega
theorem C_X12_numberIn (l : Launch) (w : zWd) {m im : zMem} (lv : Int64) (hT : WT m) {s : Nat × Nat} (hS : RS m im s) {lo hi : Nat} {x1 x2 : Int32} (hx : s.2 = 0 → x1 = nI lo ∧ x2 = nI hi ∧ lo < 1000 ∧ hi < 1000) : zSpecI l w 5 zyX12_numberIn [vR 43 0, vI x1, vI x2] im lv (fun v im' lv' => (f43 20 25 im im' ∧ RS m im' (nmS m lo hi s) ∧ ((nmS m lo hi s).2 = 0 → v = nI (nv m s.1))) ∧ lv' = lv) := by
  refine ze_I (by decide) (Nat.le_of_ble_eq_true rfl) (fun x hO hR hN => rX12_numberIn_0 hO hR hN ?_)
  obtain ⟨a, ft⟩ := s
  have h4 : ft ≤ 4 := hS.2.2.2.2.2
  have e0 : im 43 0 24 ≤ 0 ↔ ft = 0 := by rw [hS.2.2.1, show (0 : Int32) = nI 0 from rfl, nI_leI (by omega) (by decide)]; dsimp only; omega
  rw [e0]
  refine ⟨fun z => ?_, fun z => ⟨⟨Fr.refl, ?_, ?_⟩, rfl⟩⟩
  rotate_left
  · unfold nmS; rw [if_neg z]; exact hS
  · unfold nmS; rw [if_neg z]; exact fun y => absurd y z
  subst z
  obtain ⟨rfl, rfl, hlo, hhi⟩ := hx rfl
  have h5 := hT.1.2
  have hale : a ≤ tn m := hS.2.2.2.2.1
  have hc4 := cod_le (m := m) (a := a)
  have hle := te_le hale
  have hge := te_ge m a
  have e3 : ∀ {im' : zMem} {s'}, RS m im' (a, s') → (im' 43 0 21 = 3 ↔ kd m a = 2) := fun h => by
    have h21 : _ = nI (cod m a) := h.2.1.2.1
    rw [h21, ← cod_k.2.1]; exact nI_eq (b := 3) (by omega) (by decide)
  have e23 : im 43 0 23 = nI (te m a) := hS.2.1.2.2.2
  -- the end
  have fin0 : ¬ kd m a = 2 → (∃ P1 : zMem → Int64 → Prop, zSpecV x.2.1 w 4 zyX12_need [vR 43 0, vI 0] im lv P1 ∧ ∀ (im1 : zMem) (lv1 : Int64), P1 im1 lv1 → ∀ v : Int32, (f43 20 25 im im1 ∧ RS m im1 (nmS m lo hi (a, 0)) ∧ ((nmS m lo hi (a, 0)).2 = 0 → v = nI (nv m a))) ∧ lv1 = lv) := by
    intro hk
    refine ⟨_, C_X12_need _ _ _ hT hS False (by simp), ?_⟩
    rintro im1 lv1 ⟨⟨g1, g2⟩, rfl⟩ v
    have hn : nmS m lo hi (a, 0) = (a, 1) := by unfold nmS; rw [if_pos rfl, if_neg hk]
    have hd : ndS m False (a, 0) = (a, 1) := by unfold ndS; rw [if_pos rfl, if_neg (fun z => z)]
    rw [hd] at g2
    rw [hn]
    exact ⟨⟨g1, g2, fun z => absurd z Nat.one_ne_zero⟩, rfl⟩
  have key : ∀ n b v, n + b = te m a → a ≤ b → (kd m a = 2 → v < 10 ^ (b - a) ∧ nvP m n b v = nv m a) → (¬ kd m a = 2 → v = 0) → zW x w 17 [(0, vR 43 0), (1, vI (nI lo)), (2, vI (nI hi)), (3, vI (nI v)), (4, vI (nI b))] [] im lv := by
    intro n
    induction n with
    | zero =>
      intro b v hn hb h1 h2
      refine rX12_numberIn_17 hO hR hN ?_
      rw [e23, nI_leI (by omega) (by omega), e3 hS]
      refine ⟨fun _ => ⟨fun hk => ?_, fun hk => ?_⟩, fun z => absurd (by omega) z⟩
      · obtain ⟨P1, p1, p2⟩ := fin0 hk
        exact ⟨P1, p1, fun im1 lv1 h => p2 im1 lv1 h _⟩
      · have hv : v = nv m a := (h1 hk).2
        have hv9 := nv_le hk
        rw [nI_leI (by omega) (by omega), nI_leI (by omega) (by omega), hv]
        refine ⟨fun y => ?_, fun y => ?_⟩
        · refine ⟨_, C_X12_need _ _ _ hT hS True (by simp), ?_⟩
          rintro im1 lv1 ⟨⟨g1, g2⟩, rfl⟩
          have hn : nmS m lo hi (a, 0) = (nx m a, 0) := by unfold nmS; rw [if_pos rfl, if_pos hk, if_pos y]
          have hd : ndS m True (a, 0) = (nx m a, 0) := by unfold ndS; rw [if_pos rfl, if_pos trivial]
          rw [hd] at g2
          rw [hn]
          exact ⟨⟨g1, g2, fun _ => rfl⟩, rfl⟩
        · refine ⟨_, C_X12_bad _ _ _ hS (k := 2) (by decide) (by decide) rfl, ?_⟩
          rintro im1 lv1 ⟨⟨g1, g2⟩, rfl⟩
          have hd : bdS 2 (a, 0) = (a, 2) := by unfold bdS; rw [if_pos rfl]
          rw [hd] at g2
          rw [e3 g2]
          refine ⟨fun z => absurd hk z, fun _ => ⟨_, C_X12_need _ _ _ hT g2 True (by simp), ?_⟩⟩
          rintro im2 lv2 ⟨⟨g3, g4⟩, rfl⟩
          have hn : nmS m lo hi (a, 0) = (a, 2) := by unfold nmS; rw [if_pos rfl, if_pos hk, if_neg y]
          have hd : ndS m True (a, 2) = (a, 2) := by unfold ndS; rw [if_neg (by simp)]
          rw [hd] at g4
          rw [hn]
          exact ⟨⟨g1.trans g3, g4, fun z => absurd z (by simp)⟩, rfl⟩
    | succ n ih =>
      intro b v hn hb h1 h2
      refine rX12_numberIn_17 hO hR hN ?_
      rw [e23, nI_leI (by omega) (by omega), e3 hS]
      refine ⟨fun z => by omega, fun _ => ⟨fun hk => ?_, fun hk => ⟨vp_in_nI (by omega) (by decide), ?_⟩⟩⟩
      · obtain ⟨P1, p1, p2⟩ := fin0 hk
        exact ⟨P1, p1, fun im1 lv1 h => p2 im1 lv1 h _⟩
      · obtain ⟨g1, g2⟩ := h1 hk
        have h3 := (kd_2.mp hk).2.2
        have hd := (nvP_lt hk (te m a - a) a 0 (Nat.le_refl _) (by omega)).2 b hb (by omega)
        have hp : 10 ^ (b - a) ≤ 10 ^ 3 := Nat.pow_le_pow_right (by decide) (by omega)
        have ev : (10 : Int32) * nI v + im 55 0 (Int32.toNatClampNeg (nI b)) - 48 = nI (10 * v + tb m b - 48) := by
          rw [nI_clamp (by omega), hS.1.1, (hT.2 b (by omega)).1, show (10 : Int32) * nI v = nI (10 * v) from pk_mul 10 v, nI_add]
          exact pk_sub (b := 48) (by omega)
        rw [ev, nI_1]
        refine ih (b + 1) _ (by omega) (by omega) (fun _ => ⟨?_, g2⟩) (fun z => absurd hk z)
        rw [show b + 1 - a = (b - a) + 1 by omega, Nat.pow_succ]
        omega
  have := key (te m a - a) a 0 (by omega) (Nat.le_refl _) (fun hk => ⟨by rw [Nat.sub_self]; decide, rfl⟩) (fun _ => rfl)
  have e22 : im 43 0 22 = nI a := hS.2.1.2.2.1
  rw [e22]
  exact this

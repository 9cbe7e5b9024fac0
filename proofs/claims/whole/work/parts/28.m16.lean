def TkR (m im : zMem) (a : Nat) : Prop := im 43 0 20 = nI (te m a) ∧ im 43 0 21 = nI (cod m a) ∧ im 43 0 22 = nI a ∧ im 43 0 23 = nI (te m a)
def RdR (m im : zMem) : Prop := im 55 = m 55 ∧ im 43 0 19 = nI (tn m)
/-- nothing but S is changed -/
def Fr (S : Nat → Nat → Nat → Prop) (im im' : zMem) : Prop := ∀ r i k, ¬ S r i k → im' r i k = im r i k
theorem Fr.refl {S : Nat → Nat → Nat → Prop} {im : zMem} : Fr S im im := fun _ _ _ _ => rfl
theorem Fr.trans {S : Nat → Nat → Nat → Prop} {a b c : zMem} (h1 : Fr S a b) (h2 : Fr S b c) : Fr S a c := fun r i k h => (h2 r i k h).trans (h1 r i k h)
theorem Fr.mono {S S' : Nat → Nat → Nat → Prop} {a b : zMem} (h1 : Fr S a b) (h : ∀ r i k, S r i k → S' r i k) : Fr S' a b := fun r i k hk => h1 r i k (fun z => hk (h r i k z))
theorem Fr.wr {S : Nat → Nat → Nat → Prop} {a b : zMem} (h1 : Fr S a b) {r i k : Nat} {v : Int32} (h : S r i k) : Fr S a (zwr b r i k v) := fun r' i' k' hk => by
  rw [zwr_app, if_neg (fun z => by obtain ⟨rfl, rfl, rfl⟩ := z; exact hk h)]
  exact h1 r' i' k' hk
theorem Fr.row {S : Nat → Nat → Nat → Prop} {a b : zMem} (h1 : Fr S a b) {r : Nat} (h : ∀ i k, ¬ S r i k) : b r = a r := by
  funext i k
  exact h1 r i k (h i k)
abbrev f43 (lo hi : Nat) (im im' : zMem) : Prop := Fr (fun r _ k => r = 43 ∧ lo ≤ k ∧ k ≤ hi) im im'
theorem f43.refl {lo hi : Nat} {im : zMem} : f43 lo hi im im := fun _ _ _ _ => rfl
theorem f43.trans {lo hi : Nat} {a b c : zMem} (h1 : f43 lo hi a b) (h2 : f43 lo hi b c) : f43 lo hi a c := Fr.trans h1 h2
theorem f43.wid {lo hi lo' hi' : Nat} {a b : zMem} (h1 : f43 lo hi a b) (h : lo' ≤ lo ∧ hi ≤ hi') : f43 lo' hi' a b := Fr.mono h1 (fun r i k z => by omega)
theorem f43.wr {lo hi : Nat} {a b : zMem} (h1 : f43 lo hi a b) {k : Nat} {v : Int32} (h : lo ≤ k ∧ k ≤ hi) : f43 lo hi a (zwr b 43 0 k v) := Fr.wr h1 ⟨rfl, h⟩
theorem RdR.fr {m im im' : zMem} {lo hi : Nat} (h : RdR m im) (hf : f43 lo hi im im') (hl : ¬ (lo ≤ 19 ∧ 19 ≤ hi)) : RdR m im' := ⟨(Fr.row hf (fun _ _ z => absurd z.1 (by decide))).trans h.1, (hf 43 0 19 (fun z => hl z.2)).trans h.2⟩
theorem zwk {im : zMem} {i k k' : Nat} {v : Int32} (h : ¬ k' = k) : zwr im 43 i k v 43 i k' = im 43 i k' := zwr_k h
def bv (m : zMem) (a : Nat) : Int32 := if a < tn m then nI (tb m a) else -1000000
theorem bvE {m : zMem} (hT : WT m) {a k : Nat} (hk : k < 2 ^ 31) : bv m a = nI k ↔ a < tn m ∧ tb m a = k := by
  unfold bv
  by_cases h : a < tn m
  · have := hT.2 a h
    rw [if_pos h, nI_eq (by omega) hk]
    exact ⟨fun z => ⟨h, z⟩, fun z => z.2⟩
  · rw [if_neg h]
    exact ⟨fun z => absurd z.symm (zOb hk), fun z => absurd z.1 h⟩
theorem bvR {m : zMem} (hT : WT m) {a lo hi : Nat} (h1 : 1 ≤ lo) (hk : hi < 2 ^ 31) (hlo : lo < 2 ^ 31) : (nI lo ≤ bv m a ∧ bv m a ≤ nI hi) ↔ a < tn m ∧ lo ≤ tb m a ∧ tb m a ≤ hi := by
  unfold bv
  by_cases h : a < tn m
  · have := hT.2 a h
    rw [if_pos h, nI_leI (by omega) (by omega), nI_leI (by omega) (by omega)]
    exact ⟨fun z => ⟨h, z⟩, fun z => z.2⟩
  · rw [if_neg h]
    constructor
    · rintro ⟨z, -⟩
      exfalso
      rw [Int32.le_iff_toInt_le, nI_toInt hlo] at z
      have : (-1000000 : Int32).toInt = -1000000 := rfl
      omega
    · exact fun z => absurd z.1 h
theorem bvL {m : zMem} (hT : WT m) {a : Nat} : (97 ≤ bv m a ∧ bv m a ≤ 122) ↔ a < tn m ∧ bL (tb m a) = true := by
  have := bvR hT (a := a) (lo := 97) (hi := 122) (by decide) (by decide) (by decide)
  unfold bL
  rw [decide_eq_true_eq]
  exact this
theorem bvF {m : zMem} (hT : WT m) {a : Nat} : (48 ≤ bv m a ∧ bv m a ≤ 57) ↔ a < tn m ∧ bF (tb m a) = true := by
  have := bvR hT (a := a) (lo := 48) (hi := 57) (by decide) (by decide) (by decide)
  unfold bF
  rw [decide_eq_true_eq]
  exact this
theorem bvN {m : zMem} (hT : WT m) {a : Nat} : bv m a = -1000000 ↔ ¬ a < tn m := by
  unfold bv
  by_cases h : a < tn m
  · have := hT.2 a h
    rw [if_pos h]
    exact ⟨fun z => absurd z (zOb (by omega)), fun z => absurd h z⟩
  · rw [if_neg h]
    exact ⟨fun _ => h, fun _ => rfl⟩
theorem C_X12_byteAt (l : Launch) (w : zWd) {m im : zMem} (lv : Int64) (hT : WT m) (hD : RdR m im) {a : Nat} (ha : a ≤ 500) : zSpecI l w 2 zyX12_byteAt [vR 43 0, vI (nI a)] im lv (fun v im' lv' => v = bv m a ∧ im' = im ∧ lv' = lv) := by
  refine ze_I (by decide) (Nat.le_of_ble_eq_true rfl) (fun x hO hR hN => rX12_byteAt_0 hO hR hN ?_)
  have h5 := hT.1.2
  rw [hD.2, nI_leI (by omega) (by omega), nI_clamp (by omega), hD.1]
  refine ⟨fun z => ⟨?_, rfl, rfl⟩, fun z => ⟨vp_in_nI (by omega) (by decide), ?_, rfl, rfl⟩⟩
  · unfold bv; rw [if_neg (by omega)]
  · unfold bv; rw [if_pos (by omega)]; exact (hT.2 a (by omega)).1
theorem nI_lit6 {a : Nat} (h : a < 2 ^ 31) {k : Nat} (hk : k < 2 ^ 31) : (nI a ≤ nI k) ↔ a ≤ k := nI_leI h hk
theorem cod_L {m : zMem} {a : Nat} (h : a < tn m) (h2 : bL (tb m a) = true) : cod m a = if te m a - a ≤ 6 then 2 else 0 := by
  unfold cod kd
  rw [if_pos h, if_pos h2]
  by_cases h3 : te m a - a ≤ 6
  · rw [if_pos h3, if_pos h3]; rfl
  · rw [if_neg h3, if_neg h3]; rfl
theorem cod_F {m : zMem} {a : Nat} (h : a < tn m) (h2 : bF (tb m a) = true) : cod m a = if te m a - a ≤ 3 then 3 else 0 := by
  unfold cod kd
  rw [if_pos h, if_neg (fun z => bLF z h2), if_pos h2]
  by_cases h3 : te m a - a ≤ 3
  · rw [if_pos h3, if_pos h3]; rfl
  · rw [if_neg h3, if_neg h3]; rfl
theorem cod_O {m : zMem} {a : Nat} (h : a < tn m) (h1 : ¬ bL (tb m a) = true) (h2 : ¬ bF (tb m a) = true) : cod m a = if tb m a = 59 ∨ tb m a = 44 then 4 else 0 := by
  unfold cod kd
  rw [if_pos h, if_neg h1, if_neg h2]
  by_cases h44 : tb m a = 44
  · rw [if_pos h44, if_pos (Or.inr h44)]; rfl
  · rw [if_neg h44]
    by_cases h59 : tb m a = 59
    · rw [if_pos h59, if_pos (Or.inl h59)]; rfl
    · rw [if_neg h59, if_neg (by omega)]; rfl
theorem C_X12_step (l : Launch) (w : zWd) {m im : zMem} (lv : Int64) (hT : WT m) (hD : RdR m im) {c : Nat} (hc : im 43 0 20 = nI c) (hcn : c ≤ tn m) : zSpecV l w 3 zyX12_step [vR 43 0] im lv (fun im' lv' => (f43 20 23 im im' ∧ TkR m im' (sk m c)) ∧ lv' = lv) := by
  refine ze_V (by decide) (Nat.le_of_ble_eq_true rfl) (fun x hO hR hN => ?_)
  have h5 := hT.1.2
  have hsle := sk_le hcn
  have out : ∀ (im1 : zMem), f43 20 23 im im1 → im1 43 0 22 = nI (sk m c) → im1 43 0 20 = nI (te m (sk m c)) → ∀ k, k = cod m (sk m c) → (f43 20 23 im (zwr (zwr im1 43 0 21 (nI k)) 43 0 23 (im1 43 0 20)) ∧ TkR m (zwr (zwr im1 43 0 21 (nI k)) 43 0 23 (im1 43 0 20)) (sk m c)) ∧ lv = lv := by
    intro im1 h1 h2 h3 k hk
    refine ⟨⟨(h1.wr (by omega)).wr (by omega), ?_, ?_, ?_, ?_⟩, rfl⟩
    · rw [zwk (by decide), zwk (by decide)]; exact h3
    · rw [zwk (by decide), zwr_eq, hk]
    · rw [zwk (by decide), zwk (by decide)]; exact h2
    · rw [zwr_eq]; exact h3
  have k77 : ∀ n d (im1 : zMem) (x1 : Int32), n + d = tn m → sk m c < tn m → bL (tb m (sk m c)) = true → f43 20 23 im im1 → im1 43 0 22 = nI (sk m c) → im1 43 0 20 = nI d → sk m c ≤ d → rnE bL m d = te m (sk m c) → zW x w 77 [(0, vR 43 0), (1, vI x1)] [] im1 lv := by
    intro n
    induction n with
    | zero =>
      intro d im1 x1 hd g1 g2 g3 g4 g5 g5b g6
      have hD1 := hD.fr g3 (by decide)
      have hrn := rnE_0 (p := bL) (m := m) (a := d) (by omega)
      refine rX12_step_77 hO hR hN ⟨_, by rw [g5]; exact C_X12_byteAt _ _ _ hT hD1 (by omega), ?_⟩
      rintro _ im2 lv2 ⟨rfl, rfl, rfl⟩
      rw [bvL hT, g5, g4, pk_sub (by omega), show (6 : Int32) = nI 6 from rfl, nI_leI (by omega) (by omega)]
      have h20 : im2 43 0 20 = nI (te m (sk m c)) := by rw [g5, ← g6, hrn]
      refine ⟨fun _ => ⟨fun z => ?_, fun z => ?_⟩, fun z => by omega⟩
      · have := out im2 g3 g4 h20 2 (by rw [cod_L g1 g2, if_pos (by omega)])
        rw [g5] at this
        exact this
      · have := out im2 g3 g4 h20 0 (by rw [cod_L g1 g2, if_neg (by omega)])
        rw [g5] at this
        exact this
    | succ n ih =>
      intro d im1 x1 hd g1 g2 g3 g4 g5 g5b g6
      have hD1 := hD.fr g3 (by decide)
      refine rX12_step_77 hO hR hN ⟨_, by rw [g5]; exact C_X12_byteAt _ _ _ hT hD1 (by omega), ?_⟩
      rintro _ im2 lv2 ⟨rfl, rfl, rfl⟩
      rw [bvL hT, g5, g4, pk_sub (by omega), show (6 : Int32) = nI 6 from rfl, nI_leI (by omega) (by omega)]
      refine ⟨fun q => ?_, fun q => ?_⟩
      · have hrn := rnE_0 q
        have h20 : im2 43 0 20 = nI (te m (sk m c)) := by rw [g5, ← g6, hrn]
        refine ⟨fun z => ?_, fun z => ?_⟩
        · have := out im2 g3 g4 h20 2 (by rw [cod_L g1 g2, if_pos (by omega)])
          rw [g5] at this
          exact this
        · have := out im2 g3 g4 h20 0 (by rw [cod_L g1 g2, if_neg (by omega)])
          rw [g5] at this
          exact this
      · exact ih (d + 1) _ x1 (by omega) g1 g2 (g3.wr (by omega)) (by rw [zwk (by decide)]; exact g4) (by rw [zwr_eq, nI_1]) (by omega) (by rw [← rnE_1 q.1 q.2]; exact g6)
  have k137 : ∀ n d (im1 : zMem) (x1 : Int32), n + d = tn m → sk m c < tn m → bF (tb m (sk m c)) = true → f43 20 23 im im1 → im1 43 0 22 = nI (sk m c) → im1 43 0 20 = nI d → sk m c ≤ d → rnE bF m d = te m (sk m c) → zW x w 137 [(0, vR 43 0), (1, vI x1)] [] im1 lv := by
    intro n
    induction n with
    | zero =>
      intro d im1 x1 hd g1 g2 g3 g4 g5 g5b g6
      have hD1 := hD.fr g3 (by decide)
      have hrn := rnE_0 (p := bF) (m := m) (a := d) (by omega)
      refine rX12_step_137 hO hR hN ⟨_, by rw [g5]; exact C_X12_byteAt _ _ _ hT hD1 (by omega), ?_⟩
      rintro _ im2 lv2 ⟨rfl, rfl, rfl⟩
      rw [bvF hT, g5, g4, pk_sub (by omega), show (3 : Int32) = nI 3 from rfl, nI_leI (by omega) (by omega)]
      have h20 : im2 43 0 20 = nI (te m (sk m c)) := by rw [g5, ← g6, hrn]
      refine ⟨fun _ => ⟨fun z => ?_, fun z => ?_⟩, fun z => by omega⟩
      · have := out im2 g3 g4 h20 3 (by rw [cod_F g1 g2, if_pos (by omega)])
        rw [g5] at this
        exact this
      · have := out im2 g3 g4 h20 0 (by rw [cod_F g1 g2, if_neg (by omega)])
        rw [g5] at this
        exact this
    | succ n ih =>
      intro d im1 x1 hd g1 g2 g3 g4 g5 g5b g6
      have hD1 := hD.fr g3 (by decide)
      refine rX12_step_137 hO hR hN ⟨_, by rw [g5]; exact C_X12_byteAt _ _ _ hT hD1 (by omega), ?_⟩
      rintro _ im2 lv2 ⟨rfl, rfl, rfl⟩
      rw [bvF hT, g5, g4, pk_sub (by omega), show (3 : Int32) = nI 3 from rfl, nI_leI (by omega) (by omega)]
      refine ⟨fun q => ?_, fun q => ?_⟩
      · have hrn := rnE_0 q
        have h20 : im2 43 0 20 = nI (te m (sk m c)) := by rw [g5, ← g6, hrn]
        refine ⟨fun z => ?_, fun z => ?_⟩
        · have := out im2 g3 g4 h20 3 (by rw [cod_F g1 g2, if_pos (by omega)])
          rw [g5] at this
          exact this
        · have := out im2 g3 g4 h20 0 (by rw [cod_F g1 g2, if_neg (by omega)])
          rw [g5] at this
          exact this
      · exact ih (d + 1) _ x1 (by omega) g1 g2 (g3.wr (by omega)) (by rw [zwk (by decide)]; exact g4) (by rw [zwr_eq, nI_1]) (by omega) (by rw [← rnE_1 q.1 q.2]; exact g6)
  -- the token begins
  have kB : ∀ (im1 : zMem), f43 20 23 im im1 → im1 43 0 20 = nI (sk m c) → (∃ P3 : Int32 → zMem → Int64 → Prop, zSpecI x.2.1 w 2 zyX12_byteAt [vR 43 0, vI (nI (sk m c))] (zwr im1 43 0 22 (nI (sk m c))) lv P3 ∧ ∀ (v3 : Int32) (im3 : zMem) (lv3 : Int64), P3 v3 im3 lv3 → v3 = bv m (sk m c) ∧ im3 = zwr im1 43 0 22 (nI (sk m c)) ∧ lv3 = lv) := by
    intro im1 g1 g2
    exact ⟨_, C_X12_byteAt _ _ _ hT (hD.fr (g1.wr (k := 22) (by omega)) (by decide)) (by omega), fun _ _ _ h => h⟩
  have k0 : ∀ n d (im1 : zMem), n + d = tn m → f43 20 23 im im1 → im1 43 0 20 = nI d → sk m d = sk m c → zW x w 0 [(0, vR 43 0)] [] im1 lv := by
    intro n
    induction n with
    | zero =>
      intro d im1 hd g3 g5 g6
      have hD1 := hD.fr g3 (by decide)
      have hrn : sk m d = d := rnE_0 (by omega)
      have hdc : sk m c = d := by rw [← g6, hrn]
      refine rX12_step_0 hO hR hN ⟨_, by rw [g5]; exact C_X12_byteAt _ _ _ hT hD1 (by omega), ?_⟩
      rintro _ im2 lv2 ⟨rfl, rfl, rfl⟩
      rw [show (32 : Int32) = nI 32 from rfl, show (10 : Int32) = nI 10 from rfl, bvE hT (by decide)]
      refine ⟨fun z => by omega, fun _ => ⟨_, by rw [g5]; exact C_X12_byteAt _ _ _ hT hD1 (by omega), ?_⟩⟩
      rintro _ im3 lv3 ⟨rfl, rfl, rfl⟩
      rw [bvE hT (by decide)]
      refine ⟨fun _ => ?_, fun z => by omega⟩
      rw [g5]
      obtain ⟨P3, p1, p2⟩ := kB im3 g3 (by rw [g5, hdc])
      rw [hdc] at p1 p2
      refine ⟨P3, p1, fun v4 im4 lv4 h4 => ?_⟩
      obtain ⟨rfl, rfl, rfl⟩ := p2 v4 im4 lv4 h4
      rw [bvN hT]
      refine ⟨fun z => absurd (by omega) z, fun z => ?_⟩
      have ht : te m d = d := by unfold te; rw [if_neg (by omega)]
      have := out (zwr im3 43 0 22 (nI d)) (g3.wr (by omega)) (by rw [zwr_eq, hdc]) (by rw [zwk (by decide), hdc, ht]; exact g5) 1 (by unfold cod; rw [kd_0 (by omega)]; rfl)
      exact this
    | succ n ih =>
      intro d im1 hd g3 g5 g6
      have hD1 := hD.fr g3 (by decide)
      refine rX12_step_0 hO hR hN ⟨_, by rw [g5]; exact C_X12_byteAt _ _ _ hT hD1 (by omega), ?_⟩
      rintro _ im2 lv2 ⟨rfl, rfl, rfl⟩
      have nxt : bB (tb m d) = true → zW x w 0 [(0, vR 43 0)] [] (zwr im2 43 0 20 (im2 43 0 20 + 1)) lv2 := fun z => ih (d + 1) _ (by omega) (g3.wr (by omega)) (by rw [zwr_eq, g5, nI_1]) (by rw [← g6]; exact (rnE_1 (by omega) z).symm)
      rw [show (32 : Int32) = nI 32 from rfl, show (10 : Int32) = nI 10 from rfl, bvE hT (by decide)]
      refine ⟨fun z => nxt (by unfold bB; rw [decide_eq_true_eq]; exact Or.inl z.2), fun z1 => ⟨_, by rw [g5]; exact C_X12_byteAt _ _ _ hT hD1 (by omega), ?_⟩⟩
      rintro _ im3 lv3 ⟨rfl, rfl, rfl⟩
      rw [bvE hT (by decide)]
      refine ⟨fun z2 => ?_, fun z => nxt (by unfold bB; rw [decide_eq_true_eq]; exact Or.inr z.2)⟩
      have hrn : sk m d = d := rnE_0 (by unfold bB; rw [decide_eq_true_eq]; omega)
      have hdc : sk m c = d := by rw [← g6, hrn]
      rw [g5]
      obtain ⟨P3, p1, p2⟩ := kB im3 g3 (by rw [g5, hdc])
      rw [hdc] at p1 p2
      refine ⟨P3, p1, fun v4 im4 lv4 h4 => ?_⟩
      obtain ⟨rfl, rfl, rfl⟩ := p2 v4 im4 lv4 h4
      rw [bvN hT, bvL hT, bvF hT, show (59 : Int32) = nI 59 from rfl, show (44 : Int32) = nI 44 from rfl, bvE hT (by decide), bvE hT (by decide)]
      have e20 : (zwr im3 43 0 22 (nI d)) 43 0 20 + 1 = nI (d + 1) := by rw [zwk (by decide), g5, nI_1]
      have e22 : (zwr im3 43 0 22 (nI d)) 43 0 22 = nI (sk m c) := by rw [zwr_eq, hdc]
      have g3' : f43 20 23 im (zwr im3 43 0 22 (nI d)) := g3.wr (by omega)
      refine ⟨fun _ => ⟨fun zL => ⟨fun zF => ?_, fun zF => ?_⟩, fun zL => ?_⟩, fun z => absurd (by omega) z⟩
      · have hL : ¬ bL (tb m d) = true := fun z => zL ⟨by omega, z⟩
        have hF : ¬ bF (tb m d) = true := fun z => zF ⟨by omega, z⟩
        have ht : te m (sk m c) = d + 1 := by rw [hdc]; unfold te; rw [if_pos (by omega), if_neg hL, if_neg hF]
        rw [e20]
        have fin : ∀ k, k = cod m (sk m c) → (f43 20 23 im (zwr (zwr (zwr (zwr im3 43 0 22 (nI d)) 43 0 20 (nI (d + 1))) 43 0 21 (nI k)) 43 0 23 (nI (d + 1))) ∧ TkR m (zwr (zwr (zwr (zwr im3 43 0 22 (nI d)) 43 0 20 (nI (d + 1))) 43 0 21 (nI k)) 43 0 23 (nI (d + 1))) (sk m c)) ∧ lv4 = lv4 := by
          intro k hk
          have := out (zwr (zwr im3 43 0 22 (nI d)) 43 0 20 (nI (d + 1))) (g3'.wr (by omega)) (by rw [zwk (by decide)]; exact e22) (by rw [zwr_eq, ht]) k hk
          rw [zwr_eq] at this
          exact this
        refine ⟨fun z => fin 4 ?_, fun z59 => ⟨fun z44 => fin 0 ?_, fun z => fin 4 ?_⟩⟩
        · rw [hdc, cod_O (by omega) hL hF, if_pos (Or.inl z.2)]
        · rw [hdc, cod_O (by omega) hL hF, if_neg (by omega)]
        · rw [hdc, cod_O (by omega) hL hF, if_pos (Or.inr z.2)]
      · exact k137 (n + 1) d _ _ hd (by omega) (by rw [hdc]; exact zF.2) g3' e22 (by rw [zwk (by decide)]; exact g5) (by omega) (by rw [hdc, te_F (by omega) zF.2])
      · exact k77 (n + 1) d _ _ hd (by omega) (by rw [hdc]; exact zL.2) g3' e22 (by rw [zwk (by decide)]; exact g5) (by omega) (by rw [hdc, te_L (by omega) zL.2])
  exact k0 (tn m - c) c im (by omega) f43.refl hc rfl

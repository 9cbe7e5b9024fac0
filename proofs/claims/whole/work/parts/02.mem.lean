/-! the abstract memory: regions, their places, kinds -/
abbrev zV : Type := Int32 ⊕ Int64 ⊕ Option (Nat × Nat)
abbrev vI (x : Int32) : zV := .inl x
abbrev vL (x : Int64) : zV := .inr (.inl x)
abbrev vR (r i : Nat) : zV := .inr (.inr (some (r, i)))
abbrev vN : zV := .inr (.inr none)
abbrev zMem : Type := Nat → Nat → Nat → Int32
abbrev zRef : Type := Nat → Nat → Nat → Option (Nat × Nat)
abbrev zWd : Type := Nat × va_G × ClassId × ClassId × ClassId
abbrev zY : Type := MethodName × ByteArray × Nat × Option FieldType
def zO : List Nat := [0, 1, 2, 3, 4, 5, 6, 7, 8, 9, 10, 11, 12, 13, 14, 15, 60, 61, 62, 63, 64, 65, 66, 67, 68, 69, 70, 71, 72, 73, 74, 75, 76, 77, 78, 79, 80, 81, 82, 83, 84, 85, 86, 101, 102, 103, 104, 105, 106, 107, 108, 109, 110, 111, 112, 113, 114, 115, 116, 117, 118, 119, 120, 121, 122, 123, 124, 125]
def zSt : List Nat := [0, 0, 0, 0, 0, 0, 0, 0, 0, 0, 0, 0, 4, 4, 4, 4, 0, 0, 0, 0, 0, 0, 0, 0, 0, 0, 0, 0, 0, 0, 0, 0, 0, 0, 0, 0, 0, 0, 0, 0, 0, 2, 2, 0, 0, 0, 0, 0, 0, 0, 0, 0, 0, 0, 0, 0, 0, 0, 0, 0, 0, 0, 0, 0, 0, 0, 0, 0]
def zCt : List Nat := [1, 1, 1, 1, 1, 1, 1, 1, 1, 1, 1, 1, 12, 12, 12, 12, 1, 1, 1, 1, 1, 1, 1, 1, 1, 1, 1, 1, 1, 1, 1, 1, 1, 1, 1, 1, 1, 1, 1, 1, 1, 8, 8, 1, 1, 1, 1, 1, 1, 1, 1, 1, 1, 1, 1, 1, 1, 1, 1, 1, 1, 1, 1, 1, 1, 1, 1, 1]
def zKd : List (Nat × Nat × Nat) := [(0, 11, 12), (2, 8, 0), (0, 3, 9), (1, 384, 0), (1, 48, 0), (1, 20, 0), (1, 20, 0), (1, 20, 0), (1, 20, 0), (1, 20, 0), (0, 1, 2), (3, 12, 0), (0, 2, 10), (1, 3, 0), (1, 15, 0), (1, 15, 0), (0, 10, 6), (1, 500, 0), (0, 5, 8), (1, 8, 0), (0, 8, 5), (1, 384, 0), (1, 384, 0), (1, 20, 0), (0, 9, 7), (1, 3072, 0), (1, 64, 0), (1, 64, 0), (1, 48, 0), (0, 6, 9), (1, 384, 0), (1, 20, 0), (1, 5, 0), (1, 5, 0), (1, 5, 0), (0, 4, 5), (1, 4, 0), (1, 4, 0), (1, 4, 0), (0, 0, 3), (1, 16, 0), (0, 7, 3), (1, 48, 0), (0, 12, 42), (1, 8, 0), (1, 8, 0), (1, 384, 0), (1, 384, 0), (1, 48, 0), (1, 100, 0), (1, 60, 0), (1, 180, 0), (1, 180, 0), (1, 12, 0), (1, 12, 0), (1, 500, 0), (1, 64, 0), (1, 64, 0), (1, 4, 0), (1, 4, 0), (1, 3072, 0), (1, 3136, 0), (1, 48, 0), (1, 384, 0), (1, 5, 0), (1, 5, 0), (1, 5, 0), (1, 16, 0)]
def zKy : List (Nat × Nat) := [(0, 0), (1, 0), (2, 0), (3, 0), (4, 0), (5, 0), (6, 0), (7, 0), (8, 0), (9, 0), (10, 0), (11, 0), (12, 0), (13, 0), (14, 0), (15, 0), (12, 1), (13, 1), (14, 1), (15, 1), (12, 2), (13, 2), (14, 2), (15, 2), (12, 3), (13, 3), (14, 3), (15, 3), (12, 4), (13, 4), (14, 4), (15, 4), (12, 5), (13, 5), (14, 5), (15, 5), (12, 6), (13, 6), (14, 6), (15, 6), (12, 7), (13, 7), (14, 7), (15, 7), (12, 8), (13, 8), (14, 8), (15, 8), (12, 9), (13, 9), (14, 9), (15, 9), (12, 10), (13, 10), (14, 10), (15, 10), (12, 11), (13, 11), (14, 11), (15, 11), (16, 0), (17, 0), (18, 0), (19, 0), (20, 0), (21, 0), (22, 0), (23, 0), (24, 0), (25, 0), (26, 0), (27, 0), (28, 0), (29, 0), (30, 0), (31, 0), (32, 0), (33, 0), (34, 0), (35, 0), (36, 0), (37, 0), (38, 0), (39, 0), (40, 0), (41, 0), (42, 0), (41, 1), (42, 1), (41, 2), (42, 2), (41, 3), (42, 3), (41, 4), (42, 4), (41, 5), (42, 5), (41, 6), (42, 6), (41, 7), (42, 7), (43, 0), (44, 0), (45, 0), (46, 0), (47, 0), (48, 0), (49, 0), (50, 0), (51, 0), (52, 0), (53, 0), (54, 0), (55, 0), (56, 0), (57, 0), (58, 0), (59, 0), (60, 0), (61, 0), (62, 0), (63, 0), (64, 0), (65, 0), (66, 0), (67, 0)]
def zFk : List (List Nat) := [[1, 1, 0], [1, 0], [0, 0, 0, 0, 0, 1, 1, 1, 0, 0], [1, 1, 1, 1, 1, 1, 1, 0, 0], [1, 1, 1, 1, 1], [1, 1, 1, 1, 0, 0, 0, 0], [1, 1, 1, 1, 1, 1, 1, 0, 0], [0, 0, 1], [1, 1, 1, 1, 1], [1, 1, 1, 1, 1, 1, 0], [1, 0, 0, 0, 0, 2], [1, 1, 1, 1, 1, 1, 1, 1, 1, 1, 0, 0], [0, 0, 1, 1, 1, 1, 1, 0, 0, 1, 0, 1, 1, 1, 1, 1, 1, 0, 0, 0, 0, 0, 0, 0, 0, 0, 0, 0, 0, 1, 1, 1, 1, 1, 1, 1, 1, 1, 1, 1, 1, 0]]
def zRTab : List (List (Option Nat)) := [[some 1, some 2, some 10, some 16, some 18, some 20, some 24, some 29, some 35, some 39], [], [some 3, some 4, some 5, some 6, some 7, some 8, some 9], [], [], [], [], [], [], [], [some 11], [], [none, none, none, none, none, some 13, some 14, some 15], [], [], [], [some 17], [], [some 16, some 2, some 10, some 19], [], [some 2, some 10, some 21, some 22, some 23], [], [], [], [some 2, some 20, some 25, some 26, some 27, some 28], [], [], [], [], [some 10, some 20, some 30, some 31, some 32, some 33, some 34], [], [], [], [], [], [some 10, some 20, some 36, some 37, some 38], [], [], [], [some 20, some 40], [], [none, none, some 42], [], [none, none, some 44, some 45, some 46, some 47, some 48, none, none, some 49, none, some 50, some 51, some 52, some 53, some 54, some 55, none, none, none, none, none, none, none, none, none, none, none, none, some 56, some 57, some 58, some 59, some 60, some 61, some 62, some 63, some 64, some 65, some 66, some 67], [], [], [], [], [], [], [], [], [], [], [], [], [], [], [], [], [], [], [], [], [], [], [], []]
def zad (r i : Nat) : Nat := zO.getD r 0 + zSt.getD r 0 * i
def zcnt (r : Nat) : Nat := zCt.getD r 0
def zkd (r : Nat) : Nat × Nat × Nat := zKd.getD r (9, 0, 0)
def zkey (k : Nat) : Nat × Nat := zKy.getD k (0, 0)
def zfk (ci j : Nat) : Nat := (zFk.getD ci []).getD j 0
def zRF : zRef := fun r i j => if r = 1 then some (41, j) else if r = 11 then some (12, j) else match (zRTab.getD r []).getD j none with
  | some q => some (q, i)
  | none => none
theorem zcnt_lt {r i : Nat} (h : i < zcnt r) : r < 68 := by
  by_cases hr : r < 68
  · exact hr
  · exfalso
    have h2 : zCt.getD r 0 = 0 := by
      have h3 : zCt.length = 68 := by decide +kernel
      rw [List.getD_eq_getElem?_getD, List.getElem?_eq_none (Nat.le_trans (Nat.le_of_eq h3) (Nat.le_of_not_lt hr))]
      rfl
    unfold zcnt at h
    omega
theorem zka0 : ∀ r, r < 68 → ∀ i, i < zcnt r → zkey (zad r i) = (r, i) ∧ zad r i < 126 := by decide +kernel
theorem zka {r i : Nat} (h : i < zcnt r) : zkey (zad r i) = (r, i) ∧ zad r i < 126 := zka0 r (zcnt_lt h) i h
theorem zak : ∀ k, k < 126 → zad (zkey k).1 (zkey k).2 = k ∧ (zkey k).2 < zcnt (zkey k).1 := by decide +kernel
theorem zkey_inj {k r i : Nat} (hk : k < 126) (h : zkey k = (r, i)) : k = zad r i := by
  have := (zak k hk).1
  rw [h] at this
  exact this.symm
def zin (n r i : Nat) : Prop := i < zcnt r ∧ zad r i < n
theorem zI {r i : Nat} (h : i < zcnt r) : zin 126 r i := ⟨h, (zka h).2⟩
/-- words of a value -/
def zcat : zV → Nat
  | .inr (.inl _) => 2
  | _ => 1
def zcv (b : Nat) : zV → Value
  | .inl x => .int x
  | .inr (.inl y) => .long y
  | .inr (.inr none) => .null
  | .inr (.inr (some k)) => .ref (b + zad k.1 k.2)
theorem zcv_cat (b : Nat) (v : zV) : (zcv b v).category = zcat v := by
  rcases v with x | x | _ | x <;> rfl
def zfv (b : Nat) (rf : zRef) (im : zMem) (lv : Int64) (ci r i j : Nat) : Value :=
  if zfk ci j = 0 then .int (im r i j) else if zfk ci j = 1 then zcv b (.inr (.inr (rf r i j))) else .long lv
def zrefs (b : Nat) (rf : zRef) (r i : Nat) : Nat → Option Nat := fun j => (rf r i j).map (fun k => b + zad k.1 k.2)
def zE (w : zWd) (rf : zRef) (im : zMem) (lv : Int64) (r i : Nat) : va_E :=
  if (zkd r).1 = 0 then .inr ((zkd r).2.1, (List.range (zkd r).2.2).map (zfv w.1 rf im lv (zkd r).2.1 r i))
  else if (zkd r).1 = 1 then .inl (w.2.2.1, (zkd r).2.1, .inl (im r i))
  else .inl (if (zkd r).1 = 2 then w.2.2.2.1 else w.2.2.2.2, (zkd r).2.1, .inr (.inr (.inr (.inr (zrefs w.1 rf r i)))))
def zws (w : zWd) (n : Nat) (rf : zRef) (im : zMem) (lv : Int64) : va_W := (List.range n).map (fun k => (w.1 + k, zE w rf im lv (zkey k).1 (zkey k).2))
theorem zws_at {w : zWd} {n : Nat} {rf : zRef} {im : zMem} {lv : Int64} {r i : Nat} (h : zin n r i) : (zws w n rf im lv)[zad r i]? = some (w.1 + zad r i, zE w rf im lv r i) := by
  unfold zws
  rw [List.getElem?_map, List.getElem?_range h.2]
  simp only [Option.map_some, (zka h.1).1]
def zset (im : zMem) (r i : Nat) (f : Nat → Int32) : zMem := fun r' => if r' = r then fun i' => if i' = i then f else im r i' else im r'
theorem zset_eq {im : zMem} {r i : Nat} {f : Nat → Int32} : zset im r i f r i = f := by simp [zset]
theorem zset_ne {im : zMem} {r i r' i' : Nat} {f : Nat → Int32} (h : ¬ (r' = r ∧ i' = i)) : zset im r i f r' i' = im r' i' := by
  unfold zset
  by_cases h1 : r' = r
  · subst h1
    by_cases h2 : i' = i
    · exact absurd ⟨rfl, h2⟩ h
    · simp [h2]
  · simp [h1]
theorem zset_id {im : zMem} {r i : Nat} : zset im r i (im r i) = im := by
  funext r' i'
  by_cases h : r' = r ∧ i' = i
  · obtain ⟨rfl, rfl⟩ := h
    exact zset_eq
  · exact zset_ne h
theorem zset_set {im : zMem} {r i : Nat} {f g : Nat → Int32} : zset (zset im r i f) r i g = zset im r i g := by
  funext r' i'
  by_cases h : r' = r ∧ i' = i
  · obtain ⟨rfl, rfl⟩ := h
    rw [zset_eq, zset_eq]
  · rw [zset_ne h, zset_ne h, zset_ne h]
theorem zE_im {w : zWd} {rf : zRef} {im im' : zMem} {lv : Int64} {r i : Nat} (h : im r i = im' r i) : zE w rf im lv r i = zE w rf im' lv r i := by
  have hf : zfv w.1 rf im lv (zkd r).2.1 r i = zfv w.1 rf im' lv (zkd r).2.1 r i := by
    funext j
    unfold zfv
    rw [h]
  unfold zE
  rw [h, hf]
theorem zws_set {w : zWd} {n : Nat} {rf : zRef} {im : zMem} {lv : Int64} {r i : Nat} {f : Nat → Int32} (hn : n ≤ 126) (h : zin n r i) :
    (zws w n rf im lv).set (zad r i) (w.1 + zad r i, zE w rf (zset im r i f) lv r i) = zws w n rf (zset im r i f) lv := by
  apply List.ext_getElem?
  intro k
  by_cases hk : k = zad r i
  · subst hk
    rw [zws_at h, List.getElem?_set_self (by simp [zws]; exact h.2)]
  · rw [List.getElem?_set_ne (fun q => hk q.symm)]
    unfold zws
    rw [List.getElem?_map, List.getElem?_map]
    by_cases hl : k < n
    · rw [List.getElem?_range hl]
      simp only [Option.map_some]
      rw [zE_im (im' := zset im r i f)]
      rw [zset_ne]
      intro q
      exact hk (zkey_inj (by omega) (Prod.ext q.1 q.2))
    · rw [List.getElem?_eq_none (by simp; omega)]
      rfl
theorem zlong : ∀ r, r < 68 → ¬ r = 16 → (zkd r).1 = 0 → ∀ j, j < (zkd r).2.2 → zfk (zkd r).2.1 j = 0 ∨ zfk (zkd r).2.1 j = 1 := by decide +kernel
theorem zE_lv {w : zWd} {rf : zRef} {im : zMem} {lv lv' : Int64} {r i : Nat} (hr : r < 68) (h : ¬ r = 16) : zE w rf im lv r i = zE w rf im lv' r i := by
  unfold zE
  by_cases h0 : (zkd r).1 = 0
  · rw [if_pos h0, if_pos h0]
    have : (List.range (zkd r).2.2).map (zfv w.1 rf im lv (zkd r).2.1 r i) = (List.range (zkd r).2.2).map (zfv w.1 rf im lv' (zkd r).2.1 r i) := by
      apply List.map_congr_left
      intro j hj
      unfold zfv
      rcases zlong r hr h h0 j (List.mem_range.mp hj) with q | q
      · rw [if_pos q, if_pos q]
      · simp [q]
    rw [this]
  · rw [if_neg h0, if_neg h0]
theorem zws_setL {w : zWd} {n : Nat} {rf : zRef} {im : zMem} {lv lv' : Int64} (hn : n ≤ 126) (h : zin n 16 0) :
    (zws w n rf im lv).set (zad 16 0) (w.1 + zad 16 0, zE w rf im lv' 16 0) = zws w n rf im lv' := by
  apply List.ext_getElem?
  intro k
  by_cases hk : k = zad 16 0
  · subst hk
    rw [zws_at h, List.getElem?_set_self (by simp [zws]; exact h.2)]
  · rw [List.getElem?_set_ne (fun q => hk q.symm)]
    unfold zws
    rw [List.getElem?_map, List.getElem?_map]
    by_cases hl : k < n
    · rw [List.getElem?_range hl]
      simp only [Option.map_some]
      have hk2 := zak k (by omega)
      rw [zE_lv (lv' := lv') (zcnt_lt hk2.2)]
      intro q
      apply hk
      apply zkey_inj (by omega)
      have h3 := hk2.2
      rw [q] at h3
      have h4 : (zkey k).2 < 1 := h3
      exact Prod.ext q (by show (zkey k).2 = 0; omega)
    · rw [List.getElem?_eq_none (by simp; omega)]
      rfl
/-! the words -/
def zT : List Cond := lw_tbl.filter goodWord
theorem zT_in {w : Cond} (h : w ∈ lw_tbl) (hg : goodWord w = true) : w ∈ zT := List.mem_filter.mpr ⟨h, hg⟩
theorem zT_tbl {w : Cond} (h : w ∈ zT) : w ∈ lw_tbl := (List.mem_filter.mp h).1
theorem zT_good {c : Cond} (h : c ∈ zT) : GoodIn zT (c :: zT) := fun w hw => by
  have h2 : w ∈ zT := (List.mem_cons.mp hw).elim (fun e => e ▸ h) id
  exact ⟨h2, good_of_word (List.mem_filter.mp h2).2⟩
theorem tb1 {w : Cond} (h : w ∈ tables_1_1) : w ∈ lw_tbl := List.mem_append_right _ (List.mem_append_left _ h)
theorem tb2 {w : Cond} (h : w ∈ tables_1_2) : w ∈ lw_tbl := List.mem_append_right _ (List.mem_append_right _ (List.mem_append_left _ h))
theorem tb3 {w : Cond} (h : w ∈ tables_1_3) : w ∈ lw_tbl := List.mem_append_right _ (List.mem_append_right _ (List.mem_append_right _ (List.mem_append_left _ h)))
theorem tb4 {w : Cond} (h : w ∈ tables_1_4) : w ∈ lw_tbl := List.mem_append_right _ (List.mem_append_right _ (List.mem_append_right _ (List.mem_append_right _ (List.mem_append_left _ h))))
theorem tb5 {w : Cond} (h : w ∈ tables_1_5) : w ∈ lw_tbl := List.mem_append_right _ (List.mem_append_right _ (List.mem_append_right _ (List.mem_append_right _ (List.mem_append_right _ (List.mem_append_left _ h)))))
theorem tb6 {w : Cond} (h : w ∈ tables_1_6) : w ∈ lw_tbl := List.mem_append_right _ (List.mem_append_right _ (List.mem_append_right _ (List.mem_append_right _ (List.mem_append_right _ (List.mem_append_right _ h)))))
theorem wd1 {w : Cond} (i : Nat) (h : tables_1_1[i]? = some w) (hg : goodWord w = true) : w ∈ zT := zT_in (tb1 (List.mem_of_getElem? h)) hg
theorem wd2 {w : Cond} (i : Nat) (h : tables_1_2[i]? = some w) (hg : goodWord w = true) : w ∈ zT := zT_in (tb2 (List.mem_of_getElem? h)) hg
theorem wd3 {w : Cond} (i : Nat) (h : tables_1_3[i]? = some w) (hg : goodWord w = true) : w ∈ zT := zT_in (tb3 (List.mem_of_getElem? h)) hg
theorem wd4 {w : Cond} (i : Nat) (h : tables_1_4[i]? = some w) (hg : goodWord w = true) : w ∈ zT := zT_in (tb4 (List.mem_of_getElem? h)) hg
theorem wd5 {w : Cond} (i : Nat) (h : tables_1_5[i]? = some w) (hg : goodWord w = true) : w ∈ zT := zT_in (tb5 (List.mem_of_getElem? h)) hg
theorem wd6 {w : Cond} (i : Nat) (h : tables_1_6[i]? = some w) (hg : goodWord w = true) : w ∈ zT := zT_in (tb6 (List.mem_of_getElem? h)) hg
theorem wd0 {w : Cond} (i : Nat) (h : (k2_sels lw_privs)[i]? = some w) (hg : goodWord w = true) : w ∈ zT := zT_in (List.mem_append_left _ (List.mem_of_getElem? h)) hg
theorem wl0_0 : u_lay RX0 TX0 0 ∈ zT := wd2 117 rfl rfl
theorem wl0_1 : u_lay RX0 TX0 1 ∈ zT := wd2 119 rfl rfl
theorem wl0_2 : u_lay RX0 TX0 2 ∈ zT := wd2 121 rfl rfl
theorem inZ0 : ∀ w ∈ u_ws RX0 TX0 3, w ∈ zT := by
  intro w hw
  obtain ⟨k, hk, rfl⟩ := List.mem_map.mp hw
  have hk := List.mem_range.mp hk
  match k, hk with
  | 0, _ => exact wl0_0
  | 1, _ => exact wl0_1
  | 2, _ => exact wl0_2
  | k + 3, hk => exact absurd hk (by omega)
theorem wl1_0 : u_lay RX1 TX1 0 ∈ zT := wd1 165 rfl rfl
theorem wl1_1 : u_lay RX1 TX1 1 ∈ zT := wd1 167 rfl rfl
theorem inZ1 : ∀ w ∈ u_ws RX1 TX1 2, w ∈ zT := by
  intro w hw
  obtain ⟨k, hk, rfl⟩ := List.mem_map.mp hw
  have hk := List.mem_range.mp hk
  match k, hk with
  | 0, _ => exact wl1_0
  | 1, _ => exact wl1_1
  | k + 2, hk => exact absurd hk (by omega)
theorem wl2_0 : u_lay RX2 TX2 0 ∈ zT := wd1 132 rfl rfl
theorem wl2_1 : u_lay RX2 TX2 1 ∈ zT := wd1 134 rfl rfl
theorem wl2_2 : u_lay RX2 TX2 2 ∈ zT := wd1 136 rfl rfl
theorem wl2_3 : u_lay RX2 TX2 3 ∈ zT := wd1 138 rfl rfl
theorem wl2_4 : u_lay RX2 TX2 4 ∈ zT := wd1 140 rfl rfl
theorem wl2_5 : u_lay RX2 TX2 5 ∈ zT := wd1 142 rfl rfl
theorem wl2_6 : u_lay RX2 TX2 6 ∈ zT := wd1 144 rfl rfl
theorem wl2_7 : u_lay RX2 TX2 7 ∈ zT := wd1 146 rfl rfl
theorem wl2_8 : u_lay RX2 TX2 8 ∈ zT := wd1 148 rfl rfl
theorem wl2_9 : u_lay RX2 TX2 9 ∈ zT := wd1 150 rfl rfl
theorem inZ2 : ∀ w ∈ u_ws RX2 TX2 10, w ∈ zT := by
  intro w hw
  obtain ⟨k, hk, rfl⟩ := List.mem_map.mp hw
  have hk := List.mem_range.mp hk
  match k, hk with
  | 0, _ => exact wl2_0
  | 1, _ => exact wl2_1
  | 2, _ => exact wl2_2
  | 3, _ => exact wl2_3
  | 4, _ => exact wl2_4
  | 5, _ => exact wl2_5
  | 6, _ => exact wl2_6
  | 7, _ => exact wl2_7
  | 8, _ => exact wl2_8
  | 9, _ => exact wl2_9
  | k + 10, hk => exact absurd hk (by omega)
theorem wl3_0 : u_lay RX3 TX3 0 ∈ zT := wd1 57 rfl rfl
theorem wl3_1 : u_lay RX3 TX3 1 ∈ zT := wd1 59 rfl rfl
theorem wl3_2 : u_lay RX3 TX3 2 ∈ zT := wd1 61 rfl rfl
theorem wl3_3 : u_lay RX3 TX3 3 ∈ zT := wd1 63 rfl rfl
theorem wl3_4 : u_lay RX3 TX3 4 ∈ zT := wd1 65 rfl rfl
theorem wl3_5 : u_lay RX3 TX3 5 ∈ zT := wd1 67 rfl rfl
theorem wl3_6 : u_lay RX3 TX3 6 ∈ zT := wd1 69 rfl rfl
theorem wl3_7 : u_lay RX3 TX3 7 ∈ zT := wd1 71 rfl rfl
theorem wl3_8 : u_lay RX3 TX3 8 ∈ zT := wd1 73 rfl rfl
theorem inZ3 : ∀ w ∈ u_ws RX3 TX3 9, w ∈ zT := by
  intro w hw
  obtain ⟨k, hk, rfl⟩ := List.mem_map.mp hw
  have hk := List.mem_range.mp hk
  match k, hk with
  | 0, _ => exact wl3_0
  | 1, _ => exact wl3_1
  | 2, _ => exact wl3_2
  | 3, _ => exact wl3_3
  | 4, _ => exact wl3_4
  | 5, _ => exact wl3_5
  | 6, _ => exact wl3_6
  | 7, _ => exact wl3_7
  | 8, _ => exact wl3_8
  | k + 9, hk => exact absurd hk (by omega)
theorem wl4_0 : u_lay RX4 TX4 0 ∈ zT := wd2 95 rfl rfl
theorem wl4_1 : u_lay RX4 TX4 1 ∈ zT := wd2 97 rfl rfl
theorem wl4_2 : u_lay RX4 TX4 2 ∈ zT := wd2 99 rfl rfl
theorem wl4_3 : u_lay RX4 TX4 3 ∈ zT := wd2 101 rfl rfl
theorem wl4_4 : u_lay RX4 TX4 4 ∈ zT := wd2 103 rfl rfl
theorem inZ4 : ∀ w ∈ u_ws RX4 TX4 5, w ∈ zT := by
  intro w hw
  obtain ⟨k, hk, rfl⟩ := List.mem_map.mp hw
  have hk := List.mem_range.mp hk
  match k, hk with
  | 0, _ => exact wl4_0
  | 1, _ => exact wl4_1
  | 2, _ => exact wl4_2
  | 3, _ => exact wl4_3
  | 4, _ => exact wl4_4
  | k + 5, hk => exact absurd hk (by omega)
theorem wl5_0 : u_lay RX5 TX5 0 ∈ zT := wd1 215 rfl rfl
theorem wl5_1 : u_lay RX5 TX5 1 ∈ zT := wd1 217 rfl rfl
theorem wl5_2 : u_lay RX5 TX5 2 ∈ zT := wd1 219 rfl rfl
theorem wl5_3 : u_lay RX5 TX5 3 ∈ zT := wd1 221 rfl rfl
theorem wl5_4 : u_lay RX5 TX5 4 ∈ zT := wd1 223 rfl rfl
theorem wl5_5 : u_lay RX5 TX5 5 ∈ zT := wd1 225 rfl rfl
theorem wl5_6 : u_lay RX5 TX5 6 ∈ zT := wd1 227 rfl rfl
theorem wl5_7 : u_lay RX5 TX5 7 ∈ zT := wd1 229 rfl rfl
theorem inZ5 : ∀ w ∈ u_ws RX5 TX5 8, w ∈ zT := by
  intro w hw
  obtain ⟨k, hk, rfl⟩ := List.mem_map.mp hw
  have hk := List.mem_range.mp hk
  match k, hk with
  | 0, _ => exact wl5_0
  | 1, _ => exact wl5_1
  | 2, _ => exact wl5_2
  | 3, _ => exact wl5_3
  | 4, _ => exact wl5_4
  | 5, _ => exact wl5_5
  | 6, _ => exact wl5_6
  | 7, _ => exact wl5_7
  | k + 8, hk => exact absurd hk (by omega)
theorem wl6_0 : u_lay RX6 TX6 0 ∈ zT := wd2 65 rfl rfl
theorem wl6_1 : u_lay RX6 TX6 1 ∈ zT := wd2 67 rfl rfl
theorem wl6_2 : u_lay RX6 TX6 2 ∈ zT := wd2 69 rfl rfl
theorem wl6_3 : u_lay RX6 TX6 3 ∈ zT := wd2 71 rfl rfl
theorem wl6_4 : u_lay RX6 TX6 4 ∈ zT := wd2 73 rfl rfl
theorem wl6_5 : u_lay RX6 TX6 5 ∈ zT := wd2 75 rfl rfl
theorem wl6_6 : u_lay RX6 TX6 6 ∈ zT := wd2 77 rfl rfl
theorem wl6_7 : u_lay RX6 TX6 7 ∈ zT := wd2 79 rfl rfl
theorem wl6_8 : u_lay RX6 TX6 8 ∈ zT := wd2 81 rfl rfl
theorem inZ6 : ∀ w ∈ u_ws RX6 TX6 9, w ∈ zT := by
  intro w hw
  obtain ⟨k, hk, rfl⟩ := List.mem_map.mp hw
  have hk := List.mem_range.mp hk
  match k, hk with
  | 0, _ => exact wl6_0
  | 1, _ => exact wl6_1
  | 2, _ => exact wl6_2
  | 3, _ => exact wl6_3
  | 4, _ => exact wl6_4
  | 5, _ => exact wl6_5
  | 6, _ => exact wl6_6
  | 7, _ => exact wl6_7
  | 8, _ => exact wl6_8
  | k + 9, hk => exact absurd hk (by omega)
theorem wl7_0 : u_lay RX7 TX7 0 ∈ zT := wd2 134 rfl rfl
theorem wl7_1 : u_lay RX7 TX7 1 ∈ zT := wd2 136 rfl rfl
theorem wl7_2 : u_lay RX7 TX7 2 ∈ zT := wd2 138 rfl rfl
theorem inZ7 : ∀ w ∈ u_ws RX7 TX7 3, w ∈ zT := by
  intro w hw
  obtain ⟨k, hk, rfl⟩ := List.mem_map.mp hw
  have hk := List.mem_range.mp hk
  match k, hk with
  | 0, _ => exact wl7_0
  | 1, _ => exact wl7_1
  | 2, _ => exact wl7_2
  | k + 3, hk => exact absurd hk (by omega)
theorem wl8_0 : u_lay RX8 TX8 0 ∈ zT := wd2 8 rfl rfl
theorem wl8_1 : u_lay RX8 TX8 1 ∈ zT := wd2 10 rfl rfl
theorem wl8_2 : u_lay RX8 TX8 2 ∈ zT := wd2 12 rfl rfl
theorem wl8_3 : u_lay RX8 TX8 3 ∈ zT := wd2 14 rfl rfl
theorem wl8_4 : u_lay RX8 TX8 4 ∈ zT := wd2 16 rfl rfl
theorem inZ8 : ∀ w ∈ u_ws RX8 TX8 5, w ∈ zT := by
  intro w hw
  obtain ⟨k, hk, rfl⟩ := List.mem_map.mp hw
  have hk := List.mem_range.mp hk
  match k, hk with
  | 0, _ => exact wl8_0
  | 1, _ => exact wl8_1
  | 2, _ => exact wl8_2
  | 3, _ => exact wl8_3
  | 4, _ => exact wl8_4
  | k + 5, hk => exact absurd hk (by omega)
theorem wl9_0 : u_lay RX9 TX9 0 ∈ zT := wd2 34 rfl rfl
theorem wl9_1 : u_lay RX9 TX9 1 ∈ zT := wd2 36 rfl rfl
theorem wl9_2 : u_lay RX9 TX9 2 ∈ zT := wd2 38 rfl rfl
theorem wl9_3 : u_lay RX9 TX9 3 ∈ zT := wd2 40 rfl rfl
theorem wl9_4 : u_lay RX9 TX9 4 ∈ zT := wd2 42 rfl rfl
theorem wl9_5 : u_lay RX9 TX9 5 ∈ zT := wd2 44 rfl rfl
theorem wl9_6 : u_lay RX9 TX9 6 ∈ zT := wd2 46 rfl rfl
theorem inZ9 : ∀ w ∈ u_ws RX9 TX9 7, w ∈ zT := by
  intro w hw
  obtain ⟨k, hk, rfl⟩ := List.mem_map.mp hw
  have hk := List.mem_range.mp hk
  match k, hk with
  | 0, _ => exact wl9_0
  | 1, _ => exact wl9_1
  | 2, _ => exact wl9_2
  | 3, _ => exact wl9_3
  | 4, _ => exact wl9_4
  | 5, _ => exact wl9_5
  | 6, _ => exact wl9_6
  | k + 7, hk => exact absurd hk (by omega)
theorem wl10_0 : u_lay RX10 TX10 0 ∈ zT := wd1 186 rfl rfl
theorem wl10_1 : u_lay RX10 TX10 1 ∈ zT := wd1 188 rfl rfl
theorem wl10_2 : u_lay RX10 TX10 2 ∈ zT := wd1 190 rfl rfl
theorem wl10_3 : u_lay RX10 TX10 3 ∈ zT := wd1 192 rfl rfl
theorem wl10_4 : u_lay RX10 TX10 4 ∈ zT := wd1 194 rfl rfl
theorem wl10_5 : u_lay RX10 TX10 5 ∈ zT := wd1 196 rfl rfl
theorem inZ10 : ∀ w ∈ u_ws RX10 TX10 6, w ∈ zT := by
  intro w hw
  obtain ⟨k, hk, rfl⟩ := List.mem_map.mp hw
  have hk := List.mem_range.mp hk
  match k, hk with
  | 0, _ => exact wl10_0
  | 1, _ => exact wl10_1
  | 2, _ => exact wl10_2
  | 3, _ => exact wl10_3
  | 4, _ => exact wl10_4
  | 5, _ => exact wl10_5
  | k + 6, hk => exact absurd hk (by omega)
theorem wl11_0 : u_lay RX11 TX11 0 ∈ zT := wd2 153 rfl rfl
theorem wl11_1 : u_lay RX11 TX11 1 ∈ zT := wd2 155 rfl rfl
theorem wl11_2 : u_lay RX11 TX11 2 ∈ zT := wd2 157 rfl rfl
theorem wl11_3 : u_lay RX11 TX11 3 ∈ zT := wd2 159 rfl rfl
theorem wl11_4 : u_lay RX11 TX11 4 ∈ zT := wd2 161 rfl rfl
theorem wl11_5 : u_lay RX11 TX11 5 ∈ zT := wd2 163 rfl rfl
theorem wl11_6 : u_lay RX11 TX11 6 ∈ zT := wd2 165 rfl rfl
theorem wl11_7 : u_lay RX11 TX11 7 ∈ zT := wd2 167 rfl rfl
theorem wl11_8 : u_lay RX11 TX11 8 ∈ zT := wd2 169 rfl rfl
theorem wl11_9 : u_lay RX11 TX11 9 ∈ zT := wd2 171 rfl rfl
theorem wl11_10 : u_lay RX11 TX11 10 ∈ zT := wd2 173 rfl rfl
theorem wl11_11 : u_lay RX11 TX11 11 ∈ zT := wd2 175 rfl rfl
theorem inZ11 : ∀ w ∈ u_ws RX11 TX11 12, w ∈ zT := by
  intro w hw
  obtain ⟨k, hk, rfl⟩ := List.mem_map.mp hw
  have hk := List.mem_range.mp hk
  match k, hk with
  | 0, _ => exact wl11_0
  | 1, _ => exact wl11_1
  | 2, _ => exact wl11_2
  | 3, _ => exact wl11_3
  | 4, _ => exact wl11_4
  | 5, _ => exact wl11_5
  | 6, _ => exact wl11_6
  | 7, _ => exact wl11_7
  | 8, _ => exact wl11_8
  | 9, _ => exact wl11_9
  | 10, _ => exact wl11_10
  | 11, _ => exact wl11_11
  | k + 12, hk => exact absurd hk (by omega)
theorem wl12_0 : u_lay RX12 TX12 0 ∈ zT := wd5 85 rfl rfl
theorem wl12_1 : u_lay RX12 TX12 1 ∈ zT := wd5 87 rfl rfl
theorem wl12_2 : u_lay RX12 TX12 2 ∈ zT := wd5 89 rfl rfl
theorem wl12_3 : u_lay RX12 TX12 3 ∈ zT := wd5 91 rfl rfl
theorem wl12_4 : u_lay RX12 TX12 4 ∈ zT := wd5 93 rfl rfl
theorem wl12_5 : u_lay RX12 TX12 5 ∈ zT := wd5 95 rfl rfl
theorem wl12_6 : u_lay RX12 TX12 6 ∈ zT := wd5 97 rfl rfl
theorem wl12_7 : u_lay RX12 TX12 7 ∈ zT := wd5 99 rfl rfl
theorem wl12_8 : u_lay RX12 TX12 8 ∈ zT := wd5 101 rfl rfl
theorem wl12_9 : u_lay RX12 TX12 9 ∈ zT := wd5 103 rfl rfl
theorem wl12_10 : u_lay RX12 TX12 10 ∈ zT := wd5 105 rfl rfl
theorem wl12_11 : u_lay RX12 TX12 11 ∈ zT := wd5 107 rfl rfl
theorem wl12_12 : u_lay RX12 TX12 12 ∈ zT := wd5 109 rfl rfl
theorem wl12_13 : u_lay RX12 TX12 13 ∈ zT := wd5 111 rfl rfl
theorem wl12_14 : u_lay RX12 TX12 14 ∈ zT := wd5 113 rfl rfl
theorem wl12_15 : u_lay RX12 TX12 15 ∈ zT := wd5 115 rfl rfl
theorem wl12_16 : u_lay RX12 TX12 16 ∈ zT := wd5 117 rfl rfl
theorem wl12_17 : u_lay RX12 TX12 17 ∈ zT := wd5 119 rfl rfl
theorem wl12_18 : u_lay RX12 TX12 18 ∈ zT := wd5 121 rfl rfl
theorem wl12_19 : u_lay RX12 TX12 19 ∈ zT := wd5 123 rfl rfl
theorem wl12_20 : u_lay RX12 TX12 20 ∈ zT := wd5 125 rfl rfl
theorem wl12_21 : u_lay RX12 TX12 21 ∈ zT := wd5 127 rfl rfl
theorem wl12_22 : u_lay RX12 TX12 22 ∈ zT := wd5 129 rfl rfl
theorem wl12_23 : u_lay RX12 TX12 23 ∈ zT := wd5 131 rfl rfl
theorem wl12_24 : u_lay RX12 TX12 24 ∈ zT := wd5 133 rfl rfl
theorem wl12_25 : u_lay RX12 TX12 25 ∈ zT := wd5 135 rfl rfl
theorem wl12_26 : u_lay RX12 TX12 26 ∈ zT := wd5 137 rfl rfl
theorem wl12_27 : u_lay RX12 TX12 27 ∈ zT := wd5 139 rfl rfl
theorem wl12_28 : u_lay RX12 TX12 28 ∈ zT := wd5 141 rfl rfl
theorem wl12_29 : u_lay RX12 TX12 29 ∈ zT := wd5 143 rfl rfl
theorem wl12_30 : u_lay RX12 TX12 30 ∈ zT := wd5 145 rfl rfl
theorem wl12_31 : u_lay RX12 TX12 31 ∈ zT := wd5 147 rfl rfl
theorem wl12_32 : u_lay RX12 TX12 32 ∈ zT := wd5 149 rfl rfl
theorem wl12_33 : u_lay RX12 TX12 33 ∈ zT := wd5 151 rfl rfl
theorem wl12_34 : u_lay RX12 TX12 34 ∈ zT := wd5 153 rfl rfl
theorem wl12_35 : u_lay RX12 TX12 35 ∈ zT := wd5 155 rfl rfl
theorem wl12_36 : u_lay RX12 TX12 36 ∈ zT := wd5 157 rfl rfl
theorem wl12_37 : u_lay RX12 TX12 37 ∈ zT := wd5 159 rfl rfl
theorem wl12_38 : u_lay RX12 TX12 38 ∈ zT := wd5 161 rfl rfl
theorem wl12_39 : u_lay RX12 TX12 39 ∈ zT := wd5 163 rfl rfl
theorem wl12_40 : u_lay RX12 TX12 40 ∈ zT := wd5 165 rfl rfl
theorem wl12_41 : u_lay RX12 TX12 41 ∈ zT := wd5 167 rfl rfl
theorem inZ12 : ∀ w ∈ u_ws RX12 TX12 42, w ∈ zT := by
  intro w hw
  obtain ⟨k, hk, rfl⟩ := List.mem_map.mp hw
  have hk := List.mem_range.mp hk
  match k, hk with
  | 0, _ => exact wl12_0
  | 1, _ => exact wl12_1
  | 2, _ => exact wl12_2
  | 3, _ => exact wl12_3
  | 4, _ => exact wl12_4
  | 5, _ => exact wl12_5
  | 6, _ => exact wl12_6
  | 7, _ => exact wl12_7
  | 8, _ => exact wl12_8
  | 9, _ => exact wl12_9
  | 10, _ => exact wl12_10
  | 11, _ => exact wl12_11
  | 12, _ => exact wl12_12
  | 13, _ => exact wl12_13
  | 14, _ => exact wl12_14
  | 15, _ => exact wl12_15
  | 16, _ => exact wl12_16
  | 17, _ => exact wl12_17
  | 18, _ => exact wl12_18
  | 19, _ => exact wl12_19
  | 20, _ => exact wl12_20
  | 21, _ => exact wl12_21
  | 22, _ => exact wl12_22
  | 23, _ => exact wl12_23
  | 24, _ => exact wl12_24
  | 25, _ => exact wl12_25
  | 26, _ => exact wl12_26
  | 27, _ => exact wl12_27
  | 28, _ => exact wl12_28
  | 29, _ => exact wl12_29
  | 30, _ => exact wl12_30
  | 31, _ => exact wl12_31
  | 32, _ => exact wl12_32
  | 33, _ => exact wl12_33
  | 34, _ => exact wl12_34
  | 35, _ => exact wl12_35
  | 36, _ => exact wl12_36
  | 37, _ => exact wl12_37
  | 38, _ => exact wl12_38
  | 39, _ => exact wl12_39
  | 40, _ => exact wl12_40
  | 41, _ => exact wl12_41
  | k + 42, hk => exact absurd hk (by omega)
def zty : Nat → Nat → FieldType := fun ci => match ci with
  | 0 => tyX0
  | 1 => tyX1
  | 2 => tyX2
  | 3 => tyX3
  | 4 => tyX4
  | 5 => tyX5
  | 6 => tyX6
  | 7 => tyX7
  | 8 => tyX8
  | 9 => tyX9
  | 10 => tyX10
  | 11 => tyX11
  | _ => tyX12
def zCl (ci : Nat) (C : String) (T : u_T) (N : Nat) : Prop := vwCl[ci]? = some (C, T, N) ∧ (∀ w ∈ u_ws C T N, w ∈ zT) ∧ (∀ a, a < N → ∀ b, b < N → a ≠ b → (T a).2.1 ≠ (T b).2.1) ∧ (∀ k, k < N → parseFieldDescriptor (T k).2.2.1 = some (zty ci k)) ∧ Cond.instantiable C N ∈ zT ∧ Cond.initialized C ∈ zT
theorem zcl0 : zCl 0 RX0 TX0 3 := ⟨rfl, inZ0, nmX0, tyX0_ok, wd2 107 rfl rfl, wd1 12 rfl rfl⟩
theorem zcl1 : zCl 1 RX1 TX1 2 := ⟨rfl, inZ1, nmX1, tyX1_ok, wd1 78 rfl rfl, wd1 4 rfl rfl⟩
theorem zcl2 : zCl 2 RX2 TX2 10 := ⟨rfl, inZ2, nmX2, tyX2_ok, wd1 85 rfl rfl, wd1 5 rfl rfl⟩
theorem zcl3 : zCl 3 RX3 TX3 9 := ⟨rfl, inZ3, nmX3, tyX3_ok, wd1 29 rfl rfl, wd1 2 rfl rfl⟩
theorem zcl4 : zCl 4 RX4 TX4 5 := ⟨rfl, inZ4, nmX4, tyX4_ok, wd2 85 rfl rfl, wd1 11 rfl rfl⟩
theorem zcl5 : zCl 5 RX5 TX5 8 := ⟨rfl, inZ5, nmX5, tyX5_ok, wd1 200 rfl rfl, wd1 7 rfl rfl⟩
theorem zcl6 : zCl 6 RX6 TX6 9 := ⟨rfl, inZ6, nmX6, tyX6_ok, wd2 50 rfl rfl, wd1 10 rfl rfl⟩
theorem zcl7 : zCl 7 RX7 TX7 3 := ⟨rfl, inZ7, nmX7, tyX7_ok, wd2 124 rfl rfl, wd1 13 rfl rfl⟩
theorem zcl8 : zCl 8 RX8 TX8 5 := ⟨rfl, inZ8, nmX8, tyX8_ok, wd1 233 rfl rfl, wd1 8 rfl rfl⟩
theorem zcl9 : zCl 9 RX9 TX9 7 := ⟨rfl, inZ9, nmX9, tyX9_ok, wd2 20 rfl rfl, wd1 9 rfl rfl⟩
theorem zcl10 : zCl 10 RX10 TX10 6 := ⟨rfl, inZ10, nmX10, tyX10_ok, wd1 171 rfl rfl, wd1 6 rfl rfl⟩
theorem zcl11 : zCl 11 RX11 TX11 12 := ⟨rfl, inZ11, nmX11, tyX11_ok, wd1 19 rfl rfl, wd1 1 rfl rfl⟩
theorem zcl12 : zCl 12 RX12 TX12 42 := ⟨rfl, inZ12, nmX12, tyX12_ok, wd5 23 rfl rfl, wd1 14 rfl rfl⟩
theorem zcl {ci : Nat} {C : String} {T : u_T} {N : Nat} (h : vwCl[ci]? = some (C, T, N)) : zCl ci C T N := by
  match ci, h with
  | 0, h => cases h; exact zcl0
  | 1, h => cases h; exact zcl1
  | 2, h => cases h; exact zcl2
  | 3, h => cases h; exact zcl3
  | 4, h => cases h; exact zcl4
  | 5, h => cases h; exact zcl5
  | 6, h => cases h; exact zcl6
  | 7, h => cases h; exact zcl7
  | 8, h => cases h; exact zcl8
  | 9, h => cases h; exact zcl9
  | 10, h => cases h; exact zcl10
  | 11, h => cases h; exact zcl11
  | 12, h => cases h; exact zcl12
  | k + 13, h => exact absurd h (by simp [vwCl])
theorem zkN : ∀ r, r < 68 → (zkd r).1 = 0 → (vwCl[(zkd r).2.1]?).map (fun q => q.2.2) = some (zkd r).2.2 := by decide +kernel
theorem zkN' {r ci N : Nat} {C : String} {T : u_T} {N' : Nat} (hr : r < 68) (h : zkd r = (0, ci, N)) (hc : vwCl[ci]? = some (C, T, N')) : N = N' := by
  have h2 := zkN r hr (by rw [h])
  rw [h] at h2
  dsimp only at h2
  rw [hc] at h2
  exact (Option.some.inj h2).symm
theorem zty0 : ∀ ci, ci < 13 → ∀ j, j < 42 → zfk ci j = 0 → (zFk.getD ci []).length > j → zty ci j = .int := by decide +kernel
theorem zty2 : ∀ ci, ci < 13 → ∀ j, j < 42 → zfk ci j = 2 → zty ci j = .long := by decide +kernel
theorem zfkN : ∀ ci, ci < 13 → (vwCl[ci]?).map (fun q => q.2.2) = some (zFk.getD ci []).length ∧ (zFk.getD ci []).length ≤ 42 := by decide +kernel
def zFld (own : String) (idx ci k : Nat) : Prop := ∃ (C : String) (T : u_T) (N : Nat), vwCl[ci]? = some (C, T, N) ∧ k < N ∧ Cond.fieldLink own idx (T k).1 (T k).2.1 (T k).2.2.1 ∈ zT
def zFldW (fin : Bool) (own : String) (idx ci k : Nat) : Prop := ∃ (C : String) (T : u_T) (N : Nat), vwCl[ci]? = some (C, T, N) ∧ k < N ∧ Cond.fieldLink own idx (T k).1 (T k).2.1 (T k).2.2.1 ∈ zT ∧ (T k).2.2.2 = fin ∧ (fin = true → (T k).1 = own)

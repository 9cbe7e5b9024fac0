section ZBR
variable {x : zX} {w : zWd} {n : Nat} {rf : zRef} {pc : Nat} {L L' : List (Nat × zV)} {st : List zV} {im : zMem} {lv : Int64} {Y : zY} {dd : Nat}
theorem zi_if_eq {a : Int32} {off : Int} {tgt : Nat} (hO : zOK x w Y dd) (hd : decode Y.2.1 pc = .ok (.ifCond .eq off, 3)) (ht : (pc : Int) + off = (tgt : Int)) (kt : a = 0 → zWg x w n rf tgt L st im lv) (kf : ¬ a = 0 → zWg x w n rf (pc + 3) L st im lv) : zWg x w n rf pc L (vI a :: st) im lv := by
  obtain ⟨p, l, e, R, s, m, args, below, meth, c, Q, n0, nm⟩ := x
  obtain ⟨hx, hb, hml, hown, hts, -⟩ := hO
  intro h126 H locs ls hP hS hl
  exact lv_if_eq hx hb hd ht (fun q => kt q h126 H locs ls hP hS hl) (fun q => kf q h126 H locs ls hP hS hl)
theorem zi_icmp_eq {a b : Int32} {off : Int} {tgt : Nat} (hO : zOK x w Y dd) (hd : decode Y.2.1 pc = .ok (.if_icmp .eq off, 3)) (ht : (pc : Int) + off = (tgt : Int)) (kt : a = b → zWg x w n rf tgt L st im lv) (kf : ¬ a = b → zWg x w n rf (pc + 3) L st im lv) : zWg x w n rf pc L (vI b :: vI a :: st) im lv := by
  obtain ⟨p, l, e, R, s, m, args, below, meth, c, Q, n0, nm⟩ := x
  obtain ⟨hx, hb, hml, hown, hts, -⟩ := hO
  intro h126 H locs ls hP hS hl
  exact lv_icmp_eq hx hb hd ht (fun q => kt q h126 H locs ls hP hS hl) (fun q => kf q h126 H locs ls hP hS hl)
theorem zi_if_ne {a : Int32} {off : Int} {tgt : Nat} (hO : zOK x w Y dd) (hd : decode Y.2.1 pc = .ok (.ifCond .ne off, 3)) (ht : (pc : Int) + off = (tgt : Int)) (kt : ¬ a = 0 → zWg x w n rf tgt L st im lv) (kf : a = 0 → zWg x w n rf (pc + 3) L st im lv) : zWg x w n rf pc L (vI a :: st) im lv := by
  obtain ⟨p, l, e, R, s, m, args, below, meth, c, Q, n0, nm⟩ := x
  obtain ⟨hx, hb, hml, hown, hts, -⟩ := hO
  intro h126 H locs ls hP hS hl
  exact lv_if_ne hx hb hd ht (fun q => kt q h126 H locs ls hP hS hl) (fun q => kf q h126 H locs ls hP hS hl)
theorem zi_icmp_ne {a b : Int32} {off : Int} {tgt : Nat} (hO : zOK x w Y dd) (hd : decode Y.2.1 pc = .ok (.if_icmp .ne off, 3)) (ht : (pc : Int) + off = (tgt : Int)) (kt : ¬ a = b → zWg x w n rf tgt L st im lv) (kf : a = b → zWg x w n rf (pc + 3) L st im lv) : zWg x w n rf pc L (vI b :: vI a :: st) im lv := by
  obtain ⟨p, l, e, R, s, m, args, below, meth, c, Q, n0, nm⟩ := x
  obtain ⟨hx, hb, hml, hown, hts, -⟩ := hO
  intro h126 H locs ls hP hS hl
  exact lv_icmp_ne hx hb hd ht (fun q => kt q h126 H locs ls hP hS hl) (fun q => kf q h126 H locs ls hP hS hl)
theorem zi_if_lt {a : Int32} {off : Int} {tgt : Nat} (hO : zOK x w Y dd) (hd : decode Y.2.1 pc = .ok (.ifCond .lt off, 3)) (ht : (pc : Int) + off = (tgt : Int)) (kt : a < 0 → zWg x w n rf tgt L st im lv) (kf : ¬ a < 0 → zWg x w n rf (pc + 3) L st im lv) : zWg x w n rf pc L (vI a :: st) im lv := by
  obtain ⟨p, l, e, R, s, m, args, below, meth, c, Q, n0, nm⟩ := x
  obtain ⟨hx, hb, hml, hown, hts, -⟩ := hO
  intro h126 H locs ls hP hS hl
  exact lv_if_lt hx hb hd ht (fun q => kt q h126 H locs ls hP hS hl) (fun q => kf q h126 H locs ls hP hS hl)
theorem zi_icmp_lt {a b : Int32} {off : Int} {tgt : Nat} (hO : zOK x w Y dd) (hd : decode Y.2.1 pc = .ok (.if_icmp .lt off, 3)) (ht : (pc : Int) + off = (tgt : Int)) (kt : a < b → zWg x w n rf tgt L st im lv) (kf : ¬ a < b → zWg x w n rf (pc + 3) L st im lv) : zWg x w n rf pc L (vI b :: vI a :: st) im lv := by
  obtain ⟨p, l, e, R, s, m, args, below, meth, c, Q, n0, nm⟩ := x
  obtain ⟨hx, hb, hml, hown, hts, -⟩ := hO
  intro h126 H locs ls hP hS hl
  exact lv_icmp_lt hx hb hd ht (fun q => kt q h126 H locs ls hP hS hl) (fun q => kf q h126 H locs ls hP hS hl)
theorem zi_if_ge {a : Int32} {off : Int} {tgt : Nat} (hO : zOK x w Y dd) (hd : decode Y.2.1 pc = .ok (.ifCond .ge off, 3)) (ht : (pc : Int) + off = (tgt : Int)) (kt : 0 ≤ a → zWg x w n rf tgt L st im lv) (kf : ¬ 0 ≤ a → zWg x w n rf (pc + 3) L st im lv) : zWg x w n rf pc L (vI a :: st) im lv := by
  obtain ⟨p, l, e, R, s, m, args, below, meth, c, Q, n0, nm⟩ := x
  obtain ⟨hx, hb, hml, hown, hts, -⟩ := hO
  intro h126 H locs ls hP hS hl
  exact lv_if_ge hx hb hd ht (fun q => kt q h126 H locs ls hP hS hl) (fun q => kf q h126 H locs ls hP hS hl)
theorem zi_icmp_ge {a b : Int32} {off : Int} {tgt : Nat} (hO : zOK x w Y dd) (hd : decode Y.2.1 pc = .ok (.if_icmp .ge off, 3)) (ht : (pc : Int) + off = (tgt : Int)) (kt : b ≤ a → zWg x w n rf tgt L st im lv) (kf : ¬ b ≤ a → zWg x w n rf (pc + 3) L st im lv) : zWg x w n rf pc L (vI b :: vI a :: st) im lv := by
  obtain ⟨p, l, e, R, s, m, args, below, meth, c, Q, n0, nm⟩ := x
  obtain ⟨hx, hb, hml, hown, hts, -⟩ := hO
  intro h126 H locs ls hP hS hl
  exact lv_icmp_ge hx hb hd ht (fun q => kt q h126 H locs ls hP hS hl) (fun q => kf q h126 H locs ls hP hS hl)
theorem zi_if_gt {a : Int32} {off : Int} {tgt : Nat} (hO : zOK x w Y dd) (hd : decode Y.2.1 pc = .ok (.ifCond .gt off, 3)) (ht : (pc : Int) + off = (tgt : Int)) (kt : 0 < a → zWg x w n rf tgt L st im lv) (kf : ¬ 0 < a → zWg x w n rf (pc + 3) L st im lv) : zWg x w n rf pc L (vI a :: st) im lv := by
  obtain ⟨p, l, e, R, s, m, args, below, meth, c, Q, n0, nm⟩ := x
  obtain ⟨hx, hb, hml, hown, hts, -⟩ := hO
  intro h126 H locs ls hP hS hl
  exact lv_if_gt hx hb hd ht (fun q => kt q h126 H locs ls hP hS hl) (fun q => kf q h126 H locs ls hP hS hl)
theorem zi_icmp_gt {a b : Int32} {off : Int} {tgt : Nat} (hO : zOK x w Y dd) (hd : decode Y.2.1 pc = .ok (.if_icmp .gt off, 3)) (ht : (pc : Int) + off = (tgt : Int)) (kt : b < a → zWg x w n rf tgt L st im lv) (kf : ¬ b < a → zWg x w n rf (pc + 3) L st im lv) : zWg x w n rf pc L (vI b :: vI a :: st) im lv := by
  obtain ⟨p, l, e, R, s, m, args, below, meth, c, Q, n0, nm⟩ := x
  obtain ⟨hx, hb, hml, hown, hts, -⟩ := hO
  intro h126 H locs ls hP hS hl
  exact lv_icmp_gt hx hb hd ht (fun q => kt q h126 H locs ls hP hS hl) (fun q => kf q h126 H locs ls hP hS hl)
theorem zi_if_le {a : Int32} {off : Int} {tgt : Nat} (hO : zOK x w Y dd) (hd : decode Y.2.1 pc = .ok (.ifCond .le off, 3)) (ht : (pc : Int) + off = (tgt : Int)) (kt : a ≤ 0 → zWg x w n rf tgt L st im lv) (kf : ¬ a ≤ 0 → zWg x w n rf (pc + 3) L st im lv) : zWg x w n rf pc L (vI a :: st) im lv := by
  obtain ⟨p, l, e, R, s, m, args, below, meth, c, Q, n0, nm⟩ := x
  obtain ⟨hx, hb, hml, hown, hts, -⟩ := hO
  intro h126 H locs ls hP hS hl
  exact lv_if_le hx hb hd ht (fun q => kt q h126 H locs ls hP hS hl) (fun q => kf q h126 H locs ls hP hS hl)
theorem zi_icmp_le {a b : Int32} {off : Int} {tgt : Nat} (hO : zOK x w Y dd) (hd : decode Y.2.1 pc = .ok (.if_icmp .le off, 3)) (ht : (pc : Int) + off = (tgt : Int)) (kt : a ≤ b → zWg x w n rf tgt L st im lv) (kf : ¬ a ≤ b → zWg x w n rf (pc + 3) L st im lv) : zWg x w n rf pc L (vI b :: vI a :: st) im lv := by
  obtain ⟨p, l, e, R, s, m, args, below, meth, c, Q, n0, nm⟩ := x
  obtain ⟨hx, hb, hml, hown, hts, -⟩ := hO
  intro h126 H locs ls hP hS hl
  exact lv_icmp_le hx hb hd ht (fun q => kt q h126 H locs ls hP hS hl) (fun q => kf q h126 H locs ls hP hS hl)
theorem zi_tableOut {dflt lo hi : Int} {offs : Array Int} {len : Nat} {a : Int32} {tgt : Nat} (hO : zOK x w Y dd) (hd : decode Y.2.1 pc = .ok (.tableswitch dflt lo hi offs, len)) (h : a.toInt < lo ∨ hi < a.toInt) (ht : (pc : Int) + dflt = (tgt : Int)) (kk : zWg x w n rf tgt L st im lv) : zWg x w n rf pc L (vI a :: st) im lv :=
  zlift hO (fun hx hb _ _ _ k => lv_tableOut hx hb hd h ht k) kk
theorem zi_tableIn {dflt lo hi : Int} {offs : Array Int} {len : Nat} {a : Int32} {off : Int} {tgt : Nat} (hO : zOK x w Y dd) (hd : decode Y.2.1 pc = .ok (.tableswitch dflt lo hi offs, len)) (h1 : ¬ a.toInt < lo) (h2 : ¬ hi < a.toInt) (ho : offs[(a.toInt - lo).toNat]? = some off) (ht : (pc : Int) + off = (tgt : Int)) (kk : zWg x w n rf tgt L st im lv) : zWg x w n rf pc L (vI a :: st) im lv :=
  zlift hO (fun hx hb _ _ _ k => lv_tableIn hx hb hd h1 h2 ho ht k) kk
/-- a local is stored: the list stays sorted -/
def zput : List (Nat × zV) → Nat → zV → List (Nat × zV)
  | [], i, v => [(i, v)]
  | q :: L, i, v => if q.1 = i then (i, v) :: L else if i < q.1 then (i, v) :: q :: L else q :: zput L i v
/-- sorted, and no long's second half at i -/
def zokL (i : Nat) : List (Nat × zV) → Bool
  | [] => true
  | [q] => decide (zcat q.2 = 1 ∨ ¬ q.1 + 1 = i)
  | q :: q' :: L => decide (q.1 < q'.1) && decide (zcat q.2 = 1 ∨ ¬ q.1 + 1 = i) && zokL i (q' :: L)
theorem zput_mem {i : Nat} {v : zV} : ∀ {L : List (Nat × zV)} {q : Nat × zV}, q ∈ zput L i v → q = (i, v) ∨ q ∈ L
  | [], q, h => Or.inl (List.mem_singleton.mp h)
  | a :: L, q, h => by
    unfold zput at h
    split at h
    · rcases List.mem_cons.mp h with h | h
      · exact Or.inl h
      · exact Or.inr (List.mem_cons_of_mem _ h)
    · split at h
      · rcases List.mem_cons.mp h with h | h
        · exact Or.inl h
        · exact Or.inr h
      · rcases List.mem_cons.mp h with h | h
        · exact Or.inr (h ▸ List.mem_cons_self)
        · rcases zput_mem h with h | h
          · exact Or.inl h
          · exact Or.inr (List.mem_cons_of_mem _ h)
theorem zokL_tail {i : Nat} {q : Nat × zV} {L : List (Nat × zV)} (h : zokL i (q :: L) = true) : zokL i L = true := by
  cases L with
  | nil => rfl
  | cons a L => unfold zokL at h; simp only [Bool.and_eq_true] at h; exact h.2
theorem zokL_lt {i : Nat} : ∀ {L : List (Nat × zV)} {q : Nat × zV}, zokL i (q :: L) = true → ∀ a ∈ L, q.1 < a.1
  | [], q, _, a, ha => by cases ha
  | b :: L, q, h, a, ha => by
    have h2 := zokL_tail h
    unfold zokL at h
    simp only [Bool.and_eq_true, decide_eq_true_eq] at h
    rcases List.mem_cons.mp ha with rfl | ha
    · exact h.1.1
    · exact Nat.lt_trans h.1.1 (zokL_lt h2 a ha)
theorem zokL_cat {i : Nat} : ∀ {L : List (Nat × zV)}, zokL i L = true → ∀ a ∈ L, zcat a.2 = 1 ∨ ¬ a.1 + 1 = i
  | [], _, a, ha => by cases ha
  | [b], h, a, ha => by
    unfold zokL at h
    rw [List.mem_singleton.mp ha]
    simpa using h
  | b :: b' :: L, h, a, ha => by
    have h2 := zokL_tail h
    unfold zokL at h
    simp only [Bool.and_eq_true, decide_eq_true_eq] at h
    rcases List.mem_cons.mp ha with rfl | ha
    · exact h.1.2
    · exact zokL_cat h2 a ha
theorem zput_ne {i : Nat} {v : zV} : ∀ {L : List (Nat × zV)}, zokL i L = true → ∀ {q : Nat × zV}, q ∈ zput L i v → q = (i, v) ∨ (q ∈ L ∧ ¬ q.1 = i)
  | [], _, q, h => Or.inl (List.mem_singleton.mp h)
  | a :: L, hs, q, h => by
    have hlt := zokL_lt hs
    have ht := zokL_tail hs
    unfold zput at h
    split at h
    · rename_i e
      rcases List.mem_cons.mp h with h | h
      · exact Or.inl h
      · exact Or.inr ⟨List.mem_cons_of_mem _ h, fun q2 => by have := hlt q h; omega⟩
    · rename_i e
      split at h
      · rename_i e2
        rcases List.mem_cons.mp h with h | h
        · exact Or.inl h
        · rcases List.mem_cons.mp h with rfl | h
          · exact Or.inr ⟨List.mem_cons_self, e⟩
          · exact Or.inr ⟨List.mem_cons_of_mem _ h, fun q2 => by have := hlt q h; omega⟩
      · rcases List.mem_cons.mp h with rfl | h
        · exact Or.inr ⟨List.mem_cons_self, e⟩
        · rcases zput_ne ht h with h | h
          · exact Or.inl h
          · exact Or.inr ⟨List.mem_cons_of_mem _ h.1, h.2⟩
theorem zstore1 {b : Nat} {ls : Array Slot} {nL i : Nat} {v : zV} (hk : zokL i L = true) (h : lv_has ls nL ((i, zcv b v) :: (zlc b L).filter (fun q => !(q.1 == i) && !(q.1 + 1 == i && q.2.category == 2)))) : lv_has ls nL (zlc b (zput L i v)) := by
  refine ⟨h.1, h.2.1, fun q hq => h.2.2 q ?_⟩
  obtain ⟨q', hq', rfl⟩ := List.mem_map.mp hq
  rcases zput_ne hk hq' with rfl | ⟨h1, h2⟩
  · exact List.mem_cons_self
  · refine List.mem_cons_of_mem _ (List.mem_filter.mpr ⟨List.mem_map.mpr ⟨q', h1, rfl⟩, ?_⟩)
    rcases zokL_cat hk q' h1 with hc | hc
    · simp [h2, zcv_cat, hc]
    · simp [h2, hc]
theorem zstore2 {b : Nat} {ls : Array Slot} {nL i : Nat} {v : zV} (hk : zokL i L = true) (hk2 : L.all (fun q => !(q.1 == i + 1)) = true) (h : lv_has ls nL ((i, zcv b v) :: (zlc b L).filter (fun q => !(q.1 == i) && (!(q.1 == i + 1) && !(q.1 + 1 == i && q.2.category == 2))))) : lv_has ls nL (zlc b (zput L i v)) := by
  refine ⟨h.1, h.2.1, fun q hq => h.2.2 q ?_⟩
  obtain ⟨q', hq', rfl⟩ := List.mem_map.mp hq
  rcases zput_ne hk hq' with rfl | ⟨h1, h2⟩
  · exact List.mem_cons_self
  · have h3 := List.all_eq_true.mp hk2 q' h1
    refine List.mem_cons_of_mem _ (List.mem_filter.mpr ⟨List.mem_map.mpr ⟨q', h1, rfl⟩, ?_⟩)
    rcases zokL_cat hk q' h1 with hc | hc
    · simp at h3; simp [h2, h3, zcv_cat, hc]
    · simp at h3; simp [h2, h3, hc]
theorem zi_istore_n {a : Fin 4} {v : Int32} (hO : zOK x w Y dd) (hd : decode Y.2.1 pc = .ok (.istore_n a, 1)) (hn : (a : Nat) < Y.2.2.1) (hk : zokL (a : Nat) L = true) (hL : zput L (a : Nat) (vI v) = L') (kk : zWg x w n rf (pc + 1) L' st im lv) : zWg x w n rf pc L (vI v :: st) im lv := by
  obtain ⟨p, l, e, R, s, m, args, below, meth, c, Q, n0, nm⟩ := x
  obtain ⟨hx, hb, hml, hown, hts, -⟩ := hO
  subst hL
  intro h126 H locs ls hP hS hl
  exact lv_istore_n hx hb hd rfl hl (by rw [hml]; exact hn) rfl (fun ls' hl' => kk h126 H locs ls' hP hS (zstore1 hk hl'))
theorem zi_istore {a : Nat} {v : Int32} (hO : zOK x w Y dd) (hd : decode Y.2.1 pc = .ok (.istore a, 2)) (hn : a < Y.2.2.1) (hk : zokL a L = true) (hL : zput L a (vI v) = L') (kk : zWg x w n rf (pc + 2) L' st im lv) : zWg x w n rf pc L (vI v :: st) im lv := by
  obtain ⟨p, l, e, R, s, m, args, below, meth, c, Q, n0, nm⟩ := x
  obtain ⟨hx, hb, hml, hown, hts, -⟩ := hO
  subst hL
  intro h126 H locs ls hP hS hl
  exact lv_istore hx hb hd hl (by rw [hml]; exact hn) rfl (fun ls' hl' => kk h126 H locs ls' hP hS (zstore1 hk hl'))
theorem zi_astore_n {a : Fin 4} {r i : Nat} (hO : zOK x w Y dd) (hd : decode Y.2.1 pc = .ok (.astore_n a, 1)) (hn : (a : Nat) < Y.2.2.1) (hk : zokL (a : Nat) L = true) (hL : zput L (a : Nat) (vR r i) = L') (kk : zWg x w n rf (pc + 1) L' st im lv) : zWg x w n rf pc L (vR r i :: st) im lv := by
  obtain ⟨p, l, e, R, s, m, args, below, meth, c, Q, n0, nm⟩ := x
  obtain ⟨hx, hb, hml, hown, hts, -⟩ := hO
  subst hL
  intro h126 H locs ls hP hS hl
  exact lv_astore_n hx hb hd rfl hl (by rw [hml]; exact hn) rfl (fun ls' hl' => kk h126 H locs ls' hP hS (zstore1 hk hl'))
theorem zi_astore {a : Nat} {r i : Nat} (hO : zOK x w Y dd) (hd : decode Y.2.1 pc = .ok (.astore a, 2)) (hn : a < Y.2.2.1) (hk : zokL a L = true) (hL : zput L a (vR r i) = L') (kk : zWg x w n rf (pc + 2) L' st im lv) : zWg x w n rf pc L (vR r i :: st) im lv := by
  obtain ⟨p, l, e, R, s, m, args, below, meth, c, Q, n0, nm⟩ := x
  obtain ⟨hx, hb, hml, hown, hts, -⟩ := hO
  subst hL
  intro h126 H locs ls hP hS hl
  exact lv_astore hx hb hd hl (by rw [hml]; exact hn) rfl (fun ls' hl' => kk h126 H locs ls' hP hS (zstore1 hk hl'))
theorem zi_lstore_n {a : Fin 4} {v : Int64} (hO : zOK x w Y dd) (hd : decode Y.2.1 pc = .ok (.lstore_n a, 1)) (hn : (a : Nat) + 1 < Y.2.2.1) (hk : zokL (a : Nat) L = true) (hk2 : L.all (fun q => !(q.1 == (a : Nat) + 1)) = true) (hL : zput L (a : Nat) (vL v) = L') (kk : zWg x w n rf (pc + 1) L' st im lv) : zWg x w n rf pc L (vL v :: st) im lv := by
  obtain ⟨p, l, e, R, s, m, args, below, meth, c, Q, n0, nm⟩ := x
  obtain ⟨hx, hb, hml, hown, hts, -⟩ := hO
  subst hL
  intro h126 H locs ls hP hS hl
  exact lv_lstore_n hx hb hd rfl hl (by rw [hml]; exact hn) rfl (fun ls' hl' => kk h126 H locs ls' hP hS (zstore2 hk hk2 hl'))
theorem zi_lstore {a : Nat} {v : Int64} (hO : zOK x w Y dd) (hd : decode Y.2.1 pc = .ok (.lstore a, 2)) (hn : a + 1 < Y.2.2.1) (hk : zokL a L = true) (hk2 : L.all (fun q => !(q.1 == a + 1)) = true) (hL : zput L a (vL v) = L') (kk : zWg x w n rf (pc + 2) L' st im lv) : zWg x w n rf pc L (vL v :: st) im lv := by
  obtain ⟨p, l, e, R, s, m, args, below, meth, c, Q, n0, nm⟩ := x
  obtain ⟨hx, hb, hml, hown, hts, -⟩ := hO
  subst hL
  intro h126 H locs ls hP hS hl
  exact lv_lstore hx hb hd hl (by rw [hml]; exact hn) rfl (fun ls' hl' => kk h126 H locs ls' hP hS (zstore2 hk hk2 hl'))
theorem zi_iinc {a : Nat} {d : Int} {v v' : Int32} (hO : zOK x w Y dd) (hd : decode Y.2.1 pc = .ok (.iinc a d, 3)) (k : Nat) (hv : L[k]? = some (a, vI v)) (hv' : v + Int32.ofInt d = v') (hn : a < Y.2.2.1) (hk : zokL a L = true) (hL : zput L a (vI v') = L') (kk : zWg x w n rf (pc + 3) L' st im lv) : zWg x w n rf pc L st im lv := by
  obtain ⟨p, l, e, R, s, m, args, below, meth, c, Q, n0, nm⟩ := x
  obtain ⟨hx, hb, hml, hown, hts, -⟩ := hO
  subst hL
  intro h126 H locs ls hP hS hl
  exact lv_iinc hx hb hd hl (k := k) (x := v) (by rw [List.getElem?_map, hv]; rfl) hv' (by rw [hml]; exact hn) rfl (fun ls' hl' => kk h126 H locs ls' hP hS (zstore1 hk hl'))
end ZBR

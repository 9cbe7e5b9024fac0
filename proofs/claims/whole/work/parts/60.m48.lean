/-! rows for the constructors -/
def zwR (rf : zRef) (r i k : Nat) (v : Nat × Nat) : zRef := fun r' i' k' => bif Nat.beq r' r && (Nat.beq i' i && Nat.beq k' k) then some v else rf r' i' k'
theorem zwR_eq {rf : zRef} {r i k : Nat} {v : Nat × Nat} : zsetR rf r i (zupR (rf r i) k (some v)) = zwR rf r i k v := by
  funext r' i' k'
  unfold zsetR zupR zwR
  by_cases h1 : r' = r
  · subst h1
    by_cases h2 : i' = i
    · subst h2
      by_cases h3 : k' = k
      · subst h3
        simp
      · have : Nat.beq k' k = false := by
          rw [← Bool.not_eq_true, Nat.beq_eq]
          exact h3
        simp [h3, this]
    · have : Nat.beq i' i = false := by
        rw [← Bool.not_eq_true, Nat.beq_eq]
        exact h2
      simp [h2, this]
  · have : Nat.beq r' r = false := by
      rw [← Bool.not_eq_true, Nat.beq_eq]
      exact h1
    simp [h1, this]
def zflt (im : zMem) (r i N : Nat) (v : Int32) : zMem := zset im r i (fun k => if k < N then v else im r i k)
theorem zflt_0 {im : zMem} {r i : Nat} {v : Int32} : zflt im r i 0 v = im := by
  unfold zflt
  rw [show (fun k => if k < 0 then v else im r i k) = im r i from funext fun k => if_neg (Nat.not_lt_zero k)]
  exact zset_id
theorem zflt_s {im : zMem} {r i j : Nat} {v : Int32} : zwr (zflt im r i j v) r i j v = zflt im r i (j + 1) v := by
  unfold zwr zflt
  rw [zset_eq, zset_set]
  congr 1
  funext k
  unfold upd
  by_cases h : k = j
  · subst h
    simp
  · by_cases h2 : k < j
    · simp [h, h2, Nat.lt_succ_of_lt h2]
    · rw [if_neg h, if_neg (by omega)]
      exact if_neg h2
theorem zN_to {x : zX} {n nm a b : Nat} (h : zN x n nm) (h1 : n ≤ a) (h2 : a ≤ b) (h3 : b ≤ nm) : zN x a b := by
  obtain ⟨p, l, e, R, s, m, args, below, meth, c, Q, n0, nm'⟩ := x
  obtain ⟨g0, g1, g2⟩ := h
  exact ⟨by omega, h2, by omega⟩
theorem zky {k r i : Nat} (h : i < zcnt r) (e : k = zad r i) : zkey k = (r, i) := e ▸ (zka h).1
def zdefB : Nat → Nat → Bool := fun ci j => match zfk ci j, defaultValue (zty ci j) with
  | 0, .int v => v == 0
  | 1, .null => true
  | 2, .long v => v == 0
  | _, _ => false
theorem zdef0 : ∀ ci, ci < 13 → ∀ j, j < (zFk.getD ci []).length → zdefB ci j = true := by decide +kernel
theorem zdef {ci N : Nat} (hc : ci < 13) (hN : N = (zFk.getD ci []).length) : ∀ j, j < N → defaultValue (zty ci j) = (if zfk ci j = 0 then .int 0 else if zfk ci j = 1 then .null else .long 0) := by
  intro j hj
  have h := zdef0 ci hc j (hN ▸ hj)
  unfold zdefB at h
  split at h
  · rename_i h1 h2
    rw [h1, h2, eq_of_beq h]
    rfl
  · rename_i h1 h2
    rw [h1, h2]
    rfl
  · rename_i h1 h2
    rw [h1, h2, eq_of_beq h]
    rfl
  · cases h
section ZKR
variable {x : zX} {w : zWd} {n n' : Nat} {rf : zRef} {pc : Nat} {L L' : List (Nat × zV)} {st : List zV} {im : zMem} {lv : Int64} {Y : zY} {dd : Nat} {post : zV → zRef → zMem → Int64 → Prop}
theorem zk_putI {idx ci k r i N : Nat} {v : Int32} (hO : zOK x w Y dd) (hd : decode Y.2.1 pc = .ok (.putfield idx, 3)) (hf : zFldW false Y.1.cls idx ci k) (hk : zkd r = (0, ci, N)) (h0 : zfk ci k = 0) (hi : zin n r i) (kk : zWg x w n rf (pc + 3) L st (zwr im r i k v) lv) : zWg x w n rf pc L (vI v :: vR r i :: st) im lv :=
  zi_putI hO hd hf hk h0 hi kk
theorem zk_putI0 {idx ci k r i N : Nat} {v : Int32} (hO : zOK x w Y dd) (hd : decode Y.2.1 pc = .ok (.putfield idx, 3)) (hf : zFldW false Y.1.cls idx ci k) (hk : zkd r = (0, ci, N)) (h0 : zfk ci k = 0) (hi : zin n r i) (hv : im r i k = v) (kk : zWg x w n rf (pc + 3) L st im lv) : zWg x w n rf pc L (vI v :: vR r i :: st) im lv :=
  zk_putI hO hd hf hk h0 hi (by rw [zwr_id hv]; exact kk)
theorem zk_putR {idx ci k r i N r' i' nm' : Nat} (hO : zOK x w Y dd) (hR : zRet x w Y nm' post) (hin : Y.1.name = "<init>") (hd : decode Y.2.1 pc = .ok (.putfield idx, 3)) (hf : zFldW true Y.1.cls idx ci k) (hk : zkd r = (0, ci, N)) (h0 : zfk ci k = 1) (hi : zin n r i) (kk : zWg x w n (zwR rf r i k (r', i')) (pc + 3) L st im lv) : zWg x w n rf pc L (vR r' i' :: vR r i :: st) im lv :=
  zi_putR hO hR hin hd hf hk h0 hi (by rw [zwR_eq]; exact kk)
theorem zk_iast {r i N z k : Nat} {a v : Int32} (hO : zOK x w Y dd) (hd : decode Y.2.1 pc = .ok (.iastore, 1)) (hk : zkd r = (1, N, z)) (hi : zin n r i) (ha : vp_in a N) (hak : a.toNatClampNeg = k) (kk : zWg x w n rf (pc + 1) L st (zwr im r i k v) lv) : zWg x w n rf pc L (vI v :: vI a :: vR r i :: st) im lv :=
  zi_iast hO hd hk hi ha (by rw [hak]; exact kk)
theorem zk_aast {r i N z t r' i' ci N2 k : Nat} {a : Int32} (hO : zOK x w Y dd) (hd : decode Y.2.1 pc = .ok (.aastore, 1)) (hk : zkd r = (t + 2, N, z)) (hi : zin n r i) (ha : vp_in a N) (hak : a.toNatClampNeg = k) (hk' : zkd r' = (0, ci, N2)) (hi' : zin n r' i') (hci : ci = if t = 0 then 7 else 2) (kk : zWg x w n (zwR rf r i k (r', i')) (pc + 1) L st im lv) : zWg x w n rf pc L (vR r' i' :: vI a :: vR r i :: st) im lv :=
  zi_aast hO hd hk hi ha hk' hi' hci (by rw [hak, zwR_eq]; exact kk)
theorem zk_newarr {r i N z : Nat} {a : Int32} (hO : zOK x w Y dd) (hNN : zN x n n') (hn : n' = n + 1) (h127 : n' ≤ 126) (hd : decode Y.2.1 pc = .ok (.newarray .int, 2)) (hky : zkey n = (r, i)) (hk : zkd r = (1, N, z)) (h0 : im r i = fun _ => 0) (ha : ¬ a < 0) (haN : a.toNatClampNeg = N) (hN : N ≤ 4000)
    (kk : zWg x w n' rf (pc + 2) L (vR r i :: st) im lv) : zWg x w n rf pc L (vI a :: st) im lv := by
  subst hn
  exact zi_newarr hO hNN h127 hd q_ai hky hk h0 ha haN hN kk
theorem zk_new {idx ci r i N : Nat} {C : String} {T : u_T} (hO : zOK x w Y dd) (hNN : zN x n n') (hn : n' = n + 1) (h127 : n' ≤ 126) (hd : decode Y.2.1 pc = .ok (.new idx, 3)) (hcl : Cond.classLink Y.1.cls idx C ∈ zT) (hc : vwCl[ci]? = some (C, T, N)) (hky : zkey n = (r, i)) (hk : zkd r = (0, ci, N)) (h0 : im r i = fun _ => 0) (hr : rf r i = fun _ => none) (hlv : lv = 0) (hci : ci < 13) (hfk : N = (zFk.getD ci []).length)
    (kk : zWg x w n' rf (pc + 3) L (vR r i :: st) im lv) : zWg x w n rf pc L st im lv := by
  subst hn
  exact zi_new hO hNN h127 hd hcl hc hky hk h0 hr hlv (zdef hci hfk) kk
theorem zk_anew {idx r i N z t : Nat} {a : Int32} {C : String} (hO : zOK x w Y dd) (hNN : zN x n n') (hn : n' = n + 1) (h127 : n' ≤ 126) (hd : decode Y.2.1 pc = .ok (.anewarray idx, 3)) (hcl : Cond.classLink Y.1.cls idx C ∈ zT) (hC : (t = 0 ∧ C = "RoomsOfAir$Sheet") ∨ (t = 1 ∧ C = "RoomsOfAir$Flight")) (hky : zkey n = (r, i)) (hk : zkd r = (t + 2, N, z)) (hr : rf r i = fun _ => none) (ha : ¬ a < 0) (haN : a.toNatClampNeg = N) (hN : N ≤ 4000)
    (kk : zWg x w n' rf (pc + 3) L (vR r i :: st) im lv) : zWg x w n rf pc L (vI a :: st) im lv := by
  subst hn
  exact zi_anew hO hNN h127 hd hcl hC hky hk hr ha haN hN kk
end ZKR
/-- Arrays.fill, wherever it stands -/
theorem C_fill_g (l : Launch) (w : zWd) {n : Nat} {rf : zRef} {im : zMem} {lv : Int64} {r i N : Nat} (v : Int32) (hn : n ≤ 126) (hk : zkd r = (1, N, 0)) (hi : zin n r i) (hN : N ≤ 4000) : zSpecg l w 2 zyJ7_fill_53178 n rf n [vR r i, vI v] im lv (fun _ rf' im' lv' => rf' = rf ∧ im' = zflt im r i N v ∧ lv' = lv) := by
  refine zenter (Nat.le_refl _) hn (by decide) (Nat.le_of_ble_eq_true rfl) (fun x hO hR hNN => ?_)
  show zWg x w n rf 0 [(0, vR r i), (1, vI v)] [] im lv
  have key : ∀ a j, a + j = N → zWg x w n rf 5 [(0, vR r i), (1, vI v), (2, vI (nI j)), (3, vI (nI N))] [] (zflt im r i j v) lv := by
    intro a
    induction a with
    | zero =>
      intro j hj
      have hj : j = N := by omega
      subst hj
      refine zi_iload_n hO dJ7_fill_53178_5 2 rfl ?_
      refine zi_iload_n hO dJ7_fill_53178_6 3 rfl ?_
      refine zi_icmp_ge (tgt := 20) hO dJ7_fill_53178_7 (by decide) (fun _ => ?_) (fun c => absurd ((nI_leI (by omega) (by omega)).mpr (Nat.le_refl _)) c)
      exact zi_vreturn hO hR rfl dJ7_fill_53178_20 ⟨rfl, rfl, rfl⟩
    | succ a ih =>
      intro j hj
      refine zi_iload_n hO dJ7_fill_53178_5 2 rfl ?_
      refine zi_iload_n hO dJ7_fill_53178_6 3 rfl ?_
      refine zi_icmp_ge (tgt := 20) hO dJ7_fill_53178_7 (by decide) (fun c => absurd ((nI_leI (by omega) (by omega)).mp c) (by omega)) (fun _ => ?_)
      refine zi_aload_n hO dJ7_fill_53178_10 0 rfl ?_
      refine zi_iload_n hO dJ7_fill_53178_11 2 rfl ?_
      refine zi_iload_n hO dJ7_fill_53178_12 1 rfl ?_
      refine zk_iast (k := j) hO dJ7_fill_53178_13 hk hi (vp_in_nI (by omega) (by omega)) (nI_clamp (by omega)) ?_
      rw [zflt_s]
      refine zi_iinc (v' := nI (j + 1)) (L' := [(0, vR r i), (1, vI v), (2, vI (nI (j + 1))), (3, vI (nI N))]) hO dJ7_fill_53178_14 2 rfl (nI_1 j) (by decide) rfl rfl ?_
      exact zi_goto (tgt := 5) hO dJ7_fill_53178_17 (by decide) (ih (j + 1) (by omega))
  refine zi_iconst (v := nI 0) hO dJ7_fill_53178_0 (by decide) ?_
  refine zi_istore_n (L' := [(0, vR r i), (1, vI v), (2, vI (nI 0))]) hO dJ7_fill_53178_1 (by decide) rfl rfl ?_
  refine zi_aload_n hO dJ7_fill_53178_2 0 rfl ?_
  refine zi_alen (v := nI N) hO dJ7_fill_53178_3 hk hi rfl ?_
  refine zi_istore_n (L' := [(0, vR r i), (1, vI v), (2, vI (nI 0)), (3, vI (nI N))]) hO dJ7_fill_53178_4 (by decide) rfl rfl ?_
  have h := key N 0 (by omega)
  rw [zflt_0] at h
  exact h

/-! THE ROWS OF G -/
section GR
variable {l : Launch} {K : Nat → ClassId} {D : va_G} {ad : Int → Nat} {NC : Nat} {E : gEnv} {d : Nat} {cc : ByteArray} {own : String} {M : GM} {cf : Int → (Int → Int) → va_E} {pc : Nat} {lv : List (Nat × Value)} {st : List Value} {σ : Mem}
theorem gd_x (C : Good l K D ad NC E d cc own M) : M.1.1.tables.exec = Jvm.exec := by unfold Good at C; exact C.1
theorem gd_b (C : Good l K D ad NC E d cc own M) : M.2.2.1.2.1.code = cc := by unfold Good at C; exact C.2.1
theorem gd_ml (C : Good l K D ad NC E d cc own M) : M.2.2.1.2.1.maxLocals = M.2.2.1.2.2 := by unfold Good at C; exact C.2.2.1
theorem gd_own (C : Good l K D ad NC E d cc own M) : M.2.1.1.vm.findClass own = some M.2.1.2.1.cls := by unfold Good at C; exact C.2.2.2.1
theorem gd_ts (C : Good l K D ad NC E d cc own M) : ∀ w ∈ gWs, w.before M.2.1.2.2.1 M.2.1.1 = true := by unfold Good at C; exact C.2.2.2.2.1
theorem gd_K (C : Good l K D ad NC E d cc own M) : va_K M.2.2.2.2.1 vwCl (gtys K) M.2.1.1 := by
  have hD : M.2.2.2.2.1 = D := by unfold Good at C; exact C.2.2.2.2.2.2.2.2.2.2.2.2.1
  rw [hD]
  unfold Good at C
  exact C.2.2.2.2.2.1
theorem gd_ap (C : Good l K D ad NC E d cc own M) : Apart ad NC := by unfold Good at C; exact C.2.2.2.2.2.2.1
theorem gd_A (C : Good l K D ad NC E d cc own M) : ∀ k : Int, 0 ≤ k → k < (NC : Int) → M.2.2.2.2.2 (ad k) := by unfold Good at C; exact C.2.2.2.2.2.2.2.1
theorem gd_N (C : Good l K D ad NC E d cc own M) : ∀ q, M.2.1.1.heap.size ≤ q → M.2.2.2.2.2 q := by unfold Good at C; exact C.2.2.2.2.2.2.2.2.1
theorem gd_E (C : Good l K D ad NC E d cc own M) : E M.2.2.2.2.2 M.2.1.1 M.2.1.1.heap := by unfold Good at C; exact C.2.2.2.2.2.2.2.2.2.1
theorem gd_R (C : Good l K D ad NC E d cc own M) : M.1.2.2.2 = rmd d := by unfold Good at C; exact C.2.2.2.2.2.2.2.2.2.2.1
theorem gd_l (C : Good l K D ad NC E d cc own M) : M.1.2.1 = l := by unfold Good at C; exact C.2.2.2.2.2.2.2.2.2.2.2.1
theorem gd_D (C : Good l K D ad NC E d cc own M) : M.2.2.2.2.1 = D := by unfold Good at C; exact C.2.2.2.2.2.2.2.2.2.2.2.2.1
theorem gd_Eo (C : Good l K D ad NC E d cc own M) : gEok E := by unfold Good at C; exact C.2.2.2.2.2.2.2.2.2.2.2.2.2
theorem gd_wD (C : Good l K D ad NC E d cc own M) : va_D M.2.2.2.2.2 (wd ad NC cf σ) := wd_D (gd_ap C) (gd_A C)
theorem gd_sub (C : Good l K D ad NC E d cc own M) {H : Heap} {locs : List Loc} (hS : va_S M.2.2.2.2.2 M.2.1.1.heap H locs) : ∀ q, gA ad NC H.size q → M.2.2.2.2.2 q := by
  intro q h
  rcases h with ⟨k, h0, h1, rfl⟩ | h
  · exact gd_A C k h0 h1
  · exact gd_N C q (Nat.le_trans hS.1 h)
theorem gd_EH (C : Good l K D ad NC E d cc own M) {H : Heap} {locs : List Loc} (hS : va_S M.2.2.2.2.2 M.2.1.1.heap H locs) : E M.2.2.2.2.2 M.2.1.1 H := (gd_Eo C).2.1 _ _ _ _ (gd_E C) (fun a h1 h2 => hS.2.1 a h1 h2)
/-! constants, locals, stack -/
theorem g_iconst (C : Good l K D ad NC E d cc own M) {n : Int} (hd : decode cc pc = .ok (.iconst n, 1)) (k : G M ad NC cf (pc + 1) lv (.int (iI n) :: st) σ) : G M ad NC cf pc lv st σ := fun H locs ls hP hS hl => lv_iconst (gd_x C) (gd_b C) hd rfl (k H locs ls hP hS hl)
theorem g_bipush (C : Good l K D ad NC E d cc own M) {n : Int} (hd : decode cc pc = .ok (.bipush n, 2)) (hn : (-128 ≤ n ∧ n < 128) := by decide) (k : G M ad NC cf (pc + 2) lv (.int (iI n) :: st) σ) : G M ad NC cf pc lv st σ := fun H locs ls hP hS hl => lv_bipush (gd_x C) (gd_b C) hd (g_c8 n hn) (k H locs ls hP hS hl)
theorem g_sipush (C : Good l K D ad NC E d cc own M) {n : Int} (hd : decode cc pc = .ok (.sipush n, 3)) (hn : (-32768 ≤ n ∧ n < 32768) := by decide) (k : G M ad NC cf (pc + 3) lv (.int (iI n) :: st) σ) : G M ad NC cf pc lv st σ := fun H locs ls hP hS hl => lv_sipush (gd_x C) (gd_b C) hd (g_c16 n hn) (k H locs ls hP hS hl)
theorem g_lconst (C : Good l K D ad NC E d cc own M) {n : Fin 2} {z : Int} (hd : decode cc pc = .ok (.lconst n, 1)) (hz : Int64.ofNat (n : Nat) = lI z) (k : G M ad NC cf (pc + 1) lv (.long (lI z) :: st) σ) : G M ad NC cf pc lv st σ := fun H locs ls hP hS hl => lv_lconst (gd_x C) (gd_b C) hd hz (k H locs ls hP hS hl)
theorem g_ldc (C : Good l K D ad NC E d cc own M) {index : Nat} {v : Int32} {n : Int} (hw : Cond.constant own index v ∈ gWs) (hv : v = iI n) (hd : decode cc pc = .ok (.ldc index, 2)) (k : G M ad NC cf (pc + 2) lv (.int (iI n) :: st) σ) : G M ad NC cf pc lv st σ := fun H locs ls hP hS hl => lv_ldc (v := iI n) (gd_x C) (gd_b C) (gd_own C) (gd_ts C _ (hv ▸ hw)) hd (k H locs ls hP hS hl)
theorem g_ldcw (C : Good l K D ad NC E d cc own M) {index : Nat} {v : Int32} {n : Int} (hw : Cond.constant own index v ∈ gWs) (hv : v = iI n) (hd : decode cc pc = .ok (.ldc_w index, 3)) (k : G M ad NC cf (pc + 3) lv (.int (iI n) :: st) σ) : G M ad NC cf pc lv st σ := fun H locs ls hP hS hl => lv_ldcw (v := iI n) (gd_x C) (gd_b C) (gd_own C) (gd_ts C _ (hv ▸ hw)) hd (k H locs ls hP hS hl)
theorem g_ldc2 (C : Good l K D ad NC E d cc own M) {index : Nat} {v : Int64} {n : Int} (hw : Cond.constantLong own index v ∈ gWs) (hv : v = lI n) (hd : decode cc pc = .ok (.ldc2_w index, 3)) (k : G M ad NC cf (pc + 3) lv (.long (lI n) :: st) σ) : G M ad NC cf pc lv st σ := fun H locs ls hP hS hl => lv_ldc2 (v := lI n) (gd_x C) (gd_b C) (gd_own C) (gd_ts C _ (hv ▸ hw)) hd (k H locs ls hP hS hl)
theorem g_iload_n (C : Good l K D ad NC E d cc own M) {kk : Fin 4} {i p : Nat} {x : Int32} (hd : decode cc pc = .ok (.iload_n kk, 1)) (hi : (kk : Nat) = i := by rfl) (hv : lv[p]? = some (i, .int x)) (k : G M ad NC cf (pc + 1) lv (.int x :: st) σ) : G M ad NC cf pc lv st σ := fun H locs ls hP hS hl => lv_iload_n (gd_x C) (gd_b C) hd hi (lv_at hl p hv) (k H locs ls hP hS hl)
theorem g_iload (C : Good l K D ad NC E d cc own M) {i p : Nat} {x : Int32} (hd : decode cc pc = .ok (.iload i, 2)) (hv : lv[p]? = some (i, .int x)) (k : G M ad NC cf (pc + 2) lv (.int x :: st) σ) : G M ad NC cf pc lv st σ := fun H locs ls hP hS hl => lv_iload (gd_x C) (gd_b C) hd (lv_at hl p hv) (k H locs ls hP hS hl)
theorem g_lload_n (C : Good l K D ad NC E d cc own M) {kk : Fin 4} {i p : Nat} {x : Int64} (hd : decode cc pc = .ok (.lload_n kk, 1)) (hi : (kk : Nat) = i := by rfl) (hv : lv[p]? = some (i, .long x)) (k : G M ad NC cf (pc + 1) lv (.long x :: st) σ) : G M ad NC cf pc lv st σ := fun H locs ls hP hS hl => lv_lload_n (gd_x C) (gd_b C) hd hi (lv_at hl p hv) (k H locs ls hP hS hl)
theorem g_lload (C : Good l K D ad NC E d cc own M) {i p : Nat} {x : Int64} (hd : decode cc pc = .ok (.lload i, 2)) (hv : lv[p]? = some (i, .long x)) (k : G M ad NC cf (pc + 2) lv (.long x :: st) σ) : G M ad NC cf pc lv st σ := fun H locs ls hP hS hl => lv_lload (gd_x C) (gd_b C) hd (lv_at hl p hv) (k H locs ls hP hS hl)
theorem g_aload_n (C : Good l K D ad NC E d cc own M) {kk : Fin 4} {i p : Nat} {x : Nat} (hd : decode cc pc = .ok (.aload_n kk, 1)) (hi : (kk : Nat) = i := by rfl) (hv : lv[p]? = some (i, .ref x)) (k : G M ad NC cf (pc + 1) lv (.ref x :: st) σ) : G M ad NC cf pc lv st σ := fun H locs ls hP hS hl => lv_aload_n (gd_x C) (gd_b C) hd hi (lv_at hl p hv) (k H locs ls hP hS hl)
theorem g_aload (C : Good l K D ad NC E d cc own M) {i p : Nat} {x : Nat} (hd : decode cc pc = .ok (.aload i, 2)) (hv : lv[p]? = some (i, .ref x)) (k : G M ad NC cf (pc + 2) lv (.ref x :: st) σ) : G M ad NC cf pc lv st σ := fun H locs ls hP hS hl => lv_aload (gd_x C) (gd_b C) hd (lv_at hl p hv) (k H locs ls hP hS hl)
theorem g_istore_n (C : Good l K D ad NC E d cc own M) {nL : Nat} (hn : M.2.2.1.2.2 = nL) {kk : Fin 4} {i : Nat} {x : Int32} {lv' : List (Nat × Value)} (hd : decode cc pc = .ok (.istore_n kk, 1)) (hi : (kk : Nat) = i) (hb : Nat.blt i nL = true) (hl' : (i, Value.int x) :: lv.filter (fun q => !(q.1 == i) && !(q.1 + 1 == i && q.2.category == 2)) = lv') (k : G M ad NC cf (pc + 1) lv' st σ) : G M ad NC cf pc lv (.int x :: st) σ := fun H locs ls hP hS hl => lv_istore_n (gd_x C) (gd_b C) hd hi hl (by rw [hn]; exact Nat.blt_eq.mp hb) hl' (fun ls' h => k H locs ls' hP hS h)
theorem g_istore (C : Good l K D ad NC E d cc own M) {nL : Nat} (hn : M.2.2.1.2.2 = nL) {i : Nat} {x : Int32} {lv' : List (Nat × Value)} (hd : decode cc pc = .ok (.istore i, 2)) (hb : Nat.blt i nL = true) (hl' : (i, Value.int x) :: lv.filter (fun q => !(q.1 == i) && !(q.1 + 1 == i && q.2.category == 2)) = lv') (k : G M ad NC cf (pc + 2) lv' st σ) : G M ad NC cf pc lv (.int x :: st) σ := fun H locs ls hP hS hl => lv_istore (gd_x C) (gd_b C) hd hl (by rw [hn]; exact Nat.blt_eq.mp hb) hl' (fun ls' h => k H locs ls' hP hS h)
theorem g_lstore_n (C : Good l K D ad NC E d cc own M) {nL : Nat} (hn : M.2.2.1.2.2 = nL) {kk : Fin 4} {i : Nat} {x : Int64} {lv' : List (Nat × Value)} (hd : decode cc pc = .ok (.lstore_n kk, 1)) (hi : (kk : Nat) = i) (hb : Nat.blt (i + 1) nL = true) (hl' : (i, Value.long x) :: lv.filter (fun q => !(q.1 == i) && (!(q.1 == i + 1) && !(q.1 + 1 == i && q.2.category == 2))) = lv') (k : G M ad NC cf (pc + 1) lv' st σ) : G M ad NC cf pc lv (.long x :: st) σ := fun H locs ls hP hS hl => lv_lstore_n (gd_x C) (gd_b C) hd hi hl (by rw [hn]; exact Nat.blt_eq.mp hb) hl' (fun ls' h => k H locs ls' hP hS h)
theorem g_lstore (C : Good l K D ad NC E d cc own M) {nL : Nat} (hn : M.2.2.1.2.2 = nL) {i : Nat} {x : Int64} {lv' : List (Nat × Value)} (hd : decode cc pc = .ok (.lstore i, 2)) (hb : Nat.blt (i + 1) nL = true) (hl' : (i, Value.long x) :: lv.filter (fun q => !(q.1 == i) && (!(q.1 == i + 1) && !(q.1 + 1 == i && q.2.category == 2))) = lv') (k : G M ad NC cf (pc + 2) lv' st σ) : G M ad NC cf pc lv (.long x :: st) σ := fun H locs ls hP hS hl => lv_lstore (gd_x C) (gd_b C) hd hl (by rw [hn]; exact Nat.blt_eq.mp hb) hl' (fun ls' h => k H locs ls' hP hS h)
theorem g_astore_n (C : Good l K D ad NC E d cc own M) {nL : Nat} (hn : M.2.2.1.2.2 = nL) {kk : Fin 4} {i : Nat} {x : Nat} {lv' : List (Nat × Value)} (hd : decode cc pc = .ok (.astore_n kk, 1)) (hi : (kk : Nat) = i) (hb : Nat.blt i nL = true) (hl' : (i, Value.ref x) :: lv.filter (fun q => !(q.1 == i) && !(q.1 + 1 == i && q.2.category == 2)) = lv') (k : G M ad NC cf (pc + 1) lv' st σ) : G M ad NC cf pc lv (.ref x :: st) σ := fun H locs ls hP hS hl => lv_astore_n (gd_x C) (gd_b C) hd hi hl (by rw [hn]; exact Nat.blt_eq.mp hb) hl' (fun ls' h => k H locs ls' hP hS h)
theorem g_astore (C : Good l K D ad NC E d cc own M) {nL : Nat} (hn : M.2.2.1.2.2 = nL) {i : Nat} {x : Nat} {lv' : List (Nat × Value)} (hd : decode cc pc = .ok (.astore i, 2)) (hb : Nat.blt i nL = true) (hl' : (i, Value.ref x) :: lv.filter (fun q => !(q.1 == i) && !(q.1 + 1 == i && q.2.category == 2)) = lv') (k : G M ad NC cf (pc + 2) lv' st σ) : G M ad NC cf pc lv (.ref x :: st) σ := fun H locs ls hP hS hl => lv_astore (gd_x C) (gd_b C) hd hl (by rw [hn]; exact Nat.blt_eq.mp hb) hl' (fun ls' h => k H locs ls' hP hS h)
theorem g_iinc (C : Good l K D ad NC E d cc own M) {nL : Nat} (hn : M.2.2.1.2.2 = nL) {i p : Nat} {n a : Int} {lv' : List (Nat × Value)} (hd : decode cc pc = .ok (.iinc i n, 3)) (hb : Nat.blt i nL = true) (hv : lv[p]? = some (i, .int (iI a))) (hl' : (i, Value.int (iI (a + n))) :: lv.filter (fun q => !(q.1 == i) && !(q.1 + 1 == i && q.2.category == 2)) = lv') (k : G M ad NC cf (pc + 3) lv' st σ) : G M ad NC cf pc lv st σ := fun H locs ls hP hS hl => lv_iinc (v := iI (a + n)) (gd_x C) (gd_b C) hd hl hv (by rw [← iI_add]; rfl) (by rw [hn]; exact Nat.blt_eq.mp hb) hl' (fun ls' h => k H locs ls' hP hS h)
theorem g_sub {lv' : List (Nat × Value)} (ks : List Nat) (h : lv_pick lv ks = lv') (k : G M ad NC cf pc lv' st σ) : G M ad NC cf pc lv st σ := fun H locs ls hP hS hl => k H locs ls hP hS (lv_sub hl ks h)
theorem g_eq {pc' : Nat} {lv' : List (Nat × Value)} {st' : List Value} {σ' : Mem} (h1 : pc = pc') (h2 : lv = lv') (h3 : st = st') (h4 : σ = σ') (k : G M ad NC cf pc' lv' st' σ') : G M ad NC cf pc lv st σ := by subst h1 h2 h3 h4; exact k
theorem g_dup (C : Good l K D ad NC E d cc own M) {va : Value} (hd : decode cc pc = .ok (.dup, 1)) (hc : va.category = 1) (k : G M ad NC cf (pc + 1) lv (va :: va :: st) σ) : G M ad NC cf pc lv (va :: st) σ := fun H locs ls hP hS hl => lv_dup (gd_x C) (gd_b C) hd hc (k H locs ls hP hS hl)
theorem g_dup2 (C : Good l K D ad NC E d cc own M) {va vb : Value} (hd : decode cc pc = .ok (.dup2, 1)) (hc : va.category = 1) (hc2 : vb.category = 1) (k : G M ad NC cf (pc + 1) lv (va :: vb :: va :: vb :: st) σ) : G M ad NC cf pc lv (va :: vb :: st) σ := fun H locs ls hP hS hl => lv_dup2_11 (gd_x C) (gd_b C) hd hc hc2 (k H locs ls hP hS hl)
theorem g_pop (C : Good l K D ad NC E d cc own M) {va : Value} (hd : decode cc pc = .ok (.pop, 1)) (hc : va.category = 1) (k : G M ad NC cf (pc + 1) lv st σ) : G M ad NC cf pc lv (va :: st) σ := fun H locs ls hP hS hl => lv_pop (gd_x C) (gd_b C) hd hc (k H locs ls hP hS hl)
/-! arithmetic -/
theorem g_iadd (C : Good l K D ad NC E d cc own M) {a b : Int} (hd : decode cc pc = .ok (.iadd, 1)) (k : G M ad NC cf (pc + 1) lv (.int (iI (a + b)) :: st) σ) : G M ad NC cf pc lv (.int (iI b) :: .int (iI a) :: st) σ := fun H locs ls hP hS hl => lv_iadd (gd_x C) (gd_b C) hd (by rw [iI_add]; exact k H locs ls hP hS hl)
theorem g_isub (C : Good l K D ad NC E d cc own M) {a b : Int} (hd : decode cc pc = .ok (.isub, 1)) (k : G M ad NC cf (pc + 1) lv (.int (iI (a - b)) :: st) σ) : G M ad NC cf pc lv (.int (iI b) :: .int (iI a) :: st) σ := fun H locs ls hP hS hl => lv_isub (gd_x C) (gd_b C) hd (by rw [iI_sub]; exact k H locs ls hP hS hl)
theorem g_imul (C : Good l K D ad NC E d cc own M) {a b : Int} (hd : decode cc pc = .ok (.imul, 1)) (k : G M ad NC cf (pc + 1) lv (.int (iI (a * b)) :: st) σ) : G M ad NC cf pc lv (.int (iI b) :: .int (iI a) :: st) σ := fun H locs ls hP hS hl => lv_imul (gd_x C) (gd_b C) hd (by rw [iI_mul]; exact k H locs ls hP hS hl)
theorem g_ineg (C : Good l K D ad NC E d cc own M) {a : Int} (hd : decode cc pc = .ok (.ineg, 1)) (k : G M ad NC cf (pc + 1) lv (.int (iI (-a)) :: st) σ) : G M ad NC cf pc lv (.int (iI a) :: st) σ := fun H locs ls hP hS hl => lv_ineg (gd_x C) (gd_b C) hd (by rw [iI_neg]; exact k H locs ls hP hS hl)
theorem tdiv_R3 {a b : Int} (ha : R3 a) (hb : 0 < b) : R3 (a.tdiv b) := by
  have h1 := Int.natAbs_tdiv a b
  have h2 : (a.tdiv b).natAbs ≤ a.natAbs := by rw [h1]; exact Nat.div_le_self _ _
  by_cases hz : 0 ≤ a
  · have h3 : 0 ≤ a.tdiv b := Int.tdiv_nonneg hz (by omega)
    exact ⟨by omega, by omega⟩
  · have h3 : a.tdiv b ≤ 0 := by
      have h4 : 0 ≤ (-a).tdiv b := Int.tdiv_nonneg (by omega) (by omega)
      rw [Int.neg_tdiv] at h4
      omega
    exact ⟨by omega, by omega⟩
theorem tdiv_R6 {a b : Int} (ha : R6 a) (hb : 0 < b) : R6 (a.tdiv b) := by
  have h1 := Int.natAbs_tdiv a b
  have h2 : (a.tdiv b).natAbs ≤ a.natAbs := by rw [h1]; exact Nat.div_le_self _ _
  by_cases hz : 0 ≤ a
  · have h3 : 0 ≤ a.tdiv b := Int.tdiv_nonneg hz (by omega)
    exact ⟨by omega, by omega⟩
  · have h3 : a.tdiv b ≤ 0 := by
      have h4 : 0 ≤ (-a).tdiv b := Int.tdiv_nonneg (by omega) (by omega)
      rw [Int.neg_tdiv] at h4
      omega
    exact ⟨by omega, by omega⟩
theorem g_idiv (C : Good l K D ad NC E d cc own M) {a b : Int} (ra : R3 a) (rb : R3 b) (hb : 0 < b) (hd : decode cc pc = .ok (.idiv, 1)) (k : G M ad NC cf (pc + 1) lv (.int (iI (a.tdiv b)) :: st) σ) : G M ad NC cf pc lv (.int (iI b) :: .int (iI a) :: st) σ := fun H locs ls hP hS hl => lv_idiv (gd_x C) (gd_b C) hd (fun h => by have := (iI_eq0 rb).mp h; omega) (by rw [iI_div ra rb (by omega) (tdiv_R3 ra hb)]; exact k H locs ls hP hS hl)
theorem g_irem (C : Good l K D ad NC E d cc own M) {a b : Int} (ra : R3 a) (rb : R3 b) (hb : 0 < b) (hd : decode cc pc = .ok (.irem, 1)) (k : G M ad NC cf (pc + 1) lv (.int (iI (a.tmod b)) :: st) σ) : G M ad NC cf pc lv (.int (iI b) :: .int (iI a) :: st) σ := fun H locs ls hP hS hl => lv_irem (gd_x C) (gd_b C) hd (fun h => by have := (iI_eq0 rb).mp h; omega) (by rw [iI_div ra rb (by omega) (tdiv_R3 ra hb), iI_mul, iI_sub]; rw [show a - a.tdiv b * b = a.tmod b by rw [Int.tmod_def, Int.mul_comm]]; exact k H locs ls hP hS hl)
theorem g_lrem (C : Good l K D ad NC E d cc own M) {a b : Int} (ra : R6 a) (rb : R6 b) (hb : 0 < b) (hd : decode cc pc = .ok (.lrem, 1)) (k : G M ad NC cf (pc + 1) lv (.long (lI (a.tmod b)) :: st) σ) : G M ad NC cf pc lv (.long (lI b) :: .long (lI a) :: st) σ := fun H locs ls hP hS hl => lv_lrem (gd_x C) (gd_b C) hd (fun h => by have := (lI_eq rb (show R6 0 from ⟨by omega, by omega⟩)).mp h; omega) (by rw [lI_div ra rb (by omega) (tdiv_R6 ra hb), lI_mul, lI_sub]; rw [show a - a.tdiv b * b = a.tmod b by rw [Int.tmod_def, Int.mul_comm]]; exact k H locs ls hP hS hl)
theorem g_ladd (C : Good l K D ad NC E d cc own M) {a b : Int} (hd : decode cc pc = .ok (.ladd, 1)) (k : G M ad NC cf (pc + 1) lv (.long (lI (a + b)) :: st) σ) : G M ad NC cf pc lv (.long (lI b) :: .long (lI a) :: st) σ := fun H locs ls hP hS hl => lv_ladd (gd_x C) (gd_b C) hd (by rw [lI_add]; exact k H locs ls hP hS hl)
theorem g_lmul (C : Good l K D ad NC E d cc own M) {a b : Int} (hd : decode cc pc = .ok (.lmul, 1)) (k : G M ad NC cf (pc + 1) lv (.long (lI (a * b)) :: st) σ) : G M ad NC cf pc lv (.long (lI b) :: .long (lI a) :: st) σ := fun H locs ls hP hS hl => lv_lmul (gd_x C) (gd_b C) hd (by rw [lI_mul]; exact k H locs ls hP hS hl)
theorem g_i2l (C : Good l K D ad NC E d cc own M) {a : Int} (ra : R3 a) (hd : decode cc pc = .ok (.i2l, 1)) (k : G M ad NC cf (pc + 1) lv (.long (lI a) :: st) σ) : G M ad NC cf pc lv (.int (iI a) :: st) σ := fun H locs ls hP hS hl => lv_i2l (gd_x C) (gd_b C) hd (iI_l ra) (k H locs ls hP hS hl)
def oL2I (a : Int) : Int := (lI a).toInt32.toInt
def oI2B (a : Int) : Int := (iI a).toInt8.toInt32.toInt
def oI2S (a : Int) : Int := (iI a).toInt16.toInt32.toInt
def oAnd (a b : Int) : Int := (iI a &&& iI b).toInt
def oOr (a b : Int) : Int := (iI a ||| iI b).toInt
def oShl (a b : Int) : Int := (iI a <<< (iI b &&& 31)).toInt
def oAndL (a b : Int) : Int := (lI a &&& lI b).toInt
def oOrL (a b : Int) : Int := (lI a ||| lI b).toInt
def oShlL (a b : Int) : Int := (lI a <<< ((iI b).toInt64 &&& 63)).toInt
def oShrL (a b : Int) : Int := (lI a >>> ((iI b).toInt64 &&& 63)).toInt
theorem g_l2i (C : Good l K D ad NC E d cc own M) {a : Int} (hd : decode cc pc = .ok (.l2i, 1)) (k : G M ad NC cf (pc + 1) lv (.int (iI (oL2I a)) :: st) σ) : G M ad NC cf pc lv (.long (lI a) :: st) σ := fun H locs ls hP hS hl => lv_l2i (gd_x C) (gd_b C) hd (iI_of _).symm (k H locs ls hP hS hl)
theorem g_i2b (C : Good l K D ad NC E d cc own M) {a : Int} (hd : decode cc pc = .ok (.i2b, 1)) (k : G M ad NC cf (pc + 1) lv (.int (iI (oI2B a)) :: st) σ) : G M ad NC cf pc lv (.int (iI a) :: st) σ := fun H locs ls hP hS hl => lv_i2b (gd_x C) (gd_b C) hd (iI_of _).symm (k H locs ls hP hS hl)
theorem g_i2s (C : Good l K D ad NC E d cc own M) {a : Int} (hd : decode cc pc = .ok (.i2s, 1)) (k : G M ad NC cf (pc + 1) lv (.int (iI (oI2S a)) :: st) σ) : G M ad NC cf pc lv (.int (iI a) :: st) σ := fun H locs ls hP hS hl => lv_i2s (gd_x C) (gd_b C) hd (iI_of _).symm (k H locs ls hP hS hl)
theorem g_iand (C : Good l K D ad NC E d cc own M) {a b : Int} (hd : decode cc pc = .ok (.iand, 1)) (k : G M ad NC cf (pc + 1) lv (.int (iI (oAnd a b)) :: st) σ) : G M ad NC cf pc lv (.int (iI b) :: .int (iI a) :: st) σ := fun H locs ls hP hS hl => lv_iand (gd_x C) (gd_b C) hd (by rw [show iI a &&& iI b = iI (oAnd a b) from (iI_of _).symm]; exact k H locs ls hP hS hl)
theorem g_ior (C : Good l K D ad NC E d cc own M) {a b : Int} (hd : decode cc pc = .ok (.ior, 1)) (k : G M ad NC cf (pc + 1) lv (.int (iI (oOr a b)) :: st) σ) : G M ad NC cf pc lv (.int (iI b) :: .int (iI a) :: st) σ := fun H locs ls hP hS hl => lv_ior (gd_x C) (gd_b C) hd (by rw [show iI a ||| iI b = iI (oOr a b) from (iI_of _).symm]; exact k H locs ls hP hS hl)
theorem g_ishl (C : Good l K D ad NC E d cc own M) {a b : Int} (hd : decode cc pc = .ok (.ishl, 1)) (k : G M ad NC cf (pc + 1) lv (.int (iI (oShl a b)) :: st) σ) : G M ad NC cf pc lv (.int (iI b) :: .int (iI a) :: st) σ := fun H locs ls hP hS hl => lv_ishl (gd_x C) (gd_b C) hd (by rw [show iI a <<< (iI b &&& 31) = iI (oShl a b) from (iI_of _).symm]; exact k H locs ls hP hS hl)
theorem g_land (C : Good l K D ad NC E d cc own M) {a b : Int} (hd : decode cc pc = .ok (.land, 1)) (k : G M ad NC cf (pc + 1) lv (.long (lI (oAndL a b)) :: st) σ) : G M ad NC cf pc lv (.long (lI b) :: .long (lI a) :: st) σ := fun H locs ls hP hS hl => lv_land (gd_x C) (gd_b C) hd (by rw [show lI a &&& lI b = lI (oAndL a b) from (lI_of _).symm]; exact k H locs ls hP hS hl)
theorem g_lor (C : Good l K D ad NC E d cc own M) {a b : Int} (hd : decode cc pc = .ok (.lor, 1)) (k : G M ad NC cf (pc + 1) lv (.long (lI (oOrL a b)) :: st) σ) : G M ad NC cf pc lv (.long (lI b) :: .long (lI a) :: st) σ := fun H locs ls hP hS hl => lv_lor (gd_x C) (gd_b C) hd (by rw [show lI a ||| lI b = lI (oOrL a b) from (lI_of _).symm]; exact k H locs ls hP hS hl)
theorem g_lshl (C : Good l K D ad NC E d cc own M) {a b : Int} (hd : decode cc pc = .ok (.lshl, 1)) (k : G M ad NC cf (pc + 1) lv (.long (lI (oShlL a b)) :: st) σ) : G M ad NC cf pc lv (.int (iI b) :: .long (lI a) :: st) σ := fun H locs ls hP hS hl => lv_lshl (gd_x C) (gd_b C) hd (lI_of _).symm (k H locs ls hP hS hl)
theorem g_lshr (C : Good l K D ad NC E d cc own M) {a b : Int} (hd : decode cc pc = .ok (.lshr, 1)) (k : G M ad NC cf (pc + 1) lv (.long (lI (oShrL a b)) :: st) σ) : G M ad NC cf pc lv (.int (iI b) :: .long (lI a) :: st) σ := fun H locs ls hP hS hl => lv_lshr (gd_x C) (gd_b C) hd (lI_of _).symm (k H locs ls hP hS hl)
def oCmp (a b : Int) : Int := if b < a then 1 else if a = b then 0 else -1
theorem g_lcmp (C : Good l K D ad NC E d cc own M) {a b : Int} (ra : R6 a) (rb : R6 b) (hd : decode cc pc = .ok (.lcmp, 1)) (k : G M ad NC cf (pc + 1) lv (.int (iI (oCmp a b)) :: st) σ) : G M ad NC cf pc lv (.long (lI b) :: .long (lI a) :: st) σ := fun H locs ls hP hS hl => W.lcmp (gd_x C) (gd_b C) hd (by
  have e : lg_cmp (lI a) (lI b) = iI (oCmp a b) := by
    unfold lg_cmp oCmp
    by_cases h : b < a
    · rw [if_pos ((lI_lt rb ra).mpr h), if_pos h]; rfl
    · rw [if_neg (fun z => h ((lI_lt rb ra).mp z)), if_neg h]
      by_cases h2 : a = b
      · rw [if_pos ((lI_eq ra rb).mpr h2), if_pos h2]; rfl
      · rw [if_neg (fun z => h2 ((lI_eq ra rb).mp z)), if_neg h2]; rfl
  rw [e]
  exact k H locs ls hP hS hl)
/-! jumps -/
theorem g_goto (C : Good l K D ad NC E d cc own M) {off : Int} {tgt : Nat} (hd : decode cc pc = .ok (.goto off, 3)) (ht : (pc : Int) + off = (tgt : Int)) (k : G M ad NC cf tgt lv st σ) : G M ad NC cf pc lv st σ := fun H locs ls hP hS hl => lv_goto (gd_x C) (gd_b C) hd ht (k H locs ls hP hS hl)
theorem g_if_eq (C : Good l K D ad NC E d cc own M) {a : Int} {off : Int} {tgt : Nat} (hd : decode cc pc = .ok (.ifCond .eq off, 3)) (ht : (pc : Int) + off = (tgt : Int)) (ra : R3 a) (kt : a = 0 → G M ad NC cf tgt lv st σ) (kf : ¬ a = 0 → G M ad NC cf (pc + 3) lv st σ) : G M ad NC cf pc lv (.int (iI a) :: st) σ := fun H locs ls hP hS hl => lv_if_eq (gd_x C) (gd_b C) hd ht (fun h => kt ((iI_eq0 ra).mp h) H locs ls hP hS hl) (fun h => kf (fun z => h ((iI_eq0 ra).mpr z)) H locs ls hP hS hl)
theorem g_if_ne (C : Good l K D ad NC E d cc own M) {a : Int} {off : Int} {tgt : Nat} (hd : decode cc pc = .ok (.ifCond .ne off, 3)) (ht : (pc : Int) + off = (tgt : Int)) (ra : R3 a) (kt : ¬ a = 0 → G M ad NC cf tgt lv st σ) (kf : a = 0 → G M ad NC cf (pc + 3) lv st σ) : G M ad NC cf pc lv (.int (iI a) :: st) σ := fun H locs ls hP hS hl => lv_if_ne (gd_x C) (gd_b C) hd ht (fun h => kt (fun z => h ((iI_eq0 ra).mpr z)) H locs ls hP hS hl) (fun h => kf ((iI_eq0 ra).mp h) H locs ls hP hS hl)
theorem g_if_lt (C : Good l K D ad NC E d cc own M) {a : Int} {off : Int} {tgt : Nat} (hd : decode cc pc = .ok (.ifCond .lt off, 3)) (ht : (pc : Int) + off = (tgt : Int)) (ra : R3 a) (kt : a < 0 → G M ad NC cf tgt lv st σ) (kf : 0 ≤ a → G M ad NC cf (pc + 3) lv st σ) : G M ad NC cf pc lv (.int (iI a) :: st) σ := fun H locs ls hP hS hl => lv_if_lt (gd_x C) (gd_b C) hd ht (fun h => kt ((iI_lt0 ra).mp h) H locs ls hP hS hl) (fun h => kf (Int.not_lt.mp fun z => h ((iI_lt0 ra).mpr z)) H locs ls hP hS hl)
theorem g_if_ge (C : Good l K D ad NC E d cc own M) {a : Int} {off : Int} {tgt : Nat} (hd : decode cc pc = .ok (.ifCond .ge off, 3)) (ht : (pc : Int) + off = (tgt : Int)) (ra : R3 a) (kt : 0 ≤ a → G M ad NC cf tgt lv st σ) (kf : a < 0 → G M ad NC cf (pc + 3) lv st σ) : G M ad NC cf pc lv (.int (iI a) :: st) σ := fun H locs ls hP hS hl => lv_if_ge (gd_x C) (gd_b C) hd ht (fun h => kt ((iI_0le ra).mp h) H locs ls hP hS hl) (fun h => kf (Int.not_le.mp fun z => h ((iI_0le ra).mpr z)) H locs ls hP hS hl)
theorem g_if_gt (C : Good l K D ad NC E d cc own M) {a : Int} {off : Int} {tgt : Nat} (hd : decode cc pc = .ok (.ifCond .gt off, 3)) (ht : (pc : Int) + off = (tgt : Int)) (ra : R3 a) (kt : 0 < a → G M ad NC cf tgt lv st σ) (kf : a ≤ 0 → G M ad NC cf (pc + 3) lv st σ) : G M ad NC cf pc lv (.int (iI a) :: st) σ := fun H locs ls hP hS hl => lv_if_gt (gd_x C) (gd_b C) hd ht (fun h => kt ((iI_0lt ra).mp h) H locs ls hP hS hl) (fun h => kf (Int.not_lt.mp fun z => h ((iI_0lt ra).mpr z)) H locs ls hP hS hl)
theorem g_if_le (C : Good l K D ad NC E d cc own M) {a : Int} {off : Int} {tgt : Nat} (hd : decode cc pc = .ok (.ifCond .le off, 3)) (ht : (pc : Int) + off = (tgt : Int)) (ra : R3 a) (kt : a ≤ 0 → G M ad NC cf tgt lv st σ) (kf : 0 < a → G M ad NC cf (pc + 3) lv st σ) : G M ad NC cf pc lv (.int (iI a) :: st) σ := fun H locs ls hP hS hl => lv_if_le (gd_x C) (gd_b C) hd ht (fun h => kt ((iI_le0 ra).mp h) H locs ls hP hS hl) (fun h => kf (Int.not_le.mp fun z => h ((iI_le0 ra).mpr z)) H locs ls hP hS hl)
theorem g_icmp_eq (C : Good l K D ad NC E d cc own M) {a b : Int} {off : Int} {tgt : Nat} (hd : decode cc pc = .ok (.if_icmp .eq off, 3)) (ht : (pc : Int) + off = (tgt : Int)) (ra : R3 a) (rb : R3 b) (kt : a = b → G M ad NC cf tgt lv st σ) (kf : ¬ a = b → G M ad NC cf (pc + 3) lv st σ) : G M ad NC cf pc lv (.int (iI b) :: .int (iI a) :: st) σ := fun H locs ls hP hS hl => lv_icmp_eq (gd_x C) (gd_b C) hd ht (fun h => kt ((iI_eq ra rb).mp h) H locs ls hP hS hl) (fun h => kf (fun z => h ((iI_eq ra rb).mpr z)) H locs ls hP hS hl)
theorem g_icmp_ne (C : Good l K D ad NC E d cc own M) {a b : Int} {off : Int} {tgt : Nat} (hd : decode cc pc = .ok (.if_icmp .ne off, 3)) (ht : (pc : Int) + off = (tgt : Int)) (ra : R3 a) (rb : R3 b) (kt : ¬ a = b → G M ad NC cf tgt lv st σ) (kf : a = b → G M ad NC cf (pc + 3) lv st σ) : G M ad NC cf pc lv (.int (iI b) :: .int (iI a) :: st) σ := fun H locs ls hP hS hl => lv_icmp_ne (gd_x C) (gd_b C) hd ht (fun h => kt (fun z => h ((iI_eq ra rb).mpr z)) H locs ls hP hS hl) (fun h => kf ((iI_eq ra rb).mp h) H locs ls hP hS hl)
theorem g_icmp_lt (C : Good l K D ad NC E d cc own M) {a b : Int} {off : Int} {tgt : Nat} (hd : decode cc pc = .ok (.if_icmp .lt off, 3)) (ht : (pc : Int) + off = (tgt : Int)) (ra : R3 a) (rb : R3 b) (kt : a < b → G M ad NC cf tgt lv st σ) (kf : b ≤ a → G M ad NC cf (pc + 3) lv st σ) : G M ad NC cf pc lv (.int (iI b) :: .int (iI a) :: st) σ := fun H locs ls hP hS hl => lv_icmp_lt (gd_x C) (gd_b C) hd ht (fun h => kt ((iI_lt ra rb).mp h) H locs ls hP hS hl) (fun h => kf (Int.not_lt.mp fun z => h ((iI_lt ra rb).mpr z)) H locs ls hP hS hl)
theorem g_icmp_ge (C : Good l K D ad NC E d cc own M) {a b : Int} {off : Int} {tgt : Nat} (hd : decode cc pc = .ok (.if_icmp .ge off, 3)) (ht : (pc : Int) + off = (tgt : Int)) (ra : R3 a) (rb : R3 b) (kt : b ≤ a → G M ad NC cf tgt lv st σ) (kf : a < b → G M ad NC cf (pc + 3) lv st σ) : G M ad NC cf pc lv (.int (iI b) :: .int (iI a) :: st) σ := fun H locs ls hP hS hl => lv_icmp_ge (gd_x C) (gd_b C) hd ht (fun h => kt ((iI_le rb ra).mp h) H locs ls hP hS hl) (fun h => kf (Int.not_le.mp fun z => h ((iI_le rb ra).mpr z)) H locs ls hP hS hl)
theorem g_icmp_gt (C : Good l K D ad NC E d cc own M) {a b : Int} {off : Int} {tgt : Nat} (hd : decode cc pc = .ok (.if_icmp .gt off, 3)) (ht : (pc : Int) + off = (tgt : Int)) (ra : R3 a) (rb : R3 b) (kt : b < a → G M ad NC cf tgt lv st σ) (kf : a ≤ b → G M ad NC cf (pc + 3) lv st σ) : G M ad NC cf pc lv (.int (iI b) :: .int (iI a) :: st) σ := fun H locs ls hP hS hl => lv_icmp_gt (gd_x C) (gd_b C) hd ht (fun h => kt ((iI_lt rb ra).mp h) H locs ls hP hS hl) (fun h => kf (Int.not_lt.mp fun z => h ((iI_lt rb ra).mpr z)) H locs ls hP hS hl)
theorem g_icmp_le (C : Good l K D ad NC E d cc own M) {a b : Int} {off : Int} {tgt : Nat} (hd : decode cc pc = .ok (.if_icmp .le off, 3)) (ht : (pc : Int) + off = (tgt : Int)) (ra : R3 a) (rb : R3 b) (kt : a ≤ b → G M ad NC cf tgt lv st σ) (kf : b < a → G M ad NC cf (pc + 3) lv st σ) : G M ad NC cf pc lv (.int (iI b) :: .int (iI a) :: st) σ := fun H locs ls hP hS hl => lv_icmp_le (gd_x C) (gd_b C) hd ht (fun h => kt ((iI_le ra rb).mp h) H locs ls hP hS hl) (fun h => kf (Int.not_le.mp fun z => h ((iI_le ra rb).mpr z)) H locs ls hP hS hl)
theorem g_swIn (C : Good l K D ad NC E d cc own M) {dflt lo hi : Int} {offs : Array Int} {len : Nat} {a : Int} (z : Int) {off : Int} {tgt : Nat} (hd : decode cc pc = .ok (.tableswitch dflt lo hi offs, len)) (ra : R3 z) (hz : a = z) (h1 : lo ≤ z) (h2 : z ≤ hi) (ho : offs[(z - lo).toNat]? = some off) (ht : (pc : Int) + off = (tgt : Int)) (k : G M ad NC cf tgt lv st σ) : G M ad NC cf pc lv (.int (iI a) :: st) σ := fun H locs ls hP hS hl => by
  subst hz
  exact lv_tableIn (gd_x C) (gd_b C) hd (by rw [iI_toInt ra]; omega) (by rw [iI_toInt ra]; omega) (by rw [iI_toInt ra]; exact ho) ht (k H locs ls hP hS hl)
theorem g_swOut (C : Good l K D ad NC E d cc own M) {dflt lo hi : Int} {offs : Array Int} {len : Nat} {a : Int} {tgt : Nat} (hd : decode cc pc = .ok (.tableswitch dflt lo hi offs, len)) (ra : R3 a) (h1 : a < lo ∨ hi < a) (ht : (pc : Int) + dflt = (tgt : Int)) (k : G M ad NC cf tgt lv st σ) : G M ad NC cf pc lv (.int (iI a) :: st) σ := fun H locs ls hP hS hl => lv_tableOut (gd_x C) (gd_b C) hd (by rw [iI_toInt ra]; exact h1) ht (k H locs ls hP hS hl)
/-! fields and arrays -/
theorem g_get (C : Good l K D ad NC E d cc own M) {q : Int} {ci j index N : Nat} {Cn : String} {T : u_T} {fs : List Value} {v : Value} (hd : decode cc pc = .ok (.getfield index, 3)) (hq : 0 ≤ q ∧ q < (NC : Int)) (hf : cf q (σ q) = .inr (ci, fs)) (hc : vwCl[ci]? = some (Cn, T, N)) (hin : ∀ w ∈ u_ws Cn T N, w ∈ gWs) (hj : j < N) (hw : Cond.fieldLink own index (T j).1 (T j).2.1 (T j).2.2.1 ∈ gWs) (hv : fs[j]? = some v) (k : G M ad NC cf (pc + 3) lv (v :: st) σ) : G M ad NC cf pc lv (.ref (ad q) :: st) σ := by
  intro H locs ls hP hS hl
  have he := wd_at (ad := ad) (cf := cf) (σ := σ) hq.1 hq.2
  rw [hf] at he
  exact va_get (gd_x C) (gd_b C) (gd_ts C) hin (gd_own C) (gd_K C) hP q.toNat he hc j hj (gd_ts C _ hw) (fun _ h => h) hv hd (k H locs ls hP hS hl)
theorem g_put (C : Good l K D ad NC E d cc own M) {q : Int} {ci j index N : Nat} {Cn : String} {T : u_T} {ty0 : Nat → FieldType} {fs : List Value} {v : Value} {ty : FieldType} (f' : Int → Int) (hd : decode cc pc = .ok (.putfield index, 3)) (hq : 0 ≤ q ∧ q < (NC : Int)) (hf : cf q (σ q) = .inr (ci, fs)) (hf' : cf q f' = .inr (ci, fs.set j v)) (hc : vwCl[ci]? = some (Cn, T, N)) (hin : ∀ w ∈ u_ws Cn T N, w ∈ gWs) (hty : ∀ k, k < N → parseFieldDescriptor (T k).2.2.1 = some (ty0 k)) (hnm : ∀ a, a < N → ∀ b, b < N → a ≠ b → (T a).2.1 ≠ (T b).2.1) (hj : j < N) (hw : Cond.fieldLink own index (T j).1 (T j).2.1 (T j).2.2.1 ∈ gWs) (hfin : (T j).2.2.2 = false) (hds : parseFieldDescriptor (T j).2.2.1 = some ty) (hn : narrow ty v = v) (hfit : fits ty v = true) (hlen : j < fs.length) (k : G M ad NC cf (pc + 3) lv st (mr σ q f')) : G M ad NC cf pc lv (v :: .ref (ad q) :: st) σ := by
  intro H locs ls hP hS hl
  have he := wd_at (ad := ad) (cf := cf) (σ := σ) hq.1 hq.2
  rw [hf] at he
  refine va_put (gd_x C) (gd_b C) (gd_ts C) hin ty0 hty hnm (gd_own C) (gd_K C) hP (gd_wD C) hS q.toNat he hc j hj (gd_ts C _ hw) (fun _ h => h) hfin hds hn hfit hlen hd (fun H1 locs1 hP1 hD1 hS1 => ?_)
  rw [← hf', wd_set hq.1 hq.2] at hP1
  exact k H1 locs1 ls hP1 hS1 hl
theorem g_iald (C : Good l K D ad NC E d cc own M) {q a : Int} {n : Nat} (hd : decode cc pc = .ok (.iaload, 1)) (hq : 0 ≤ q ∧ q < (NC : Int)) (hf : ∀ f : Int → Int, cf q f = .inl (K 0, n, .inl (fun j : Nat => iI (f (j : Int))))) (h0 : 0 ≤ a) (h1 : a < (n : Int)) (ra : R3 a) (k : G M ad NC cf (pc + 1) lv (.int (iI (σ q a)) :: st) σ) : G M ad NC cf pc lv (.int (iI a) :: .ref (ad q) :: st) σ := by
  intro H locs ls hP hS hl
  have he := wd_at (ad := ad) (cf := cf) (σ := σ) hq.1 hq.2
  rw [hf] at he
  have e : σ q (((iI a).toNatClampNeg : Nat) : Int) = σ q a := by rw [iI_cl ra, Int.toNat_of_nonneg h0]
  refine va_iald (gd_x C) (gd_b C) (gd_K C) hP q.toNat 0 he rfl (iI_in h0 h1 ra) hd ?_
  show W _ _ _ _ _ _ _ _ _ _ _ _ _ _ _ (F0 _ _ _ (.int (iI (σ q (((iI a).toNatClampNeg : Nat) : Int))) :: st))
  rw [e]
  exact k H locs ls hP hS hl
theorem g_iast (C : Good l K D ad NC E d cc own M) {q a x : Int} {n : Nat} (hd : decode cc pc = .ok (.iastore, 1)) (hq : 0 ≤ q ∧ q < (NC : Int)) (hf : ∀ f : Int → Int, cf q f = .inl (K 0, n, .inl (fun j : Nat => iI (f (j : Int))))) (h0 : 0 ≤ a) (h1 : a < (n : Int)) (ra : R3 a) (k : G M ad NC cf (pc + 1) lv st (mu σ q a x)) : G M ad NC cf pc lv (.int (iI x) :: .int (iI a) :: .ref (ad q) :: st) σ := by
  intro H locs ls hP hS hl
  have he := wd_at (ad := ad) (cf := cf) (σ := σ) hq.1 hq.2
  rw [hf] at he
  refine va_iast (gd_x C) (gd_b C) (gd_K C) hP (gd_wD C) hS q.toNat 0 he rfl (iI_in h0 h1 ra) hd (fun H1 locs1 hP1 hD1 hS1 => ?_)
  have e : (Sum.inl (K 0, n, Sum.inl (upd (fun j : Nat => iI (σ q (j : Int))) (iI a).toNatClampNeg (iI x))) : va_E) = cf q (ru (σ q) a x) := by
    rw [hf]
    refine congrArg (fun z => (Sum.inl (_, _, Sum.inl z) : va_E)) (funext fun j => ?_)
    unfold upd ru
    rw [iI_cl ra]
    by_cases hj : j = a.toNat
    · subst hj; simp [Int.toNat_of_nonneg h0]
    · have : (j : Int) ≠ a := by omega
      simp [hj, this]
  rw [e, wd_set hq.1 hq.2] at hP1
  exact k H1 locs1 ls hP1 hS1 hl
theorem g_zald (C : Good l K D ad NC E d cc own M) {q a : Int} {n : Nat} (hd : decode cc pc = .ok (.baload, 1)) (hq : 0 ≤ q ∧ q < (NC : Int)) (hf : ∀ f : Int → Int, cf q f = .inl (K 1, n, .inl (fun j : Nat => iI (f (j : Int))))) (h0 : 0 ≤ a) (h1 : a < (n : Int)) (ra : R3 a) (k : G M ad NC cf (pc + 1) lv (.int (iI (σ q a)) :: st) σ) : G M ad NC cf pc lv (.int (iI a) :: .ref (ad q) :: st) σ := by
  intro H locs ls hP hS hl
  have he := wd_at (ad := ad) (cf := cf) (σ := σ) hq.1 hq.2
  rw [hf] at he
  have e : σ q (((iI a).toNatClampNeg : Nat) : Int) = σ q a := by rw [iI_cl ra, Int.toNat_of_nonneg h0]
  refine va_zald (gd_x C) (gd_b C) (gd_K C) hP q.toNat 1 he rfl (iI_in h0 h1 ra) hd ?_
  show W _ _ _ _ _ _ _ _ _ _ _ _ _ _ _ (F0 _ _ _ (.int (iI (σ q (((iI a).toNatClampNeg : Nat) : Int))) :: st))
  rw [e]
  exact k H locs ls hP hS hl
theorem g_zast (C : Good l K D ad NC E d cc own M) {q a x : Int} {n : Nat} (hd : decode cc pc = .ok (.bastore, 1)) (hq : 0 ≤ q ∧ q < (NC : Int)) (hf : ∀ f : Int → Int, cf q f = .inl (K 1, n, .inl (fun j : Nat => iI (f (j : Int))))) (h0 : 0 ≤ a) (h1 : a < (n : Int)) (ra : R3 a) (hx : vp_nar .boolean (iI x) = iI x) (k : G M ad NC cf (pc + 1) lv st (mu σ q a x)) : G M ad NC cf pc lv (.int (iI x) :: .int (iI a) :: .ref (ad q) :: st) σ := by
  intro H locs ls hP hS hl
  have he := wd_at (ad := ad) (cf := cf) (σ := σ) hq.1 hq.2
  rw [hf] at he
  refine va_zast (gd_x C) (gd_b C) (gd_K C) hP (gd_wD C) hS q.toNat 1 he rfl (iI_in h0 h1 ra) hd (fun H1 locs1 hP1 hD1 hS1 => ?_)
  have e : (Sum.inl (K 1, n, Sum.inl (upd (fun j : Nat => iI (σ q (j : Int))) (iI a).toNatClampNeg (vp_nar .boolean (iI x)))) : va_E) = cf q (ru (σ q) a x) := by
    rw [hf, hx]
    refine congrArg (fun z => (Sum.inl (_, _, Sum.inl z) : va_E)) (funext fun j => ?_)
    unfold upd ru
    rw [iI_cl ra]
    by_cases hj : j = a.toNat
    · subst hj; simp [Int.toNat_of_nonneg h0]
    · have : (j : Int) ≠ a := by omega
      simp [hj, this]
  rw [e, wd_set hq.1 hq.2] at hP1
  exact k H1 locs1 ls hP1 hS1 hl
theorem g_aald (C : Good l K D ad NC E d cc own M) {q a : Int} {n t : Nat} {Cn : String} {f : Nat → Option Nat} (b : Nat) (hd : decode cc pc = .ok (.aaload, 1)) (hq : 0 ≤ q ∧ q < (NC : Int)) (hf : cf q (σ q) = .inl (K t, n, .inr (.inr (.inr (.inr f))))) (ht : (gtys K)[t]? = some (K t, .object Cn)) (h0 : 0 ≤ a) (h1 : a < (n : Int)) (ra : R3 a) (hb : f a.toNat = some b) (k : G M ad NC cf (pc + 1) lv (.ref b :: st) σ) : G M ad NC cf pc lv (.int (iI a) :: .ref (ad q) :: st) σ := by
  intro H locs ls hP hS hl
  have he := wd_at (ad := ad) (cf := cf) (σ := σ) hq.1 hq.2
  rw [hf] at he
  refine va_aldq (gd_x C) (gd_b C) (gd_K C) hP q.toNat t he ht (iI_in h0 h1 ra) hd ?_
  rw [iI_cl ra, hb]
  exact k H locs ls hP hS hl
theorem g_alen (C : Good l K D ad NC E d cc own M) {q : Int} {c0 : ClassId} {x : vp_A} {ty : FieldType} {t : Nat} {n : Int} (hd : decode cc pc = .ok (.arraylength, 1)) (hq : 0 ≤ q ∧ q < (NC : Int)) (hf : cf q (σ q) = .inl (c0, x)) (ht : (gtys K)[t]? = some (c0, ty)) (hn : Int32.ofNat x.1 = iI n) (k : G M ad NC cf (pc + 1) lv (.int (iI n) :: st) σ) : G M ad NC cf pc lv (.ref (ad q) :: st) σ := by
  intro H locs ls hP hS hl
  have he := wd_at (ad := ad) (cf := cf) (σ := σ) hq.1 hq.2
  rw [hf] at he
  exact va_alen (gd_x C) (gd_b C) (gd_K C) hP q.toNat t he ht hn hd (k H locs ls hP hS hl)
theorem g_copy (C : Good l K D ad NC E d cc own M) {index : Nat} {q0 q1 sp dp n : Int} {n0 n1 : Nat} (hw : Cond.methodLink own index arraycopyName ∈ gWs) (hd : decode cc pc = .ok (.invokestatic index, 3)) (hq0 : 0 ≤ q0 ∧ q0 < (NC : Int)) (hq1 : 0 ≤ q1 ∧ q1 < (NC : Int)) (hf0 : ∀ f : Int → Int, cf q0 f = .inl (K 0, n0, .inl (fun j : Nat => iI (f (j : Int))))) (hf1 : ∀ f : Int → Int, cf q1 f = .inl (K 0, n1, .inl (fun j : Nat => iI (f (j : Int))))) (h1 : 0 ≤ sp) (h2 : 0 ≤ dp) (h3 : 0 ≤ n) (h4 : sp + n ≤ n0) (h5 : dp + n ≤ n1) (r1 : R3 sp) (r2 : R3 dp) (r3 : R3 n) (hcat : (st.map fun v => v.category).sum ≤ 8) (hd1 : 1 ≤ d) (k : G M ad NC cf (pc + 3) lv st (mr σ q1 (cpy (σ q0) (σ q1) sp dp n))) : G M ad NC cf pc lv (.int (iI n) :: .int (iI dp) :: .ref (ad q1) :: .int (iI sp) :: .ref (ad q0) :: st) σ := by
  intro H locs ls hP hS hl
  have he0 := wd_at (ad := ad) (cf := cf) (σ := σ) hq0.1 hq0.2
  rw [hf0] at he0
  have he1 := wd_at (ad := ad) (cf := cf) (σ := σ) hq1.1 hq1.2
  rw [hf1] at he1
  have hfr : 1 ≤ M.1.2.2.2.frames := by rw [gd_R C]; exact hd1
  have hnw : nativeFrameWords "java/lang/System" "arraycopy" 5 ≤ 20 := by decide +kernel
  have hlo : (st.map fun v => v.category).sum + (nativeFrameWords "java/lang/System" "arraycopy" 5 + 11) ≤ M.1.2.2.2.locals := by
    rw [gd_R C]
    show _ ≤ 40 * d
    omega
  refine va_copyi (gd_x C) (gd_b C) ((gd_ml C).trans hl.1.symm) (gd_own C) (gd_ts C _ hw) (gd_ts C _ w_native_arraycopy) (gd_ts C _ w_static_arraycopy) (gd_ts C _ wi_J10) (gd_K C) hP (gd_wD C) hS q0.toNat q1.toNat 0 0 he0 he1 rfl rfl rfl (fun h => by have := (iI_lt0 r1).mp h; omega) (fun h => by have := (iI_lt0 r2).mp h; omega) (fun h => by have := (iI_lt0 r3).mp h; omega) (by rw [iI_cl r1, iI_cl r3]; omega) (by rw [iI_cl r2, iI_cl r3]; omega) (fun _ _ => rfl) hfr hlo hd (fun H1 locs1 hP1 hD1 hS1 => ?_)
  have e : (Sum.inl (K 0, n1, Sum.inl (va_cpy (fun j : Nat => iI (σ q0 (j : Int))) (fun j : Nat => iI (σ q1 (j : Int))) (iI sp).toNatClampNeg (iI dp).toNatClampNeg (iI n).toNatClampNeg)) : va_E) = cf q1 (cpy (σ q0) (σ q1) sp dp n) := by
    rw [hf1]
    refine congrArg (fun z => (Sum.inl (_, _, Sum.inl z) : va_E)) (funext fun j => ?_)
    rw [iI_cl r1, iI_cl r2, iI_cl r3]
    unfold va_cpy cpy
    by_cases hj : dp.toNat ≤ j ∧ j < dp.toNat + n.toNat
    · have hj' : dp ≤ (j : Int) ∧ (j : Int) < dp + n := ⟨by omega, by omega⟩
      have e3 : ((sp.toNat + (j - dp.toNat) : Nat) : Int) = sp + ((j : Int) - dp) := by omega
      rw [if_pos hj, if_pos hj']
      show iI (σ q0 ((sp.toNat + (j - dp.toNat) : Nat) : Int)) = _
      rw [e3]
    · have hj' : ¬ (dp ≤ (j : Int) ∧ (j : Int) < dp + n) := fun z => hj ⟨by omega, by omega⟩
      rw [if_neg hj, if_neg hj']
  rw [e, wd_set hq1.1 hq1.2] at hP1
  exact k H1 locs1 ls hP1 hS1 hl
theorem g_mmax (C : Good l K D ad NC E d cc own M) {index : Nat} {a b : Int} (ra : R3 a) (rb : R3 b) (hw : Cond.methodLink own index yJ9_max_7cf53 ∈ gWs) (hd : decode cc pc = .ok (.invokestatic index, 3)) (hcat : (st.map fun v => v.category).sum ≤ 8) (hd1 : 1 ≤ d) (k : G M ad NC cf (pc + 3) lv (.int (iI (if a < b then b else a)) :: st) σ) : G M ad NC cf pc lv (.int (iI b) :: .int (iI a) :: st) σ := by
  intro H locs ls hP hS hl
  have hm := mw_J9_max_7cf53
  have hfr : 1 ≤ M.1.2.2.2.frames := by rw [gd_R C]; exact hd1
  have hlo : (st.map fun v => v.category).sum + 13 ≤ M.1.2.2.2.locals := by
    rw [gd_R C]
    show _ ≤ 40 * d
    omega
  refine va_mmax (gd_x C) (gd_b C) ((gd_ml C).trans hl.1.symm) (gd_own C) (gd_ts C _ hw) (gd_ts C _ hm.2.1) (gd_ts C _ hm.2.2.1) (gd_ts C _ hm.2.2.2) hfr hlo (Nat.zero_le _) (Nat.zero_le _) hd ?_
  have e : (if iI a < iI b then iI b else iI a) = iI (if a < b then b else a) := by
    by_cases h : a < b
    · rw [if_pos ((iI_lt ra rb).mpr h), if_pos h]
    · rw [if_neg (fun z => h ((iI_lt ra rb).mp z)), if_neg h]
  rw [e]
  exact k H locs ls hP hS hl
theorem g_mmin (C : Good l K D ad NC E d cc own M) {index : Nat} {a b : Int} (ra : R3 a) (rb : R3 b) (hw : Cond.methodLink own index yJ9_min_7cf53 ∈ gWs) (hd : decode cc pc = .ok (.invokestatic index, 3)) (hcat : (st.map fun v => v.category).sum ≤ 8) (hd1 : 1 ≤ d) (k : G M ad NC cf (pc + 3) lv (.int (iI (if b < a then b else a)) :: st) σ) : G M ad NC cf pc lv (.int (iI b) :: .int (iI a) :: st) σ := by
  intro H locs ls hP hS hl
  have hm := mw_J9_min_7cf53
  have hfr : 1 ≤ M.1.2.2.2.frames := by rw [gd_R C]; exact hd1
  have hlo : (st.map fun v => v.category).sum + 13 ≤ M.1.2.2.2.locals := by
    rw [gd_R C]
    show _ ≤ 40 * d
    omega
  refine va_mmin (gd_x C) (gd_b C) ((gd_ml C).trans hl.1.symm) (gd_own C) (gd_ts C _ hw) (gd_ts C _ hm.2.1) (gd_ts C _ hm.2.2.1) (gd_ts C _ hm.2.2.2) hfr hlo (Nat.zero_le _) (Nat.zero_le _) hd ?_
  have e : (if iI b < iI a then iI b else iI a) = iI (if b < a then b else a) := by
    by_cases h : b < a
    · rw [if_pos ((iI_lt rb ra).mpr h), if_pos h]
    · rw [if_neg (fun z => h ((iI_lt rb ra).mp z)), if_neg h]
  rw [e]
  exact k H locs ls hP hS hl
end GR
theorem g_cI {M : GM} {ad : Int → Nat} {NC : Nat} {cf : Int → (Int → Int) → va_E} {pc : Nat} {lv : List (Nat × Value)} {st : List Value} {σ : Mem} {a b : Int} (h : a = b) (k : G M ad NC cf pc lv (.int (iI b) :: st) σ) : G M ad NC cf pc lv (.int (iI a) :: st) σ := by rw [h]; exact k

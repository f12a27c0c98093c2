/-! THE LAW'S MACHINE: both worlds, the script -/
def LGood (l : Launch) (K : Nat → ClassId) (D : va_G) (ad bd : Int → Nat) (P : cP) (b L : Nat) (xs : Nat → Int32) (M : GM) : Prop :=
  NGood l K D cL_law RL room_1 M ∧ (Apart ad 60 ∧ Apart bd 12 ∧ ∀ i j : Int, 0 ≤ i → i < 60 → 0 ≤ j → j < 12 → ad i ≠ bd j) ∧ ((∀ k : Int, 0 ≤ k → k < 60 → M.2.2.2.2.2 (ad k)) ∧ ∀ k : Int, 0 ≤ k → k < 12 → M.2.2.2.2.2 (bd k)) ∧ cE P M.2.2.2.2.2 M.2.1.1 M.2.1.1.heap ∧ (va_X b L xs M.2.1.1 M.2.1.1.heap ∧ b < M.2.1.1.heap.size ∧ ¬ M.2.2.2.2.2 b) ∧ L ≤ 3072 ∧ M.2.2.1.2.2 = 4
def LG (M : GM) (K : Nat → ClassId) (ad bd : Int → Nat) (kc ks : Nat) (pc : Nat) (lv : List (Nat × Value)) (st : List Value) (σ τ : Mem) : Prop :=
  ∀ (H : Heap) (locs : List Loc) (ls : Array Slot), va_P M.2.2.2.2.1 vwCl (wd ad 60 (cfC ad K) σ) H → va_P M.2.2.2.2.1 vwCl (wd bd 12 (cfM bd K) τ) H → va_S M.2.2.2.2.2 M.2.1.1.heap H locs → lv_has ls M.2.2.1.2.2 lv → W M.1.1 M.1.2.1 M.1.2.2.1 M.1.2.2.2 M.2.1.1 M.2.1.2.1 M.2.1.2.2.1 M.2.1.2.2.2 M.2.2.1.1 M.2.2.1.2.1 H locs kc ks M.2.2.2.1 (F0 M.2.1.2.1 pc ls st)
/-- the script's numbers -/
def sx (xs : Nat → Int32) (j : Int) : Int := (xs j.toNat).toInt
theorem sx_R (xs : Nat → Int32) (j : Int) : R3 (sx xs j) := iI_rng _
theorem kept_other {D : va_G} {cl : List vw_C} {ad bd : Int → Nat} {NA NB : Nat} {cf : Int → (Int → Int) → va_E} {τ : Mem} {H H1 : Heap} (h : va_P D cl (wd bd NB cf τ) H) (hap : ∀ i j : Int, 0 ≤ i → i < (NA : Int) → 0 ≤ j → j < (NB : Int) → ad i ≠ bd j) (hk : ∀ q : Nat, q < H.size → ¬ gA ad NA H.size q → H1[q]? = H[q]?) : va_P D cl (wd bd NB cf τ) H1 := by
  refine h.kept (fun k q hq => ?_)
  have hl := (h k q hq).lt
  obtain ⟨h1, rfl⟩ := wd_in hq
  refine hk _ hl (fun z => ?_)
  rcases z with ⟨i, i0, i1, e⟩ | z
  · exact hap i (k : Int) i0 i1 (by omega) (by omega) e.symm
  · exact absurd hl (by omega)
section LM
variable {l : Launch} {K : Nat → ClassId} {D : va_G} {ad bd : Int → Nat} {P : cP} {b L : Nat} {xs : Nat → Int32} {M : GM} {kc ks pc : Nat} {lv : List (Nat × Value)} {st : List Value} {σ τ : Mem}
theorem l_aload_n (C : LGood l K D ad bd P b L xs M) {k : Fin 4} {i p x : Nat} (hd : decode cL_law pc = .ok (.aload_n k, 1)) (hi : k.val = i) (hv : lv[p]? = some (i, .ref x)) (k : LG M K ad bd kc ks (pc + 1) lv (.ref x :: st) σ τ) : LG M K ad bd kc ks pc lv st σ τ := fun H locs ls hP hQ hS hl => lv_aload_n (nd_x C.1) (nd_b C.1) hd hi (lv_at hl p hv) (k H locs ls hP hQ hS hl)
theorem l_iload_n (C : LGood l K D ad bd P b L xs M) {k : Fin 4} {i p : Nat} {x : Int32} (hd : decode cL_law pc = .ok (.iload_n k, 1)) (hi : k.val = i) (hv : lv[p]? = some (i, .int x)) (k : LG M K ad bd kc ks (pc + 1) lv (.int x :: st) σ τ) : LG M K ad bd kc ks pc lv st σ τ := fun H locs ls hP hQ hS hl => lv_iload_n (nd_x C.1) (nd_b C.1) hd hi (lv_at hl p hv) (k H locs ls hP hQ hS hl)
theorem l_iconst (C : LGood l K D ad bd P b L xs M) {n : Int} (hd : decode cL_law pc = .ok (.iconst n, 1)) (k : LG M K ad bd kc ks (pc + 1) lv (.int (iI n) :: st) σ τ) : LG M K ad bd kc ks pc lv st σ τ := fun H locs ls hP hQ hS hl => lv_iconst (nd_x C.1) (nd_b C.1) hd rfl (k H locs ls hP hQ hS hl)
theorem l_bipush (C : LGood l K D ad bd P b L xs M) {n : Int} (hd : decode cL_law pc = .ok (.bipush n, 2)) (h : -128 ≤ n ∧ n < 128) (k : LG M K ad bd kc ks (pc + 2) lv (.int (iI n) :: st) σ τ) : LG M K ad bd kc ks pc lv st σ τ := fun H locs ls hP hQ hS hl => lv_bipush (nd_x C.1) (nd_b C.1) hd (g_c8 n h) (k H locs ls hP hQ hS hl)
theorem l_iadd (C : LGood l K D ad bd P b L xs M) {x y : Int} (hd : decode cL_law pc = .ok (.iadd, 1)) (k : LG M K ad bd kc ks (pc + 1) lv (.int (iI (x + y)) :: st) σ τ) : LG M K ad bd kc ks pc lv (.int (iI y) :: .int (iI x) :: st) σ τ := fun H locs ls hP hQ hS hl => lv_iadd (nd_x C.1) (nd_b C.1) hd (by rw [iI_add]; exact k H locs ls hP hQ hS hl)
theorem l_isub (C : LGood l K D ad bd P b L xs M) {x y : Int} (hd : decode cL_law pc = .ok (.isub, 1)) (k : LG M K ad bd kc ks (pc + 1) lv (.int (iI (x - y)) :: st) σ τ) : LG M K ad bd kc ks pc lv (.int (iI y) :: .int (iI x) :: st) σ τ := fun H locs ls hP hQ hS hl => lv_isub (nd_x C.1) (nd_b C.1) hd (by rw [iI_sub]; exact k H locs ls hP hQ hS hl)
theorem l_iand (C : LGood l K D ad bd P b L xs M) {x y : Int} (hd : decode cL_law pc = .ok (.iand, 1)) (k : LG M K ad bd kc ks (pc + 1) lv (.int (iI (oAnd x y)) :: st) σ τ) : LG M K ad bd kc ks pc lv (.int (iI y) :: .int (iI x) :: st) σ τ := fun H locs ls hP hQ hS hl => lv_iand (nd_x C.1) (nd_b C.1) hd (by rw [show iI x &&& iI y = iI (oAnd x y) from (iI_of _).symm]; exact k H locs ls hP hQ hS hl)
theorem l_i2l (C : LGood l K D ad bd P b L xs M) {x : Int} (ra : R3 x) (hd : decode cL_law pc = .ok (.i2l, 1)) (k : LG M K ad bd kc ks (pc + 1) lv (.long (lI x) :: st) σ τ) : LG M K ad bd kc ks pc lv (.int (iI x) :: st) σ τ := fun H locs ls hP hQ hS hl => lv_i2l (nd_x C.1) (nd_b C.1) hd (iI_l ra) (k H locs ls hP hQ hS hl)
theorem l_lshl (C : LGood l K D ad bd P b L xs M) {x y : Int} (hd : decode cL_law pc = .ok (.lshl, 1)) (k : LG M K ad bd kc ks (pc + 1) lv (.long (lI (oShlL x y)) :: st) σ τ) : LG M K ad bd kc ks pc lv (.int (iI y) :: .long (lI x) :: st) σ τ := fun H locs ls hP hQ hS hl => lv_lshl (nd_x C.1) (nd_b C.1) hd (lI_of _).symm (k H locs ls hP hQ hS hl)
theorem l_land (C : LGood l K D ad bd P b L xs M) {x y : Int} (hd : decode cL_law pc = .ok (.land, 1)) (k : LG M K ad bd kc ks (pc + 1) lv (.long (lI (oAndL x y)) :: st) σ τ) : LG M K ad bd kc ks pc lv (.long (lI y) :: .long (lI x) :: st) σ τ := fun H locs ls hP hQ hS hl => lv_land (nd_x C.1) (nd_b C.1) hd (by rw [show lI x &&& lI y = lI (oAndL x y) from (lI_of _).symm]; exact k H locs ls hP hQ hS hl)
theorem l_lor (C : LGood l K D ad bd P b L xs M) {x y : Int} (hd : decode cL_law pc = .ok (.lor, 1)) (k : LG M K ad bd kc ks (pc + 1) lv (.long (lI (oOrL x y)) :: st) σ τ) : LG M K ad bd kc ks pc lv (.long (lI y) :: .long (lI x) :: st) σ τ := fun H locs ls hP hQ hS hl => lv_lor (nd_x C.1) (nd_b C.1) hd (by rw [show lI x ||| lI y = lI (oOrL x y) from (lI_of _).symm]; exact k H locs ls hP hQ hS hl)
theorem l_ldc2 (C : LGood l K D ad bd P b L xs M) {index : Nat} {v : Int64} {n : Int} (hw : Cond.constantLong RL index v ∈ gWs) (hv : v = lI n) (hd : decode cL_law pc = .ok (.ldc2_w index, 3)) (k : LG M K ad bd kc ks (pc + 3) lv (.long (lI n) :: st) σ τ) : LG M K ad bd kc ks pc lv st σ τ := fun H locs ls hP hQ hS hl => lv_ldc2 (v := lI n) (nd_x C.1) (nd_b C.1) (nd_own C.1) (nd_ts C.1 _ (hv ▸ hw)) hd (k H locs ls hP hQ hS hl)
theorem l_sld (C : LGood l K D ad bd P b L xs M) {i : Int} (hd : decode cL_law pc = .ok (.iaload, 1)) (h0 : 0 ≤ i) (h1 : i < (L : Int)) (k : LG M K ad bd kc ks (pc + 1) lv (.int (iI (sx xs i)) :: st) σ τ) : LG M K ad bd kc ks pc lv (.int (iI i) :: .ref b :: st) σ τ := by
  intro H locs ls hP hQ hS hl
  have hL := C.2.2.2.2.2.1
  have ri : R3 i := ⟨by omega, by omega⟩
  refine va_sld (nd_x C.1) (nd_b C.1) C.2.2.2.2.1.1 C.2.2.2.2.1.2.1 C.2.2.2.2.1.2.2 hS (iI_in h0 h1 ri) hd ?_
  rw [iI_cl ri]
  have h := k H locs ls hP hQ hS hl
  unfold sx at h
  rw [iI_of] at h
  exact h
theorem l_slen (C : LGood l K D ad bd P b L xs M) (hd : decode cL_law pc = .ok (.arraylength, 1)) (k : LG M K ad bd kc ks (pc + 1) lv (.int (iI (L : Int)) :: st) σ τ) : LG M K ad bd kc ks pc lv (.ref b :: st) σ τ := by
  intro H locs ls hP hQ hS hl
  refine va_slen (nd_x C.1) (nd_b C.1) C.2.2.2.2.1.1 C.2.2.2.2.1.2.1 C.2.2.2.2.1.2.2 hS hd ?_
  have e : Int32.ofNat L = iI (L : Int) := by unfold iI; exact (Int32.ofInt_eq_ofNat).symm
  rw [e]
  exact k H locs ls hP hQ hS hl
theorem l_goto (C : LGood l K D ad bd P b L xs M) {off : Int} {tgt : Nat} (hd : decode cL_law pc = .ok (.goto off, 3)) (ht : (pc : Int) + off = (tgt : Int)) (k : LG M K ad bd kc ks tgt lv st σ τ) : LG M K ad bd kc ks pc lv st σ τ := fun H locs ls hP hQ hS hl => lv_goto (nd_x C.1) (nd_b C.1) hd ht (k H locs ls hP hQ hS hl)
theorem l_iinc (C : LGood l K D ad bd P b L xs M) {i p : Nat} {n x : Int} {lv' : List (Nat × Value)} (hd : decode cL_law pc = .ok (.iinc i n, 3)) (hb : i < 4) (hv : lv[p]? = some (i, .int (iI x))) (hl' : (i, Value.int (iI (x + n))) :: lv.filter (fun q => !(q.1 == i) && !(q.1 + 1 == i && q.2.category == 2)) = lv') (k : LG M K ad bd kc ks (pc + 3) lv' st σ τ) : LG M K ad bd kc ks pc lv st σ τ := fun H locs ls hP hQ hS hl => lv_iinc (v := iI (x + n)) (nd_x C.1) (nd_b C.1) hd hl hv (by rw [← iI_add]; rfl) (by rw [C.2.2.2.2.2.2]; exact hb) hl' (fun ls' h => k H locs ls' hP hQ hS h)
theorem l_icmp_gt (C : LGood l K D ad bd P b L xs M) {x y : Int} {off : Int} {tgt : Nat} (hd : decode cL_law pc = .ok (.if_icmp .gt off, 3)) (ht : (pc : Int) + off = (tgt : Int)) (ra : R3 x) (rb : R3 y) (kt : y < x → LG M K ad bd kc ks tgt lv st σ τ) (kf : x ≤ y → LG M K ad bd kc ks (pc + 3) lv st σ τ) : LG M K ad bd kc ks pc lv (.int (iI y) :: .int (iI x) :: st) σ τ := fun H locs ls hP hQ hS hl => lv_icmp_gt (nd_x C.1) (nd_b C.1) hd ht (fun h => kt ((iI_lt rb ra).mp h) H locs ls hP hQ hS hl) (fun h => kf (Int.not_lt.mp fun z => h ((iI_lt rb ra).mpr z)) H locs ls hP hQ hS hl)
theorem l_eq (C : LGood l K D ad bd P b L xs M) {x y : Int} {off : Int} {tgt : Nat} (hd : decode cL_law pc = .ok (.if_icmp .eq off, 3)) (ht : (pc : Int) + off = (tgt : Int)) (e : x = y) (k : LG M K ad bd kc ks tgt lv st σ τ) : LG M K ad bd kc ks pc lv (.int (iI y) :: .int (iI x) :: st) σ τ := fun H locs ls hP hQ hS hl => lv_icmp_eq (nd_x C.1) (nd_b C.1) hd ht (fun _ => k H locs ls hP hQ hS hl) (fun h => absurd (by rw [e]) h)
theorem l_swIn (C : LGood l K D ad bd P b L xs M) {dflt lo hi : Int} {offs : Array Int} {len : Nat} {x : Int} (z : Int) {off : Int} {tgt : Nat} (hd : decode cL_law pc = .ok (.tableswitch dflt lo hi offs, len)) (ra : R3 z) (hz : x = z) (h1 : lo ≤ z) (h2 : z ≤ hi) (ho : offs[(z - lo).toNat]? = some off) (ht : (pc : Int) + off = (tgt : Int)) (k : LG M K ad bd kc ks tgt lv st σ τ) : LG M K ad bd kc ks pc lv (.int (iI x) :: st) σ τ := fun H locs ls hP hQ hS hl => by
  subst hz
  exact lv_tableIn (nd_x C.1) (nd_b C.1) hd (by rw [iI_toInt ra]; omega) (by rw [iI_toInt ra]; omega) (by rw [iI_toInt ra]; exact ho) ht (k H locs ls hP hQ hS hl)
theorem l_swOut (C : LGood l K D ad bd P b L xs M) {dflt lo hi : Int} {offs : Array Int} {len : Nat} {x : Int} {tgt : Nat} (hd : decode cL_law pc = .ok (.tableswitch dflt lo hi offs, len)) (ra : R3 x) (h1 : x < lo ∨ hi < x) (ht : (pc : Int) + dflt = (tgt : Int)) (k : LG M K ad bd kc ks tgt lv st σ τ) : LG M K ad bd kc ks pc lv (.int (iI x) :: st) σ τ := fun H locs ls hP hQ hS hl => lv_tableOut (nd_x C.1) (nd_b C.1) hd (by rw [iI_toInt ra]; exact h1) ht (k H locs ls hP hQ hS hl)
/-- the k-th number behind the present place of the script -/
theorem l_arg (C : LGood l K D ad bd P b L xs M) {i n : Int} {k0 k3 : Fin 4} (hlv : lv = [(3, .int (iI i)), (2, .ref (bd 0)), (1, .ref (ad 0)), (0, .ref b)]) (d0 : decode cL_law pc = .ok (.aload_n k0, 1)) (e0 : k0.val = 0) (d1 : decode cL_law (pc + 1) = .ok (.iload_n k3, 1)) (e3 : k3.val = 3) (d2 : decode cL_law (pc + 2) = .ok (.iconst n, 1)) (d3 : decode cL_law (pc + 3) = .ok (.iadd, 1)) (d4 : decode cL_law (pc + 4) = .ok (.iaload, 1)) (h0 : 0 ≤ i + n) (h1 : i + n < (L : Int)) (k : LG M K ad bd kc ks (pc + 5) lv (.int (iI (sx xs (i + n))) :: st) σ τ) : LG M K ad bd kc ks pc lv st σ τ := by
  subst hlv
  refine l_aload_n C d0 e0 (p := 3) rfl ?_
  refine l_iload_n C d1 e3 (p := 0) rfl ?_
  refine l_iconst C d2 ?_
  refine l_iadd C d3 ?_
  exact l_sld C d4 h0 h1 k
theorem l_pre (C : LGood l K D ad bd P b L xs M) {NC : Nat} {zd : Int → Nat} {cf : Int → (Int → Int) → va_E} {ρ : Mem} {As : List Value} {H : Heap} {locs : List Loc} (hA : ∀ k : Int, 0 ≤ k → k < (NC : Int) → M.2.2.2.2.2 (zd k)) (hP : va_P M.2.2.2.2.1 vwCl (wd zd NC cf ρ) H) (hS : va_S M.2.2.2.2.2 M.2.1.1.heap H locs) (U : State) (hU : U.heap = H) (hW : M.2.1.1.WarmedH U.vm) : va_Pc As (gPic K D zd NC cf (cE P) ρ H.size) As.toArray U := by
  have hE := cEok P
  refine ⟨rfl, by rw [hU], ?_, va_K.moved hW.alike (nd_K C.1), ?_⟩
  · rw [hU, ← nd_D C.1]; exact hP
  · rw [hU]
    refine hE.2.2.1 _ _ _ _ (hE.2.2.2 _ _ _ _ hW (hE.2.1 _ _ _ _ C.2.2.2.1 hS.2.1)) (fun q hq => ?_)
    rcases hq with ⟨k, k0, k1, rfl⟩ | h
    · exact hA k k0 k1
    · exact nd_A C.1 q (Nat.le_trans hS.1 h)
theorem l_sub (C : LGood l K D ad bd P b L xs M) {NC : Nat} {zd : Int → Nat} {H : Heap} {locs : List Loc} (hA : ∀ k : Int, 0 ≤ k → k < (NC : Int) → M.2.2.2.2.2 (zd k)) (hS : va_S M.2.2.2.2.2 M.2.1.1.heap H locs) (q : Nat) (hq : gA zd NC H.size q) : M.2.2.2.2.2 q := by
  rcases hq with ⟨k, k0, k1, rfl⟩ | h
  · exact hA k k0 k1
  · exact nd_A C.1 q (Nat.le_trans hS.1 h)
theorem l_callC (C : LGood l K D ad bd P b L xs M) {y : MethodName} {bytes : ByteArray} {maxL n index d0 : Nat} {ret : Option FieldType} {As st0 : List Value} {r : Int} {σ' : Mem} (hd : decode cL_law pc = .ok (.invokevirtual index, 3)) (hct : CtI l K D ad 60 (cfC ad K) (cE P) y bytes maxL ret d0 (.ref (ad 0) :: As) σ r σ') (hm : MWv y bytes maxL ret RX8 n) (hl : Cond.methodLink RL index y ∈ gWs) (hR : kc ≤ 600000 ∧ ks ≤ 7302250) (hd1 : d0 ≤ 100) (hml : maxL ≤ 21) (hn : As.length = n) (hst : st0 = As.reverse ++ .ref (ad 0) :: st) (hcat : (st.map fun v => v.category).sum ≤ 8) (k : LG M K ad bd kc ks (pc + 3) lv (.int (iI r) :: st) σ' τ) : LG M K ad bd kc ks pc lv st0 σ τ := by
  intro H locs ls hP hQ hS hlv
  have hM := hct H.size
  have hrun : va_Run M.1.1 M.1.2.1 M.1.2.2.1 M.1.2.2.2 M.2.1.1 M.2.1.2.1 M.2.1.2.2.1 M.2.1.2.2.2 M.2.2.1.1 M.2.2.1.2.1 H locs kc ks 0 0 (F0 M.2.1.2.1 pc ls st0) st (va_Qi (fun (x : Int32) (u : Mem) => x = iI r ∧ u = σ') (fun u t => va_P D vwCl (wd ad 60 (cfC ad K) u) t.heap) (gA ad 60 H.size) (Value.ref (ad 0) :: As).toArray) (gA ad 60 H.size) := by
    rw [nd_l C.1]
    exact va_runV (As := As) (rest := st) (C := RX8) ⟨nd_x C.1, nd_b C.1, nd_ml C.1, nd_own C.1, nd_ts C.1⟩ hM (cwV n (nd_ts C.1) (gw_V hm hl) rfl rfl rfl hm.1 (by rw [nd_R C.1]; show d0 + 1 ≤ 2048 ∧ 8 + (maxL + 11) + 40 * d0 ≤ 84000; omega)) ⟨gPic_blind (cEok P), va_recv (nd_KD C.1) hP (q0 := 0) (ci := 8) rfl rfl, fun U hU hW => l_pre C C.2.2.1.1 hP hS U hU hW⟩ rfl hn hlv.1 hst (by show 2 * 0 + _ ≤ 8; omega) hd ⟨by rw [nd_R C.1]; exact hR.1, by rw [nd_R C.1]; exact hR.2⟩
  refine va_calli hrun hS (fun q _ h => l_sub C C.2.2.1.1 hS q h) (l_sub C C.2.2.1.1 hS) (fun x u t H1 locs1 ht _ hpost hB _ hk hS1 => ?_)
  obtain ⟨rfl, rfl⟩ := hpost
  rw [ht, ← nd_D C.1] at hB
  exact k H1 locs1 ls hB (kept_other (NA := 60) (NB := 12) hQ C.2.1.2.2 hk) hS1 hlv
theorem l_callM (C : LGood l K D ad bd P b L xs M) {y : MethodName} {bytes : ByteArray} {maxL n index d0 : Nat} {ret : Option FieldType} {As st0 : List Value} {r : Int} {τ' : Mem} (hd : decode cL_law pc = .ok (.invokevirtual index, 3)) (hct : CtI l K D bd 12 (cfM bd K) (cE P) y bytes maxL ret d0 (.ref (bd 0) :: As) τ r τ') (hm : MWv y bytes maxL ret RX9 n) (hl : Cond.methodLink RL index y ∈ gWs) (hR : kc ≤ 600000 ∧ ks ≤ 7302250) (hd1 : d0 ≤ 100) (hml : maxL ≤ 21) (hn : As.length = n) (hst : st0 = As.reverse ++ .ref (bd 0) :: st) (hcat : (st.map fun v => v.category).sum ≤ 8) (k : LG M K ad bd kc ks (pc + 3) lv (.int (iI r) :: st) σ τ') : LG M K ad bd kc ks pc lv st0 σ τ := by
  intro H locs ls hP hQ hS hlv
  have hM := hct H.size
  have hrun : va_Run M.1.1 M.1.2.1 M.1.2.2.1 M.1.2.2.2 M.2.1.1 M.2.1.2.1 M.2.1.2.2.1 M.2.1.2.2.2 M.2.2.1.1 M.2.2.1.2.1 H locs kc ks 0 0 (F0 M.2.1.2.1 pc ls st0) st (va_Qi (fun (x : Int32) (u : Mem) => x = iI r ∧ u = τ') (fun u t => va_P D vwCl (wd bd 12 (cfM bd K) u) t.heap) (gA bd 12 H.size) (Value.ref (bd 0) :: As).toArray) (gA bd 12 H.size) := by
    rw [nd_l C.1]
    exact va_runV (As := As) (rest := st) (C := RX9) ⟨nd_x C.1, nd_b C.1, nd_ml C.1, nd_own C.1, nd_ts C.1⟩ hM (cwV n (nd_ts C.1) (gw_V hm hl) rfl rfl rfl hm.1 (by rw [nd_R C.1]; show d0 + 1 ≤ 2048 ∧ 8 + (maxL + 11) + 40 * d0 ≤ 84000; omega)) ⟨gPic_blind (cEok P), va_recv (nd_KD C.1) hQ (q0 := 0) (ci := 9) rfl rfl, fun U hU hW => l_pre C C.2.2.1.2 hQ hS U hU hW⟩ rfl hn hlv.1 hst (by show 2 * 0 + _ ≤ 8; omega) hd ⟨by rw [nd_R C.1]; exact hR.1, by rw [nd_R C.1]; exact hR.2⟩
  refine va_calli hrun hS (fun q _ h => l_sub C C.2.2.1.2 hS q h) (l_sub C C.2.2.1.2 hS) (fun x u t H1 locs1 ht _ hpost hB _ hk hS1 => ?_)
  obtain ⟨rfl, rfl⟩ := hpost
  rw [ht, ← nd_D C.1] at hB
  exact k H1 locs1 ls (kept_other (NA := 12) (NB := 60) hP (fun i j a b c d e => C.2.1.2.2 j i c d a b e.symm) hk) hB hS1 hlv
end LM

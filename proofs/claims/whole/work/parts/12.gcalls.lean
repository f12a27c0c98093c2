/-! CONTRACTS over G: a method, at any heap that holds the world σ, returns r and leaves the world σ' -/
def gPic (K : Nat → ClassId) (D : va_G) (ad : Int → Nat) (NC : Nat) (cf : Int → (Int → Int) → va_E) (E : gEnv) (σ : Mem) (sz : Nat) (U : State) : Prop := U.heap.size = sz ∧ va_P D vwCl (wd ad NC cf σ) U.heap ∧ va_K D vwCl (gtys K) U ∧ E (gA ad NC sz) U U.heap
def CtI (l : Launch) (K : Nat → ClassId) (D : va_G) (ad : Int → Nat) (NC : Nat) (cf : Int → (Int → Int) → va_E) (E : gEnv) (y : MethodName) (bytes : ByteArray) (maxL : Nat) (ret : Option FieldType) (d : Nat) (As : List Value) (σ : Mem) (r : Int) (σ' : Mem) : Prop := ∀ sz : Nat, Met l y (gw y bytes maxL ret) (rmd d) (va_Pc As (gPic K D ad NC cf E σ sz)) (va_Qi (fun (x : Int32) (u : Mem) => x = iI r ∧ u = σ') (fun u t => va_P D vwCl (wd ad NC cf u) t.heap) (gA ad NC sz)) 0 0 (gA ad NC sz)
def CtL (l : Launch) (K : Nat → ClassId) (D : va_G) (ad : Int → Nat) (NC : Nat) (cf : Int → (Int → Int) → va_E) (E : gEnv) (y : MethodName) (bytes : ByteArray) (maxL : Nat) (ret : Option FieldType) (d : Nat) (As : List Value) (σ : Mem) (r : Int) (σ' : Mem) : Prop := ∀ sz : Nat, Met l y (gw y bytes maxL ret) (rmd d) (va_Pc As (gPic K D ad NC cf E σ sz)) (va_Ql (fun (x : Int64) (u : Mem) => x = lI r ∧ u = σ') (fun u t => va_P D vwCl (wd ad NC cf u) t.heap) (gA ad NC sz)) 0 0 (gA ad NC sz)
def CtV (l : Launch) (K : Nat → ClassId) (D : va_G) (ad : Int → Nat) (NC : Nat) (cf : Int → (Int → Int) → va_E) (E : gEnv) (y : MethodName) (bytes : ByteArray) (maxL : Nat) (ret : Option FieldType) (d : Nat) (As : List Value) (σ : Mem) (σ' : Mem) : Prop := ∀ sz : Nat, Met l y (gw y bytes maxL ret) (rmd d) (va_Pc As (gPic K D ad NC cf E σ sz)) (va_Qv (fun (u : Mem) => u = σ') (fun u t => va_P D vwCl (wd ad NC cf u) t.heap) (gA ad NC sz)) 0 0 (gA ad NC sz)
theorem gPic_blind {K : Nat → ClassId} {D : va_G} {ad : Int → Nat} {NC : Nat} {cf : Int → (Int → Int) → va_E} {E : gEnv} {σ : Mem} {sz : Nat} {As : List Value} (hE : gEok E) : FrameBlind (va_Pc As (gPic K D ad NC cf E σ sz)) := by
  intro a U g mk q
  obtain ⟨q0, q1, qP, qK, qE⟩ := q
  exact ⟨q0, q1, qP, va_K.moved (u := U) (U := U.calling g mk a) (Vm.Alike.refl U.vm) qK, hE.1 _ U (U.calling g mk a) _ rfl qE⟩
theorem gw_V {own C : String} {index maxL n : Nat} {y : MethodName} {bytes : ByteArray} {ret : Option FieldType} (hm : MWv y bytes maxL ret C n) (hl : Cond.methodLink own index y ∈ gWs) : GoodIn gWs (wsV own index C y (gw y bytes maxL ret)) := by
  intro w hw
  have h : w ∈ gWs := by
    rcases List.mem_append.mp hw with h | h
    · simp only [List.mem_cons, List.not_mem_nil, or_false] at h
      rcases h with rfl | rfl | rfl | rfl
      · exact hl
      · exact hm.2.1
      · exact hm.2.2.1
      · exact hm.2.2.2.1
    · rcases List.mem_cons.mp h with rfl | h
      · exact hm.2.2.2.2
      · exact h
  exact ⟨h, good_of_word (gWs_good w h)⟩
theorem gw_S {own : String} {index maxL n : Nat} {y : MethodName} {bytes : ByteArray} {ret : Option FieldType} (hm : MWs y bytes maxL ret n) (hl : Cond.methodLink own index y ∈ gWs) : GoodIn gWs (va_wsS own index y (gw y bytes maxL ret)) := by
  intro w hw
  have h : w ∈ gWs := by
    rcases List.mem_append.mp hw with h | h
    · simp only [List.mem_cons, List.not_mem_nil, or_false] at h
      rcases h with rfl | rfl | rfl
      · exact hl
      · exact hm.2.1
      · exact hm.2.2.1
    · rcases List.mem_cons.mp h with rfl | h
      · exact hm.2.2.2
      · exact h
  exact ⟨h, good_of_word (gWs_good w h)⟩
section GC
variable {l : Launch} {K : Nat → ClassId} {D : va_G} {ad : Int → Nat} {NC : Nat} {E : gEnv} {d d0 : Nat} {cc : ByteArray} {own : String} {M : GM} {cf : Int → (Int → Int) → va_E} {pc : Nat} {lv : List (Nat × Value)} {st st0 : List Value} {σ σ' : Mem} {y : MethodName} {bytes : ByteArray} {maxL n index : Nat} {ret : Option FieldType} {As : List Value} {r : Int}
theorem g_room (C : Good l K D ad NC E d cc own M) (hd1 : d0 + 1 ≤ d) (hml : maxL ≤ 21) : (rmd d0).frames + 1 ≤ M.1.2.2.2.frames ∧ 8 + (maxL + 11) + (rmd d0).locals ≤ M.1.2.2.2.locals := by
  rw [gd_R C]
  exact ⟨hd1, by show 8 + (maxL + 11) + 40 * d0 ≤ 40 * d; omega⟩
theorem g_pre (C : Good l K D ad NC E d cc own M) {H : Heap} {locs : List Loc} (hP : va_P M.2.2.2.2.1 vwCl (wd ad NC cf σ) H) (hS : va_S M.2.2.2.2.2 M.2.1.1.heap H locs) (U : State) (hU : U.heap = H) (hW : M.2.1.1.WarmedH U.vm) : va_Pc As (gPic K D ad NC cf E σ H.size) As.toArray U := by
  refine ⟨rfl, by rw [hU], ?_, ?_, ?_⟩
  · rw [hU, ← gd_D C]; exact hP
  · have := va_K.moved hW.alike (gd_K C)
    rw [← gd_D C]; exact this
  · rw [hU]
    exact (gd_Eo C).2.2.1 _ _ _ _ ((gd_Eo C).2.2.2 _ _ _ _ hW (gd_EH C hS)) (gd_sub C hS)
theorem g_runV (C : Good l K D ad NC E d cc own M) {Qc : Array Value → State → Outcome → State → Prop} {b : Int} {ci : Nat} {fs : List Value} {Cn : String} {T : u_T} {N : Nat} {H : Heap} {locs : List Loc} {ls : Array Slot} {nf : Nat → Prop} (hP : va_P M.2.2.2.2.1 vwCl (wd ad NC cf σ) H) (hS : va_S M.2.2.2.2.2 M.2.1.1.heap H locs) (hlv : lv_has ls M.2.2.1.2.2 lv) (hM : Met l y (gw y bytes maxL ret) (rmd d0) (va_Pc (.ref (ad b) :: As) (gPic K D ad NC cf E σ H.size)) Qc 0 0 nf) (hm : MWv y bytes maxL ret Cn n) (hl : Cond.methodLink own index y ∈ gWs) (hd1 : d0 + 1 ≤ d) (hml : maxL ≤ 21) (hb : 0 ≤ b ∧ b < (NC : Int)) (hf : cf b (σ b) = .inr (ci, fs)) (hc : vwCl[ci]? = some (Cn, T, N)) (hn : As.length = n) (hst : st0 = As.reverse ++ .ref (ad b) :: st) (hcat : (st.map fun v => v.category).sum ≤ 8) (hd : decode cc pc = .ok (.invokevirtual index, 3)) : va_Run M.1.1 M.1.2.1 M.1.2.2.1 M.1.2.2.2 M.2.1.1 M.2.1.2.1 M.2.1.2.2.1 M.2.1.2.2.2 M.2.2.1.1 M.2.2.1.2.1 H locs 0 0 0 0 (F0 M.2.1.2.1 pc ls st0) st (Qc (Value.ref (ad b) :: As).toArray) nf := by
  have he := wd_at (ad := ad) (cf := cf) (σ := σ) hb.1 hb.2
  rw [hf] at he
  rw [gd_l C]
  exact va_runV (As := As) (rest := st) (C := Cn) ⟨gd_x C, gd_b C, gd_ml C, gd_own C, gd_ts C⟩ hM (cwV n (gd_ts C) (gw_V hm hl) rfl rfl rfl hm.1 (g_room C hd1 hml)) ⟨gPic_blind (gd_Eo C), va_recv (gd_K C) hP hc he, fun U hU hW => g_pre C hP hS U hU hW⟩ rfl hn hlv.1 hst (by show 2 * 0 + _ ≤ 8; omega) hd ⟨Nat.zero_le _, Nat.zero_le _⟩
theorem g_runS (C : Good l K D ad NC E d cc own M) {Qc : Array Value → State → Outcome → State → Prop} {H : Heap} {locs : List Loc} {ls : Array Slot} {nf : Nat → Prop} (hP : va_P M.2.2.2.2.1 vwCl (wd ad NC cf σ) H) (hS : va_S M.2.2.2.2.2 M.2.1.1.heap H locs) (hlv : lv_has ls M.2.2.1.2.2 lv) (hM : Met l y (gw y bytes maxL ret) (rmd d0) (va_Pc As (gPic K D ad NC cf E σ H.size)) Qc 0 0 nf) (hm : MWs y bytes maxL ret n) (hl : Cond.methodLink own index y ∈ gWs) (hd1 : d0 + 1 ≤ d) (hml : maxL ≤ 21) (hn : As.length = n) (hst : st0 = As.reverse ++ st) (hcat : (st.map fun v => v.category).sum ≤ 8) (hd : decode cc pc = .ok (.invokestatic index, 3)) : va_Run M.1.1 M.1.2.1 M.1.2.2.1 M.1.2.2.2 M.2.1.1 M.2.1.2.1 M.2.1.2.2.1 M.2.1.2.2.2 M.2.2.1.1 M.2.2.1.2.1 H locs 0 0 0 0 (F0 M.2.1.2.1 pc ls st0) st (Qc As.toArray) nf := by
  rw [gd_l C]
  exact va_runS (As := As) (rest := st) ⟨gd_x C, gd_b C, gd_ml C, gd_own C, gd_ts C⟩ hM (va_cwS n (gd_ts C) (gw_S hm hl) rfl rfl rfl hm.1 (g_room C hd1 hml)) ⟨gPic_blind (gd_Eo C), fun U hU hW => g_pre C hP hS U hU hW⟩ rfl hn hlv.1 hst (by show 2 * 0 + _ ≤ 8; omega) hd ⟨Nat.zero_le _, Nat.zero_le _⟩
theorem g_callV (C : Good l K D ad NC E d cc own M) (hd : decode cc pc = .ok (.invokevirtual index, 3)) {b : Int} (hct : CtI l K D ad NC cf E y bytes maxL ret d0 (.ref (ad b) :: As) σ r σ') {ci : Nat} {fs : List Value} {Cn : String} {T : u_T} {N : Nat} (hm : MWv y bytes maxL ret Cn n) (hl : Cond.methodLink own index y ∈ gWs) (hd1 : d0 + 1 ≤ d) (hml : maxL ≤ 21) (hb : 0 ≤ b ∧ b < (NC : Int)) (hf : cf b (σ b) = .inr (ci, fs)) (hc : vwCl[ci]? = some (Cn, T, N)) (hn : As.length = n) (hst : st0 = As.reverse ++ .ref (ad b) :: st) (hcat : (st.map fun v => v.category).sum ≤ 8) (k : G M ad NC cf (pc + 3) lv (.int (iI r) :: st) σ') : G M ad NC cf pc lv st0 σ := by
  intro H locs ls hP hS hlv
  refine va_calli (g_runV C hP hS hlv (hct H.size) hm hl hd1 hml hb hf hc hn hst hcat hd) hS (fun q _ h => gd_sub C hS q h) (gd_sub C hS) (fun x u t H1 locs1 ht _ hpost hB _ _ hS1 => ?_)
  obtain ⟨rfl, rfl⟩ := hpost
  rw [ht, ← gd_D C] at hB
  exact k H1 locs1 ls hB hS1 hlv
theorem g_callVl (C : Good l K D ad NC E d cc own M) (hd : decode cc pc = .ok (.invokevirtual index, 3)) {b : Int} (hct : CtL l K D ad NC cf E y bytes maxL ret d0 (.ref (ad b) :: As) σ r σ') {ci : Nat} {fs : List Value} {Cn : String} {T : u_T} {N : Nat} (hm : MWv y bytes maxL ret Cn n) (hl : Cond.methodLink own index y ∈ gWs) (hd1 : d0 + 1 ≤ d) (hml : maxL ≤ 21) (hb : 0 ≤ b ∧ b < (NC : Int)) (hf : cf b (σ b) = .inr (ci, fs)) (hc : vwCl[ci]? = some (Cn, T, N)) (hn : As.length = n) (hst : st0 = As.reverse ++ .ref (ad b) :: st) (hcat : (st.map fun v => v.category).sum ≤ 8) (k : G M ad NC cf (pc + 3) lv (.long (lI r) :: st) σ') : G M ad NC cf pc lv st0 σ := by
  intro H locs ls hP hS hlv
  refine va_calll (g_runV C hP hS hlv (hct H.size) hm hl hd1 hml hb hf hc hn hst hcat hd) hS (fun q _ h => gd_sub C hS q h) (gd_sub C hS) (fun x u t H1 locs1 ht _ hpost hB _ _ hS1 => ?_)
  obtain ⟨rfl, rfl⟩ := hpost
  rw [ht, ← gd_D C] at hB
  exact k H1 locs1 ls hB hS1 hlv
theorem g_callVv (C : Good l K D ad NC E d cc own M) (hd : decode cc pc = .ok (.invokevirtual index, 3)) {b : Int} (hct : CtV l K D ad NC cf E y bytes maxL ret d0 (.ref (ad b) :: As) σ σ') {ci : Nat} {fs : List Value} {Cn : String} {T : u_T} {N : Nat} (hm : MWv y bytes maxL ret Cn n) (hl : Cond.methodLink own index y ∈ gWs) (hd1 : d0 + 1 ≤ d) (hml : maxL ≤ 21) (hb : 0 ≤ b ∧ b < (NC : Int)) (hf : cf b (σ b) = .inr (ci, fs)) (hc : vwCl[ci]? = some (Cn, T, N)) (hn : As.length = n) (hst : st0 = As.reverse ++ .ref (ad b) :: st) (hcat : (st.map fun v => v.category).sum ≤ 8) (k : G M ad NC cf (pc + 3) lv st σ') : G M ad NC cf pc lv st0 σ := by
  intro H locs ls hP hS hlv
  refine va_callv (g_runV C hP hS hlv (hct H.size) hm hl hd1 hml hb hf hc hn hst hcat hd) hS (fun q _ h => gd_sub C hS q h) (gd_sub C hS) (fun u t H1 locs1 ht _ hpost hB _ _ hS1 => ?_)
  obtain rfl := hpost
  rw [ht, ← gd_D C] at hB
  exact k H1 locs1 ls hB hS1 hlv
theorem g_callS (C : Good l K D ad NC E d cc own M) (hd : decode cc pc = .ok (.invokestatic index, 3)) (hct : CtI l K D ad NC cf E y bytes maxL ret d0 As σ r σ') (hm : MWs y bytes maxL ret n) (hl : Cond.methodLink own index y ∈ gWs) (hd1 : d0 + 1 ≤ d) (hml : maxL ≤ 21) (hn : As.length = n) (hst : st0 = As.reverse ++ st) (hcat : (st.map fun v => v.category).sum ≤ 8) (k : G M ad NC cf (pc + 3) lv (.int (iI r) :: st) σ') : G M ad NC cf pc lv st0 σ := by
  intro H locs ls hP hS hlv
  refine va_calli (g_runS C hP hS hlv (hct H.size) hm hl hd1 hml hn hst hcat hd) hS (fun q _ h => gd_sub C hS q h) (gd_sub C hS) (fun x u t H1 locs1 ht _ hpost hB _ _ hS1 => ?_)
  obtain ⟨rfl, rfl⟩ := hpost
  rw [ht, ← gd_D C] at hB
  exact k H1 locs1 ls hB hS1 hlv
end GC
/-! a method's proof begins: its machine M, its return -/
def gM (p : Program) (l : Launch) (e : Env) (R : Room) (s : State) (m : MethodId) (args : Array Value) (below : List Frame) (meth : Method) (c : Code) (nL : Nat) (Q : State → Prop) (D : va_G) (A : Nat → Prop) : GM := ((p, l, e, R), (s, m, args, below), (meth, c, nL), (Q, D, A))
section GI
variable {l : Launch} {K : Nat → ClassId} {D : va_G} {ad : Int → Nat} {NC : Nat} {E : gEnv} {d : Nat} {bytes : ByteArray} {cf : Int → (Int → Int) → va_E} {σ σ' : Mem} {y : MethodName} {maxL : Nat} {As : List Value} {r : Int} {ret : Option FieldType}
theorem g_start {Qc : Array Value → State → Outcome → State → Prop} {sz : Nat} (hap : Apart ad NC) (hE : gEok E) (hy : plainName y.cls = true) (hlen : Nat.ble (lg_sl As).length maxL = true) (body : ∀ M : GM, Good l K D ad NC E d bytes y.cls M → M.2.2.1.2.2 = maxL → M.2.2.1.1.sig.returnType = ret → M.2.2.1.1.locks = false → M.2.2.2.1 = MQ M.2.1.2.2.2 Qc As.toArray M.2.1.1 0 0 (gA ad NC sz) → M.2.1.2.2.1 = As.toArray → M.2.1.1.heap.size = sz → M.2.2.2.2.2 = gA ad NC sz → G M ad NC cf 0 (lv_args 0 As) [] σ) : Met l y (gw y bytes maxL ret) (rmd d) (va_Pc As (gPic K D ad NC cf E σ sz)) Qc 0 0 (gA ad NC sz) := by
  refine Met.ofW (cc := bytes) (maxL := maxL) (ret := ret) hy rfl ?_
  intro p e s m args below meth c s₁ B hml hv
  obtain ⟨rfl, hsz, hP, hK, hEs⟩ := hv
  have hts : ∀ w ∈ gWs, w.before As.toArray s = true := fun w h => atoms_spec (ws := gw y bytes maxL ret) B.pre w (List.mem_cons_of_mem _ h)
  have hown : s.vm.findClass y.cls = some m.cls := findClass_of_methodNamed B.named
  have C : Good l K D ad NC E d bytes y.cls (gM p l e (headSpec (gw y bytes maxL ret) (rmd d)).room s m As.toArray below meth c maxL (MQ below Qc As.toArray s 0 0 (gA ad NC sz)) D (gA ad NC sz)) := by
    unfold Good gM
    exact ⟨B.exec, B.bytes, hml, hown, hts, hK, hap, fun k h0 h1 => Or.inl ⟨k, h0, h1, rfl⟩, fun q h => Or.inr (by rw [← hsz]; exact h), hEs, rfl, rfl, rfl, hE⟩
  have hG := body _ C rfl B.returns B.notSynchronized rfl rfl hsz rfl
  have hl := lv_entry As (n := maxL) (Nat.le_of_ble_eq_true hlen)
  rw [lg_entry_eq]
  exact hG s.heap [] _ hP va_S.rf hl
theorem ctI_of (hap : Apart ad NC) (hE : gEok E) (hy : plainName y.cls = true) (hlen : Nat.ble (lg_sl As).length maxL = true) (ty : FieldType) (hty : narrow ty (.int (iI r)) = .int (iI r)) (body : ∀ M : GM, Good l K D ad NC E d bytes y.cls M → M.2.2.1.2.2 = maxL → (∀ (pc : Nat) (lv : List (Nat × Value)) (x : Int) (τ : Mem), decode bytes pc = .ok (.ireturn, 1) → x = r → τ = σ' → G M ad NC cf pc lv [.int (iI x)] τ) → G M ad NC cf 0 (lv_args 0 As) [] σ) : CtI l K D ad NC cf E y bytes maxL (some ty) d As σ r σ' := by
  intro sz
  refine g_start hap hE hy hlen (fun M C hn hr hlk hQ hargs hsz hA => body M C hn (fun pc lv x τ hd hx hτ => ?_))
  subst hx hτ
  intro H locs ls hP hS hl
  have h1 : ∀ t : State, t.heap = H → va_P D vwCl (wd ad NC cf τ) t.heap := fun t ht => by rw [ht, ← gd_D C]; exact hP
  have h2 : ∀ t : State, t.heap = H → va_F (gA ad NC sz) M.2.1.1 t := fun t ht => by rw [← hA]; exact hS.F ht
  have h3 : ∀ q ∈ locs, gA ad NC sz q.base := fun q hq => by rw [← hA]; exact hS.2.2 q hq
  rw [hQ, ← hargs]
  exact W.zret (gd_x C) (gd_b C) hr hty (fun t ht hW => ⟨⟨_, τ, rfl, ⟨rfl, rfl⟩, h1 t ht⟩, h2 t ht⟩) h3 hd hlk
theorem ctL_of (hap : Apart ad NC) (hE : gEok E) (hy : plainName y.cls = true) (hlen : Nat.ble (lg_sl As).length maxL = true) (body : ∀ M : GM, Good l K D ad NC E d bytes y.cls M → M.2.2.1.2.2 = maxL → (∀ (pc : Nat) (lv : List (Nat × Value)) (x : Int) (τ : Mem), decode bytes pc = .ok (.lreturn, 1) → x = r → τ = σ' → G M ad NC cf pc lv [.long (lI x)] τ) → G M ad NC cf 0 (lv_args 0 As) [] σ) : CtL l K D ad NC cf E y bytes maxL (some .long) d As σ r σ' := by
  intro sz
  refine g_start hap hE hy hlen (fun M C hn hr hlk hQ hargs hsz hA => body M C hn (fun pc lv x τ hd hx hτ => ?_))
  subst hx hτ
  intro H locs ls hP hS hl
  have h1 : ∀ t : State, t.heap = H → va_P D vwCl (wd ad NC cf τ) t.heap := fun t ht => by rw [ht, ← gd_D C]; exact hP
  have h2 : ∀ t : State, t.heap = H → va_F (gA ad NC sz) M.2.1.1 t := fun t ht => by rw [← hA]; exact hS.F ht
  have h3 : ∀ q ∈ locs, gA ad NC sz q.base := fun q hq => by rw [← hA]; exact hS.2.2 q hq
  rw [hQ, ← hargs]
  exact W.lret (gd_x C) (gd_b C) hr (fun t ht hW => ⟨⟨_, τ, rfl, ⟨rfl, rfl⟩, h1 t ht⟩, h2 t ht⟩) h3 hd hlk
theorem ctV_of (hap : Apart ad NC) (hE : gEok E) (hy : plainName y.cls = true) (hlen : Nat.ble (lg_sl As).length maxL = true) (body : ∀ M : GM, Good l K D ad NC E d bytes y.cls M → M.2.2.1.2.2 = maxL → (∀ (pc : Nat) (lv : List (Nat × Value)) (τ : Mem), decode bytes pc = .ok (.return_, 1) → τ = σ' → G M ad NC cf pc lv [] τ) → G M ad NC cf 0 (lv_args 0 As) [] σ) : CtV l K D ad NC cf E y bytes maxL none d As σ σ' := by
  intro sz
  refine g_start hap hE hy hlen (fun M C hn hr hlk hQ hargs hsz hA => body M C hn (fun pc lv τ hd hτ => ?_))
  subst hτ
  intro H locs ls hP hS hl
  have h1 : ∀ t : State, t.heap = H → va_P D vwCl (wd ad NC cf τ) t.heap := fun t ht => by rw [ht, ← gd_D C]; exact hP
  have h2 : ∀ t : State, t.heap = H → va_F (gA ad NC sz) M.2.1.1 t := fun t ht => by rw [← hA]; exact hS.F ht
  have h3 : ∀ q ∈ locs, gA ad NC sz q.base := fun q hq => by rw [← hA]; exact hS.2.2 q hq
  rw [hQ, ← hargs]
  exact W.vret (gd_x C) (gd_b C) hr (fun t ht hW => ⟨⟨τ, rfl, rfl, h1 t ht⟩, h2 t ht⟩) h3 hd hlk
theorem nar_i (r : Int) : narrow .int (.int (iI r)) = .int (iI r) := rfl
theorem nar_z {r : Int} (h : r = 0 ∨ r = 1) : narrow .boolean (.int (iI r)) = .int (iI r) := by rcases h with rfl | rfl <;> rfl
end GI

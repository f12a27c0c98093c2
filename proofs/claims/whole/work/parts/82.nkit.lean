/-! CONSTRUCTORS: a machine over a growing list of cells -/
def NW (U : State) : Prop := (va_Nw (.methodLinkNest RX8 15 yX5_init RX8) U ∧ va_Nw (.methodLinkNest RX8 22 yX7_init RX8) U ∧ va_Nw (.methodLinkNest RX8 25 yX4_init RX8) U ∧ va_Nw (.methodLinkNest RX8 32 yX0_init RX8) U ∧ va_Nw (.methodLinkNest RX8 39 yX6_init RX8) U) ∧ (va_Nw (.methodLinkNest RX8 46 yX3_init RX8) U ∧ va_Nw (.methodLinkNest RX8 53 yX2_init RX8) U ∧ va_Nw (.methodLinkNest RX8 60 yX1_init RX8) U ∧ va_Nw (.methodLinkNest RX2 19 yX6_init RX8) U ∧ va_Nw (.methodLinkNest RX2 26 yX3_init RX8) U) ∧ va_AO RX5 U ∧ va_AO RX7 U
theorem NW.warm {s U : State} (hW : s.WarmedH U.vm) (h : NW s) : NW U := ⟨⟨h.1.1.warmM hW, h.1.2.1.warmM hW, h.1.2.2.1.warmM hW, h.1.2.2.2.1.warmM hW, h.1.2.2.2.2.warmM hW⟩, ⟨h.2.1.1.warmM hW, h.2.1.2.1.warmM hW, h.2.1.2.2.1.warmM hW, h.2.1.2.2.2.1.warmM hW, h.2.1.2.2.2.2.warmM hW⟩, h.2.2.1.moved hW.alike, h.2.2.2.moved hW.alike⟩
theorem NW.same {s U : State} (hv : U.vm = s.vm) (h : NW s) : NW U := h.warm (by rw [hv]; exact State.WarmedH.refl s)
def NPic (K : Nat → ClassId) (D : va_G) (h0 ci : Nat) (fs : List Value) (sz : Nat) (U : State) : Prop := U.heap.size = sz ∧ va_P D vwCl [(h0, .inr (ci, fs))] U.heap ∧ va_K D vwCl (gtys K) U ∧ NW U
def CtN (l : Launch) (K : Nat → ClassId) (D : va_G) (y : MethodName) (bytes : ByteArray) (maxL : Nat) (R : Room) (ci : Nat) (fs : List Value) (S : Type) (B : Nat → (Nat → Prop) → S → State → Prop) : Prop := ∀ h0 sz : Nat, Met l y (gw y bytes maxL none) R (va_Pc [.ref h0] (NPic K D h0 ci fs sz)) (va_Qv (fun _ : S => True) (fun u t => B h0 (va_A [(h0, .inr (ci, fs))] sz) u t) (va_A [(h0, .inr (ci, fs))] sz)) R.cells R.slots (va_A [(h0, .inr (ci, fs))] sz)
theorem NPic_blind {K : Nat → ClassId} {D : va_G} {h0 ci : Nat} {fs : List Value} {sz : Nat} {As : List Value} : FrameBlind (va_Pc As (NPic K D h0 ci fs sz)) := by
  intro a U g mk q
  obtain ⟨q0, q1, qP, qK, qE⟩ := q
  exact ⟨q0, q1, qP, va_K.moved (u := U) (U := U.calling g mk a) (Vm.Alike.refl U.vm) qK, NW.same (s := U) (U := U.calling g mk a) rfl qE⟩
def NGood (l : Launch) (K : Nat → ClassId) (D : va_G) (cc : ByteArray) (own : String) (R : Room) (M : GM) : Prop :=
  M.1.1.tables.exec = Jvm.exec ∧ M.2.2.1.2.1.code = cc ∧ M.2.2.1.2.1.maxLocals = M.2.2.1.2.2 ∧ M.2.1.1.vm.findClass own = some M.2.1.2.1.cls ∧ (∀ w ∈ gWs, w.before M.2.1.2.2.1 M.2.1.1 = true) ∧ va_K D vwCl (gtys K) M.2.1.1 ∧ (∀ q, M.2.1.1.heap.size ≤ q → M.2.2.2.2.2 q) ∧ NW M.2.1.1 ∧ M.1.2.2.2 = R ∧ M.1.2.1 = l ∧ M.2.2.2.2.1 = D
def N (M : GM) (ws : va_W) (kc ks : Nat) (pc : Nat) (lv : List (Nat × Value)) (st : List Value) : Prop :=
  ∀ (H : Heap) (locs : List Loc) (ls : Array Slot), va_P M.2.2.2.2.1 vwCl ws H → va_D M.2.2.2.2.2 ws → va_S M.2.2.2.2.2 M.2.1.1.heap H locs → lv_has ls M.2.2.1.2.2 lv → W M.1.1 M.1.2.1 M.1.2.2.1 M.1.2.2.2 M.2.1.1 M.2.1.2.1 M.2.1.2.2.1 M.2.1.2.2.2 M.2.2.1.1 M.2.2.1.2.1 H locs kc ks M.2.2.2.1 (F0 M.2.1.2.1 pc ls st)
theorem wo_i : Cond.instanceMethod objectInit ∈ gWs := gWs_i 85 (by decide +kernel) (by decide +kernel)
theorem wo_c : Cond.code objectInit ⟨#[0xb1]⟩ 1 none ∈ gWs := gWs_i 86 (by decide +kernel) (by decide +kernel)
theorem wa_I : Cond.arrayClass .int ∈ gWs := gWs_i 111 (by decide +kernel) (by decide +kernel)
theorem wa_Z : Cond.arrayClass .boolean ∈ gWs := gWs_i 905 (by decide +kernel) (by decide +kernel)
theorem wa_R : Cond.arrayOver (.object RX5) ∈ lw_tbl := List.mem_of_getElem? (i := 88) (by decide +kernel)
theorem wa_T : Cond.arrayOver (.object RX7) ∈ lw_tbl := List.mem_of_getElem? (i := 113) (by decide +kernel)
def MWi (y : MethodName) (bytes : ByteArray) (maxL : Nat) : Prop := (y.cls ≠ "java/lang/invoke/MethodHandle" ∧ y.cls ≠ "java/lang/invoke/VarHandle" ∧ (parseMethodDescriptor y.desc).map (fun d => d.parameters.length) = some 0) ∧ y.name = "<init>" ∧ Cond.instanceMethod y ∈ gWs ∧ Cond.initialized y.cls ∈ gWs ∧ Cond.code y bytes maxL none ∈ gWs
theorem mi_X0 : MWi yX0_init cX0_init 1 := ⟨by decide +kernel, rfl, gWs_i 203 (by decide +kernel) (by decide +kernel), gWs_i 67 (by decide +kernel) (by decide +kernel), gWs_i 204 (by decide +kernel) (by decide +kernel)⟩
theorem mi_X1 : MWi yX1_init cX1_init 1 := ⟨by decide +kernel, rfl, gWs_i 293 (by decide +kernel) (by decide +kernel), gWs_i 71 (by decide +kernel) (by decide +kernel), gWs_i 294 (by decide +kernel) (by decide +kernel)⟩
theorem mi_X2 : MWi yX2_init cX2_init 1 := ⟨by decide +kernel, rfl, gWs_i 268 (by decide +kernel) (by decide +kernel), gWs_i 70 (by decide +kernel) (by decide +kernel), gWs_i 269 (by decide +kernel) (by decide +kernel)⟩
theorem mi_X3 : MWi yX3_init cX3_init 1 := ⟨by decide +kernel, rfl, gWs_i 245 (by decide +kernel) (by decide +kernel), gWs_i 69 (by decide +kernel) (by decide +kernel), gWs_i 246 (by decide +kernel) (by decide +kernel)⟩
theorem mi_X4 : MWi yX4_init cX4_init 1 := ⟨by decide +kernel, rfl, gWs_i 172 (by decide +kernel) (by decide +kernel), gWs_i 66 (by decide +kernel) (by decide +kernel), gWs_i 173 (by decide +kernel) (by decide +kernel)⟩
theorem mi_X5 : MWi yX5_init cX5_init 1 := ⟨by decide +kernel, rfl, gWs_i 91 (by decide +kernel) (by decide +kernel), gWs_i 64 (by decide +kernel) (by decide +kernel), gWs_i 92 (by decide +kernel) (by decide +kernel)⟩
theorem mi_X6 : MWi yX6_init cX6_init 1 := ⟨by decide +kernel, rfl, gWs_i 229 (by decide +kernel) (by decide +kernel), gWs_i 68 (by decide +kernel) (by decide +kernel), gWs_i 230 (by decide +kernel) (by decide +kernel)⟩
theorem mi_X7 : MWi yX7_init cX7_init 1 := ⟨by decide +kernel, rfl, gWs_i 116 (by decide +kernel) (by decide +kernel), gWs_i 65 (by decide +kernel) (by decide +kernel), gWs_i 117 (by decide +kernel) (by decide +kernel)⟩
theorem mi_X8 : MWi yX8_init cX8_init 2 := ⟨by decide +kernel, rfl, gWs_i 82 (by decide +kernel) (by decide +kernel), gWs_i 63 (by decide +kernel) (by decide +kernel), gWs_i 83 (by decide +kernel) (by decide +kernel)⟩
theorem mi_X9 : MWi yX9_init cX9_init 1 := ⟨by decide +kernel, rfl, gWs_i 829 (by decide +kernel) (by decide +kernel), gWs_i 72 (by decide +kernel) (by decide +kernel), gWs_i 830 (by decide +kernel) (by decide +kernel)⟩
theorem gw_I {y : MethodName} {bytes : ByteArray} {maxL : Nat} (hm : MWi y bytes maxL) : GoodIn gWs (gw y bytes maxL none) := by
  intro w hw
  have h : w ∈ gWs := by
    rcases List.mem_cons.mp hw with rfl | h
    · exact hm.2.2.2.2
    · exact h
  exact ⟨h, good_of_word (gWs_good w h)⟩
theorem nd_of : ∀ l : List Nat, l.Nodup → va_nd l = true
  | [], _ => rfl
  | a :: l, h => by
    simp only [va_nd, Bool.and_eq_true, decide_eq_true_eq]
    exact ⟨(List.nodup_cons.mp h).1, nd_of l (List.nodup_cons.mp h).2⟩
theorem join_last {A0 : Nat → Prop} {D : va_G} {cl : List vw_C} {ws w1 : va_W} {x : Nat × va_E} {H H1 : Heap} (hP : va_P D cl (ws ++ [x]) H) (hD : va_D A0 (ws ++ [x])) (hk : ∀ q : Nat, q < H.size → ¬ va_A [x] H.size q → H1[q]? = H[q]?) (hF : ∀ q, va_A [x] H.size q → A0 q) (hP1 : va_P D cl w1 H1) (hD1 : va_D (va_A [x] H.size) w1) : va_P D cl (ws ++ w1) H1 ∧ va_D A0 (ws ++ w1) := by
  have e1 : (List.range ws.length).map (fun i => (ws ++ [x])[i]?) = ws.map some := by
    apply List.ext_getElem?
    intro i
    by_cases h : i < ws.length
    · rw [List.getElem?_map, List.getElem?_range h, List.getElem?_map, Option.map_some, List.getElem?_append_left h, List.getElem?_eq_getElem h]; rfl
    · rw [List.getElem?_eq_none (by simp; omega), List.getElem?_eq_none (by simp; omega)]
  exact va_join (wc := [x]) (wr := ws) hP hD [ws.length] (List.range ws.length) (by simp) e1 (nd_of _ List.nodup_range) (fun i hi h => by have := List.mem_range.mp hi; simp at h; omega) hk hF hP1 hD1
section NM
variable {l : Launch} {K : Nat → ClassId} {D : va_G} {cc : ByteArray} {own : String} {R : Room} {M : GM} {ws ws' : va_W} {kc ks pc : Nat} {lv : List (Nat × Value)} {st : List Value}
theorem nd_x (C : NGood l K D cc own R M) : M.1.1.tables.exec = Jvm.exec := C.1
theorem nd_b (C : NGood l K D cc own R M) : M.2.2.1.2.1.code = cc := C.2.1
theorem nd_ml (C : NGood l K D cc own R M) : M.2.2.1.2.1.maxLocals = M.2.2.1.2.2 := C.2.2.1
theorem nd_own (C : NGood l K D cc own R M) : M.2.1.1.vm.findClass own = some M.2.1.2.1.cls := C.2.2.2.1
theorem nd_ts (C : NGood l K D cc own R M) : ∀ w ∈ gWs, w.before M.2.1.2.2.1 M.2.1.1 = true := C.2.2.2.2.1
theorem nd_K (C : NGood l K D cc own R M) : va_K D vwCl (gtys K) M.2.1.1 := C.2.2.2.2.2.1
theorem nd_A (C : NGood l K D cc own R M) : ∀ q, M.2.1.1.heap.size ≤ q → M.2.2.2.2.2 q := C.2.2.2.2.2.2.1
theorem nd_W (C : NGood l K D cc own R M) : NW M.2.1.1 := C.2.2.2.2.2.2.2.1
theorem nd_R (C : NGood l K D cc own R M) : M.1.2.2.2 = R := C.2.2.2.2.2.2.2.2.1
theorem nd_l (C : NGood l K D cc own R M) : M.1.2.1 = l := C.2.2.2.2.2.2.2.2.2.1
theorem nd_D (C : NGood l K D cc own R M) : M.2.2.2.2.1 = D := C.2.2.2.2.2.2.2.2.2.2
theorem nd_KD (C : NGood l K D cc own R M) : va_K M.2.2.2.2.1 vwCl (gtys K) M.2.1.1 := by rw [nd_D C]; exact nd_K C
theorem n_aload_n (C : NGood l K D cc own R M) {k : Fin 4} {i p x : Nat} (hd : decode cc pc = .ok (.aload_n k, 1)) (hi : k.val = i) (hv : lv[p]? = some (i, .ref x)) (k : N M ws kc ks (pc + 1) lv (.ref x :: st)) : N M ws kc ks pc lv st := fun H locs ls hP hD hS hl => lv_aload_n (nd_x C) (nd_b C) hd hi (lv_at hl p hv) (k H locs ls hP hD hS hl)
theorem n_iload_n (C : NGood l K D cc own R M) {k : Fin 4} {i p : Nat} {x : Int32} (hd : decode cc pc = .ok (.iload_n k, 1)) (hi : k.val = i) (hv : lv[p]? = some (i, .int x)) (k : N M ws kc ks (pc + 1) lv (.int x :: st)) : N M ws kc ks pc lv st := fun H locs ls hP hD hS hl => lv_iload_n (nd_x C) (nd_b C) hd hi (lv_at hl p hv) (k H locs ls hP hD hS hl)
theorem n_dup (C : NGood l K D cc own R M) {va : Value} (hd : decode cc pc = .ok (.dup, 1)) (hc : va.category = 1) (k : N M ws kc ks (pc + 1) lv (va :: va :: st)) : N M ws kc ks pc lv (va :: st) := fun H locs ls hP hD hS hl => lv_dup (nd_x C) (nd_b C) hd hc (k H locs ls hP hD hS hl)
theorem n_iconst (C : NGood l K D cc own R M) {n : Int} {v : Int32} (hd : decode cc pc = .ok (.iconst n, 1)) (hv : Int32.ofInt n = v) (k : N M ws kc ks (pc + 1) lv (.int v :: st)) : N M ws kc ks pc lv st := fun H locs ls hP hD hS hl => lv_iconst (nd_x C) (nd_b C) hd hv (k H locs ls hP hD hS hl)
theorem n_bipush (C : NGood l K D cc own R M) {n : Int} {v : Int32} (hd : decode cc pc = .ok (.bipush n, 2)) (hv : (Int8.ofInt n).toInt32 = v) (k : N M ws kc ks (pc + 2) lv (.int v :: st)) : N M ws kc ks pc lv st := fun H locs ls hP hD hS hl => lv_bipush (nd_x C) (nd_b C) hd hv (k H locs ls hP hD hS hl)
theorem n_sipush (C : NGood l K D cc own R M) {n : Int} {v : Int32} (hd : decode cc pc = .ok (.sipush n, 3)) (hv : (Int16.ofInt n).toInt32 = v) (k : N M ws kc ks (pc + 3) lv (.int v :: st)) : N M ws kc ks pc lv st := fun H locs ls hP hD hS hl => lv_sipush (nd_x C) (nd_b C) hd hv (k H locs ls hP hD hS hl)
theorem n_istore_n (C : NGood l K D cc own R M) {k : Fin 4} {i : Nat} {x : Int32} {lv' : List (Nat × Value)} (hd : decode cc pc = .ok (.istore_n k, 1)) (hi : k.val = i) (hn : i < M.2.2.1.2.2) (he : (i, Value.int x) :: List.filter (fun q => !q.fst == i && !(q.fst + 1 == i && q.snd.category == 2)) lv = lv') (k : N M ws kc ks (pc + 1) lv' st) : N M ws kc ks pc lv (.int x :: st) := fun H locs ls hP hD hS hl => lv_istore_n (nd_x C) (nd_b C) hd hi hl hn he (fun ls' hl' => k H locs ls' hP hD hS hl')
theorem n_goto (C : NGood l K D cc own R M) {off : Int} {tgt : Nat} (hd : decode cc pc = .ok (.goto off, 3)) (ht : (pc : Int) + off = (tgt : Int)) (k : N M ws kc ks tgt lv st) : N M ws kc ks pc lv st := fun H locs ls hP hD hS hl => lv_goto (nd_x C) (nd_b C) hd ht (k H locs ls hP hD hS hl)
theorem n_objinit (C : NGood l K D cc own R M) {index a : Nat} (hl : Cond.methodLink own index objectInit ∈ gWs) (hR : 1 ≤ R.frames ∧ 8 + 12 ≤ R.locals) (hc : (st.map fun v => v.category).sum ≤ 8) (hd : decode cc pc = .ok (.invokespecial index, 3)) (k : N M ws kc ks (pc + 3) lv st) : N M ws kc ks pc lv (.ref a :: st) := by
  intro H locs ls hP hD hS hlv
  refine W.objInit (nd_x C) (nd_b C) (nd_own C) (nd_ts C _ hl) (nd_ts C _ wo_i) (nd_ts C _ wo_c) rfl (by rw [nd_ml C]; exact hlv.1) rfl hd (by rw [nd_R C]; exact hR.1) (by rw [nd_R C]; show 2 * 0 + _ + 12 ≤ _; omega) ?_
  exact W.eq (g2 := F0 M.2.1.2.1 (pc + 3) ls st) rfl (k H locs ls hP hD hS hlv)
theorem n_newa (C : NGood l K D cc own R M) {atype : ArrayType} {ty : FieldType} {t N' : Nat} {n : Int32} (hw : Cond.arrayClass ty ∈ gWs) (hty : newarray.typeOf atype = ty) (ht : (gtys K)[t]? = some (K t, ty)) (hpr : ∀ (U : State) (c : ClassId), va_RA U c ty → U.vm.findClass ("[" ++ ty.toString) = some c) (hz : ∀ cA : ClassId, vp_cell cA (N', .inl (fun _ => 0)) = arrV cA N' (fun _ => defaultValue ty)) (hn : ¬ n < 0) (hN : n.toNatClampNeg = N') (hb : N' * componentBytes ty ≤ 536870912) (hR : kc + 1 ≤ R.cells ∧ ks + N' ≤ R.slots) (hd : decode cc pc = .ok (.newarray atype, 2)) (k : ∀ q : Nat, N M (ws ++ [(q, .inl (K t, N', .inl (fun _ => 0)))]) (kc + 1) (ks + N') (pc + 2) lv (.ref q :: st)) : N M ws kc ks pc lv (.int n :: st) := by
  intro H locs ls hP hD hS hlv
  refine va_newa (a0 := (N', .inl (fun _ => 0))) (nd_x C) (nd_b C) (by rw [hty]; exact nd_ts C _ hw) hty (nd_KD C) hP hD hS (nd_A C) hz hn hN hb (by rw [nd_R C]; exact hR.1) (by rw [nd_R C]; exact hR.2) hd (fun q cA H1 hK1 hP1 hD1 hS1 => ?_)
  have h1 := hpr _ _ (hK1.2 4 (cA, ty) rfl).2
  have h2 := hpr _ _ ((nd_K C).2 t _ ht).2
  have e : cA = K t := Option.some.inj (h1.symm.trans h2)
  subst e
  exact k q H1 locs ls hP1 hD1 hS1 hlv
theorem n_newq (C : NGood l K D cc own R M) {Cn : String} {index t N' : Nat} {n : Int32} (hcl : Cond.classLink own index Cn ∈ gWs) (hov : va_AO Cn M.2.1.1) (ht : (gtys K)[t]? = some (K t, .object Cn)) (hn : ¬ n < 0) (hN : n.toNatClampNeg = N') (hb : N' * 4 ≤ 536870912) (hR : kc + 1 ≤ R.cells ∧ ks + N' ≤ R.slots) (hd : decode cc pc = .ok (.anewarray index, 3)) (k : ∀ q : Nat, N M (ws ++ [(q, .inl (K t, N', .inr (.inr (.inr (.inr (fun _ => none))))))]) (kc + 1) (ks + N') (pc + 3) lv (.ref q :: st)) : N M ws kc ks pc lv (.int n :: st) := by
  intro H locs ls hP hD hS hlv
  refine va_newq (C := Cn) (nd_x C) (nd_b C) (nd_own C) (nd_ts C _ hcl) hov (nd_KD C) hP hD hS (nd_A C) hn hN hb (by rw [nd_R C]; exact hR.1) (by rw [nd_R C]; exact hR.2) hd (fun q cA H1 hK1 hP1 hD1 hS1 => ?_)
  obtain ⟨-, -, -, -, -, h1⟩ := (hK1.2 4 (cA, .object Cn) rfl).2
  obtain ⟨-, -, -, -, -, h2⟩ := ((nd_K C).2 t _ ht).2
  have e : cA = K t := Option.some.inj (h1.symm.trans h2)
  subst e
  exact k q H1 locs ls hP1 hD1 hS1 hlv
theorem n_swap {a b c : va_W} (k : N M ((a ++ c) ++ b) kc ks pc lv st) : N M ((a ++ b) ++ c) kc ks pc lv st := fun H locs ls hP hD hS hlv => k H locs ls hP.swap hD.swap hS hlv
theorem n_eq (e : ws = ws') (k : N M ws' kc ks pc lv st) : N M ws kc ks pc lv st := by rw [e]; exact k
theorem n_putF (C : NGood l K D cc own R M) {q0 a ci index j NF : Nat} {T : u_T} {Cn : String} {fs : List Value} {v : Value} {ty : FieldType} {ty0 : Nat → FieldType} (hd : decode cc pc = .ok (.putfield index, 3)) (hini : M.2.2.1.1.name = "<init>") (hq : ws[q0]? = some (a, .inr (ci, fs))) (hc : vwCl[ci]? = some (Cn, T, NF)) (hin : ∀ w ∈ u_ws Cn T NF, w ∈ gWs) (hty : ∀ k, k < NF → parseFieldDescriptor (T k).2.2.1 = some (ty0 k)) (hnm : ∀ a, a < NF → ∀ b, b < NF → a ≠ b → (T a).2.1 ≠ (T b).2.1) (hj : j < NF) (hw : Cond.fieldLink own index Cn (T j).2.1 (T j).2.2.1 ∈ gWs) (hsame : (T j).1 = Cn) (hfin : (T j).2.2.2 = true) (hdecl : (T j).1 = own) (hp : parseFieldDescriptor (T j).2.2.1 = some ty) (hn : narrow ty v = v) (hfit : fits ty v = true) (hl : j < fs.length) (k : N M (ws.set q0 (a, .inr (ci, fs.set j v))) kc ks (pc + 3) lv st) : N M ws kc ks pc lv (v :: .ref a :: st) := fun H locs ls hP hD hS hlv => va_putF (nd_x C) (nd_b C) (nd_ts C) hin ty0 hty hnm (nd_own C) (nd_KD C) hP hD hS q0 hq hc j hj (nd_ts C _ hw) (fun x h => by rw [hsame] at h; exact h) hfin hini hdecl hp hn hfit hl hd (fun H1 locs1 hP1 hD1 hS1 => k H1 locs1 ls hP1 hD1 hS1 hlv)
theorem n_put (C : NGood l K D cc own R M) {q0 a ci index j NF : Nat} {T : u_T} {Cn : String} {fs : List Value} {v : Value} {ty : FieldType} {ty0 : Nat → FieldType} (hd : decode cc pc = .ok (.putfield index, 3)) (hq : ws[q0]? = some (a, .inr (ci, fs))) (hc : vwCl[ci]? = some (Cn, T, NF)) (hin : ∀ w ∈ u_ws Cn T NF, w ∈ gWs) (hty : ∀ k, k < NF → parseFieldDescriptor (T k).2.2.1 = some (ty0 k)) (hnm : ∀ a, a < NF → ∀ b, b < NF → a ≠ b → (T a).2.1 ≠ (T b).2.1) (hj : j < NF) (hw : Cond.fieldLink own index Cn (T j).2.1 (T j).2.2.1 ∈ gWs) (hsame : (T j).1 = Cn) (hfin : (T j).2.2.2 = false) (hp : parseFieldDescriptor (T j).2.2.1 = some ty) (hn : narrow ty v = v) (hfit : fits ty v = true) (hl : j < fs.length) (k : N M (ws.set q0 (a, .inr (ci, fs.set j v))) kc ks (pc + 3) lv st) : N M ws kc ks pc lv (v :: .ref a :: st) := fun H locs ls hP hD hS hlv => va_put (nd_x C) (nd_b C) (nd_ts C) hin ty0 hty hnm (nd_own C) (nd_KD C) hP hD hS q0 hq hc j hj (nd_ts C _ hw) (fun x h => by rw [hsame] at h; exact h) hfin hp hn hfit hl hd (fun H1 locs1 hP1 hD1 hS1 => k H1 locs1 ls hP1 hD1 hS1 hlv)
theorem n_get (C : NGood l K D cc own R M) {q0 a ci index j NF : Nat} {T : u_T} {Cn : String} {fs : List Value} {v : Value} (hd : decode cc pc = .ok (.getfield index, 3)) (hq : ws[q0]? = some (a, .inr (ci, fs))) (hc : vwCl[ci]? = some (Cn, T, NF)) (hin : ∀ w ∈ u_ws Cn T NF, w ∈ gWs) (hj : j < NF) (hw : Cond.fieldLink own index Cn (T j).2.1 (T j).2.2.1 ∈ gWs) (hsame : (T j).1 = Cn) (hv : fs[j]? = some v) (k : N M ws kc ks (pc + 3) lv (v :: st)) : N M ws kc ks pc lv (.ref a :: st) := fun H locs ls hP hD hS hlv => va_get (nd_x C) (nd_b C) (nd_ts C) hin (nd_own C) (nd_KD C) hP q0 hq hc j hj (nd_ts C _ hw) (fun x h => by rw [hsame] at h; exact h) hv hd (k H locs ls hP hD hS hlv)
theorem n_iast (C : NGood l K D cc own R M) {q0 a n : Nat} {f : Nat → Int32} {i x : Int32} (hd : decode cc pc = .ok (.iastore, 1)) (hq : ws[q0]? = some (a, .inl (K 0, n, .inl f))) (hi : vp_in i n) (k : N M (ws.set q0 (a, .inl (K 0, n, .inl (upd f i.toNatClampNeg x)))) kc ks (pc + 1) lv st) : N M ws kc ks pc lv (.int x :: .int i :: .ref a :: st) := fun H locs ls hP hD hS hlv => va_iast (nd_x C) (nd_b C) (nd_KD C) hP hD hS q0 0 hq rfl hi hd (fun H1 locs1 hP1 hD1 hS1 => k H1 locs1 ls hP1 hD1 hS1 hlv)
theorem n_aast (C : NGood l K D cc own R M) {q0 t qk a v n ci : Nat} {r : vw_C} {vs : List Value} {f : Nat → Option Nat} {i : Int32} (hd : decode cc pc = .ok (.aastore, 1)) (hq : ws[q0]? = some (a, .inl (K t, n, .inr (.inr (.inr (.inr f)))))) (ht : (gtys K)[t]? = some (K t, .object r.1)) (hv : ws[qk]? = some (v, .inr (ci, vs))) (hc : vwCl[ci]? = some r) (hi : vp_in i n) (k : N M (ws.set q0 (a, .inl (K t, n, .inr (.inr (.inr (.inr (va_up f i.toNatClampNeg (some v)))))))) kc ks (pc + 1) lv st) : N M ws kc ks pc lv (.ref v :: .int i :: .ref a :: st) := fun H locs ls hP hD hS hlv => va_astq (nd_x C) (nd_b C) (nd_KD C) hP hD hS q0 t qk ci hq ht hv hc hi hd (fun H1 locs1 hP1 hD1 hS1 => k H1 locs1 ls hP1 hD1 hS1 hlv)
/-- a new object, made by its constructor (of a nest mate) -/
theorem n_make (C : NGood l K D cc own R M) {y : MethodName} {bytes : ByteArray} {maxL ci NF iN iI_ : Nat} {Cn : String} {T : u_T} {ty0 : Nat → FieldType} {fs : List Value} {Rc : Room} {S : Type} {B : Nat → (Nat → Prop) → S → State → Prop} {out : Nat → S → va_W}
    (hct : CtN l K D y bytes maxL Rc ci fs S B) (hB : ∀ h0 A u t, B h0 A u t → va_P D vwCl (out h0 u) t.heap ∧ va_D A (out h0 u)) (hm : MWi y bytes maxL) (hd : decode cc pc = .ok (.new iN, 3)) (hd2 : decode cc (pc + 3) = .ok (.dup, 1)) (hd3 : decode cc (pc + 4) = .ok (.invokespecial iI_, 3))
    (hc : vwCl[ci]? = some (Cn, T, NF)) (hin : ∀ w ∈ u_ws Cn T NF, w ∈ gWs) (hty : ∀ k, k < NF → parseFieldDescriptor (T k).2.2.1 = some (ty0 k)) (hcl : Cond.classLink own iN Cn ∈ gWs) (hinst : Cond.instantiable Cn NF ∈ gWs) (hini : Cond.initialized Cn ∈ gWs) (hfs : ∀ j, j < NF → defaultValue (ty0 j) = vp_V fs j) (host : String) (hl : va_Nw (.methodLinkNest own iI_ y host) M.2.1.1)
    (hR : kc + 1 + Rc.cells ≤ R.cells ∧ ks + NF + Rc.slots ≤ R.slots) (hR2 : Rc.frames + 1 ≤ R.frames ∧ 8 + (maxL + 11) + Rc.locals ≤ R.locals) (hcat : (st.map fun v => v.category).sum + 1 ≤ 8)
    (k : ∀ (q : Nat) (u : S), N M (ws ++ out q u) (kc + 1 + Rc.cells) (ks + NF + Rc.slots) (pc + 7) lv (.ref q :: st)) : N M ws kc ks pc lv st := by
  intro H locs ls hP hD hS hlv
  refine va_new (ci := ci) (fs := fs) (C := Cn) (T := T) (N := NF) (nd_x C) (nd_b C) (nd_ts C) hin ty0 hty (nd_own C) (nd_ts C _ hcl) (nd_ts C _ hinst) (nd_ts C _ hini) (nd_KD C) hP hD hS (nd_A C) hc hfs (by rw [nd_R C]; omega) (by rw [nd_R C]; omega) hd (fun q H1 hP1 hD1 hS1 => ?_)
  refine lv_dup (nd_x C) (nd_b C) hd2 rfl ?_
  have hF : ∀ z, va_A [(q, Sum.inr (ci, fs))] H1.size z → M.2.2.2.2.2 z := by
    refine va_free hD1 hS1 (nd_A C) [ws.length] ?_
    simp
  have hP0 : va_P D vwCl [(q, Sum.inr (ci, fs))] H1 := by
    intro j x hj
    rw [← nd_D C]
    refine hP1 (ws.length + j) x ?_
    rw [List.getElem?_append_right (by omega), Nat.add_sub_cancel_left]
    exact hj
  have hrun : va_Run M.1.1 M.1.2.1 M.1.2.2.1 M.1.2.2.2 M.2.1.1 M.2.1.2.1 M.2.1.2.2.1 M.2.1.2.2.2 M.2.2.1.1 M.2.2.1.2.1 H1 locs (kc + 1) (ks + NF) Rc.cells Rc.slots (F0 M.2.1.2.1 (pc + 4) ls (.ref q :: .ref q :: st)) (.ref q :: st) (va_Qv (fun _ : S => True) (fun u t => B q (va_A [(q, .inr (ci, fs))] H1.size) u t) (va_A [(q, .inr (ci, fs))] H1.size) (Value.ref q :: []).toArray) (va_A [(q, .inr (ci, fs))] H1.size) := by
    rw [nd_l C]
    refine va_runIN (As := []) (rest := .ref q :: st) (host := host) ⟨nd_x C, nd_b C, nd_ml C, nd_own C, nd_ts C⟩ (hct q H1.size) ⟨va_cnB 0 (nd_ts C) (gw_I hm) rfl rfl rfl hl (nd_ts C _ hm.2.2.2.1) hm.1 (by rw [nd_R C]; exact hR2), hm.2.1, nd_ts C _ hm.2.2.1⟩ ⟨NPic_blind, fun U hU hW => ⟨rfl, by rw [hU], by rw [hU]; exact hP0, va_K.moved hW.alike (nd_K C), (nd_W C).warm hW⟩⟩ rfl rfl hlv.1 rfl ?_ hd3 ⟨by rw [nd_R C]; omega, by rw [nd_R C]; omega⟩
    have h1 : (List.map (fun v : Value => v.category) (Value.ref q :: st)).sum = 1 + (st.map fun v => v.category).sum := by simp [Value.category]
    show 2 * 0 + (List.map (fun v : Value => v.category) (Value.ref q :: st)).sum ≤ 8
    rw [h1]; omega
  refine va_callv hrun hS1 (fun z _ h => hF z h) hF (fun u t H2 locs2 ht _ _ hb _ hk2 hS2 => ?_)
  obtain ⟨hP3, hD3⟩ := hB _ _ _ _ hb
  rw [ht, ← nd_D C] at hP3
  obtain ⟨hP4, hD4⟩ := join_last hP1 hD1 hk2 hF hP3 hD3
  exact k q u H2 locs2 ls hP4 hD4 hS2 hlv
end NM
theorem n_start {l : Launch} {K : Nat → ClassId} {D : va_G} {y : MethodName} {bytes : ByteArray} {maxL : Nat} {R : Room} {ci : Nat} {fs : List Value} {S : Type} {B : Nat → (Nat → Prop) → S → State → Prop} (hy : plainName y.cls = true) (hnm : y.name = "<init>") (hlen : 1 ≤ maxL) (body : ∀ (h0 : Nat) (M : GM), NGood l K D bytes y.cls R M → M.2.2.1.2.2 = maxL → M.2.2.1.1.name = "<init>" → (∀ (ws : va_W) (pc : Nat) (lv : List (Nat × Value)) (u : S), decode bytes pc = .ok (.return_, 1) → (∀ t : State, va_P D vwCl ws t.heap → va_D M.2.2.2.2.2 ws → B h0 M.2.2.2.2.2 u t) → N M ws R.cells R.slots pc lv []) → N M [(h0, .inr (ci, fs))] 0 0 0 [(0, .ref h0)] []) : CtN l K D y bytes maxL R ci fs S B := by
  intro h0 sz
  refine Met.ofW (cc := bytes) (maxL := maxL) (ret := none) hy rfl ?_
  intro p e s m args below meth c s₁ Bd hml hv
  obtain ⟨rfl, hsz, hP, hK, hN⟩ := hv
  have hts : ∀ w ∈ gWs, w.before [Value.ref h0].toArray s = true := fun w h => atoms_spec (ws := gw y bytes maxL none) Bd.pre w (List.mem_cons_of_mem _ h)
  have hown : s.vm.findClass y.cls = some m.cls := findClass_of_methodNamed Bd.named
  have hin : meth.name = "<init>" := (name_of_methodNamed Bd.named Bd.method).1.trans hnm
  subst hsz
  have C : NGood l K D bytes y.cls R (gM p l e (headSpec (gw y bytes maxL none) R).room s m [Value.ref h0].toArray below meth c maxL (MQ below (va_Qv (fun _ : S => True) (fun u t => B h0 (va_A [(h0, .inr (ci, fs))] s.heap.size) u t) (va_A [(h0, .inr (ci, fs))] s.heap.size)) [Value.ref h0].toArray s R.cells R.slots (va_A [(h0, .inr (ci, fs))] s.heap.size)) D (va_A [(h0, .inr (ci, fs))] s.heap.size)) := by
    unfold NGood gM
    exact ⟨Bd.exec, Bd.bytes, hml, hown, hts, hK, fun q h => Or.inr h, hN, rfl, rfl, rfl⟩
  have hD : va_D (va_A [(h0, .inr (ci, fs))] s.heap.size) [(h0, Sum.inr (ci, fs))] := by
    refine ⟨fun i j p q hi hj _ => ?_, fun k q hk => va_A.in hk⟩
    have h1 := (List.getElem?_eq_some_iff.mp hi).1
    have h2 := (List.getElem?_eq_some_iff.mp hj).1
    simp at h1 h2
    omega
  have hl := lv_entry [Value.ref h0] (n := maxL) hlen
  rw [lg_entry_eq]
  refine body h0 _ C rfl hin (fun ws pc lv u hd hb => ?_) s.heap [] _ hP hD va_S.rf hl
  intro H locs ls hP1 hD1 hS1 hl1
  exact W.vret Bd.exec Bd.bytes Bd.returns (fun t ht hW => ⟨⟨u, rfl, trivial, hb t (by rw [ht]; exact hP1) hD1⟩, hS1.F ht⟩) hS1.2.2 hd Bd.notSynchronized

/-! the law: both made, then the script's calls -/
section LN
variable {l : Launch} {K : Nat → ClassId} {D : va_G} {cc : ByteArray} {own : String} {R : Room} {M : GM} {ws ws' : va_W} {kc ks pc : Nat} {lv : List (Nat × Value)} {st : List Value}
theorem n_astore_n (C : NGood l K D cc own R M) {k : Fin 4} {i x : Nat} {lv' : List (Nat × Value)} (hd : decode cc pc = .ok (.astore_n k, 1)) (hi : k.val = i) (hn : i < M.2.2.1.2.2) (he : (i, Value.ref x) :: List.filter (fun q => !q.fst == i && !(q.fst + 1 == i && q.snd.category == 2)) lv = lv') (k : N M ws kc ks (pc + 1) lv' st) : N M ws kc ks pc lv (.ref x :: st) := fun H locs ls hP hD hS hl => lv_astore_n (nd_x C) (nd_b C) hd hi hl hn he (fun ls' hl' => k H locs ls' hP hD hS hl')
theorem n_makeL (C : NGood l K D cc own R M) {y : MethodName} {bytes : ByteArray} {maxL ci NF iN iI_ : Nat} {Cn : String} {T : u_T} {ty0 : Nat → FieldType} {fs : List Value} {Rc : Room} {S : Type} {B : Nat → (Nat → Prop) → S → State → Prop} {out : Nat → S → va_W} {X : Nat → S → Prop}
    (hct : CtN l K D y bytes maxL Rc ci fs S B) (hB : ∀ h0 A u t, B h0 A u t → va_P D vwCl (out h0 u) t.heap ∧ va_D A (out h0 u) ∧ X h0 u) (hm : MWi y bytes maxL) (hd : decode cc pc = .ok (.new iN, 3)) (hd2 : decode cc (pc + 3) = .ok (.dup, 1)) (hd3 : decode cc (pc + 4) = .ok (.invokespecial iI_, 3))
    (hc : vwCl[ci]? = some (Cn, T, NF)) (hin : ∀ w ∈ u_ws Cn T NF, w ∈ gWs) (hty : ∀ k, k < NF → parseFieldDescriptor (T k).2.2.1 = some (ty0 k)) (hcl : Cond.classLink own iN Cn ∈ gWs) (hinst : Cond.instantiable Cn NF ∈ gWs) (hini : Cond.initialized Cn ∈ gWs) (hfs : ∀ j, j < NF → defaultValue (ty0 j) = vp_V fs j) (hl : Cond.methodLink own iI_ y ∈ gWs)
    (hR : kc + 1 + Rc.cells ≤ R.cells ∧ ks + NF + Rc.slots ≤ R.slots) (hR2 : Rc.frames + 1 ≤ R.frames ∧ 8 + (maxL + 11) + Rc.locals ≤ R.locals) (hcat : (st.map fun v => v.category).sum + 1 ≤ 8)
    (k : ∀ (q : Nat) (u : S), X q u → N M (ws ++ out q u) (kc + 1 + Rc.cells) (ks + NF + Rc.slots) (pc + 7) lv (.ref q :: st)) : N M ws kc ks pc lv st := by
  intro H locs ls hP hD hS hlv
  refine va_new (ci := ci) (fs := fs) (C := Cn) (T := T) (N := NF) (nd_x C) (nd_b C) (nd_ts C) hin ty0 hty (nd_own C) (nd_ts C _ hcl) (nd_ts C _ hinst) (nd_ts C _ hini) (nd_KD C) hP hD hS (nd_A C) hc hfs (by rw [nd_R C]; omega) (by rw [nd_R C]; omega) hd (fun q H1 hP1 hD1 hS1 => ?_)
  refine lv_dup (nd_x C) (nd_b C) hd2 rfl ?_
  have hF : ∀ z, va_A [(q, Sum.inr (ci, fs))] H1.size z → M.2.2.2.2.2 z := by
    refine va_free hD1 hS1 (nd_A C) [ws.length] ?_
    simp
  have hP0 : va_P D vwCl [(q, Sum.inr (ci, fs))] H1 := by
    intro j x hj
    rw [← nd_D C]
    refine hP1 (ws.length + j) x ?_
    rw [List.getElem?_append_right (by omega), Nat.add_sub_cancel_left]
    exact hj
  have hrun : va_Run M.1.1 M.1.2.1 M.1.2.2.1 M.1.2.2.2 M.2.1.1 M.2.1.2.1 M.2.1.2.2.1 M.2.1.2.2.2 M.2.2.1.1 M.2.2.1.2.1 H1 locs (kc + 1) (ks + NF) Rc.cells Rc.slots (F0 M.2.1.2.1 (pc + 4) ls (.ref q :: .ref q :: st)) (.ref q :: st) (va_Qv (fun _ : S => True) (fun u t => B q (va_A [(q, .inr (ci, fs))] H1.size) u t) (va_A [(q, .inr (ci, fs))] H1.size) (Value.ref q :: []).toArray) (va_A [(q, .inr (ci, fs))] H1.size) := by
    rw [nd_l C]
    refine va_runI (As := []) (rest := .ref q :: st) ⟨nd_x C, nd_b C, nd_ml C, nd_own C, nd_ts C⟩ (hct q H1.size) (cwI 0 (nd_ts C) (gw_I hm) rfl rfl rfl (nd_ts C _ hm.2.2.2.1) (nd_ts C _ hl) (nd_ts C _ hm.2.2.1) hm.2.1 hm.1 (by rw [nd_R C]; exact hR2)) ⟨NPic_blind, fun U hU hW => ⟨rfl, by rw [hU], by rw [hU]; exact hP0, va_K.moved hW.alike (nd_K C), (nd_W C).warm hW⟩⟩ rfl rfl hlv.1 rfl ?_ hd3 ⟨by rw [nd_R C]; omega, by rw [nd_R C]; omega⟩
    have h1 : (List.map (fun v : Value => v.category) (Value.ref q :: st)).sum = 1 + (st.map fun v => v.category).sum := by simp [Value.category]
    show 2 * 0 + (List.map (fun v : Value => v.category) (Value.ref q :: st)).sum ≤ 8
    rw [h1]; omega
  refine va_callv hrun hS1 (fun z _ h => hF z h) hF (fun u t H2 locs2 ht _ _ hb _ hk2 hS2 => ?_)
  obtain ⟨hP3, hD3, hX⟩ := hB _ _ _ _ hb
  rw [ht, ← nd_D C] at hP3
  obtain ⟨hP4, hD4⟩ := join_last hP1 hD1 hk2 hF hP3 hD3
  exact k q u hX H2 locs2 ls hP4 hD4 hS2 hlv
theorem wd_l {ad : Int → Nat} {NC : Nat} {cf : Int → (Int → Int) → va_E} {σ : Mem} : (wd ad NC cf σ).length = NC := by simp [wd]
theorem n_toL {ad bd : Int → Nat} {P : cP} {b L : Nat} {xs : Nat → Int32} (C : NGood l K D cL_law RL room_1 M) (hap : Apart ad 60) (hbp : Apart bd 12) (hE : cE P M.2.2.2.2.2 M.2.1.1 M.2.1.1.heap) (hX : va_X b L xs M.2.1.1 M.2.1.1.heap ∧ b < M.2.1.1.heap.size ∧ ¬ M.2.2.2.2.2 b) (hL : L ≤ 3072) (hn : M.2.2.1.2.2 = 4) {σ τ : Mem} (k : LGood l K D ad bd P b L xs M → LG M K ad bd kc ks pc lv st σ τ) : N M (([] ++ wd ad 60 (cfC ad K) σ) ++ wd bd 12 (cfM bd K) τ) kc ks pc lv st := by
  intro H locs ls hP hD hS hl
  rw [List.nil_append] at hP hD
  have i1 : ∀ i : Int, 0 ≤ i → i < 60 → (wd ad 60 (cfC ad K) σ ++ wd bd 12 (cfM bd K) τ)[i.toNat]? = some (ad i, cfC ad K i (σ i)) := fun i h0 h1 => by
    rw [List.getElem?_append_left (by rw [wd_l]; omega)]
    exact wd_at h0 (by omega)
  have i2 : ∀ j : Int, 0 ≤ j → j < 12 → (wd ad 60 (cfC ad K) σ ++ wd bd 12 (cfM bd K) τ)[60 + j.toNat]? = some (bd j, cfM bd K j (τ j)) := fun j h0 h1 => by
    rw [List.getElem?_append_right (by rw [wd_l]; omega), wd_l, Nat.add_sub_cancel_left]
    exact wd_at h0 (by omega)
  have CL : LGood l K D ad bd P b L xs M := ⟨C, ⟨hap, hbp, fun i j i0 i1' j0 j1 e => by
      have := hD.1 _ _ _ _ (i1 i i0 i1') (i2 j j0 j1) e
      omega⟩, ⟨fun i i0 i1' => hD.2 _ _ (i1 i i0 i1'), fun j j0 j1 => hD.2 _ _ (i2 j j0 j1)⟩, hE, hX, hL, hn⟩
  refine k CL H locs ls (fun j q hq => ?_) (fun j q hq => ?_) hS hl
  · have hj := (List.getElem?_eq_some_iff.mp hq).1
    exact hP j q (by rw [List.getElem?_append_left hj]; exact hq)
  · exact hP (60 + j) q (by rw [List.getElem?_append_right (by rw [wd_l]; omega), wd_l, Nat.add_sub_cancel_left]; exact hq)
end LN
section LP
variable {l : Launch} {K : Nat → ClassId} {D : va_G} {ad bd : Int → Nat} {P : cP} {b L : Nat} {xs : Nat → Int32} {M : GM} {kc ks pc : Nat} {lv : List (Nat × Value)} {st : List Value} {σ τ : Mem}
theorem l_istore_n (C : LGood l K D ad bd P b L xs M) {k : Fin 4} {i : Nat} {x : Int32} {lv' : List (Nat × Value)} (hd : decode cL_law pc = .ok (.istore_n k, 1)) (hi : k.val = i) (hn : i < 4) (he : (i, Value.int x) :: List.filter (fun q => !q.fst == i && !(q.fst + 1 == i && q.snd.category == 2)) lv = lv') (k : LG M K ad bd kc ks (pc + 1) lv' st σ τ) : LG M K ad bd kc ks pc lv (.int x :: st) σ τ := fun H locs ls hP hQ hS hl => lv_istore_n (nd_x C.1) (nd_b C.1) hd hi hl (by rw [C.2.2.2.2.2.2]; exact hn) he (fun ls' hl' => k H locs ls' hP hQ hS hl')
theorem and31 (x : Int) : 0 ≤ oAnd x 31 ∧ oAnd x 31 < 32 := by
  unfold oAnd
  have h : ((iI x &&& iI 31).toBitVec).toNat ≤ 31 := by
    rw [Int32.toBitVec_and, BitVec.toNat_and]
    exact Nat.and_le_right
  have e : (iI x &&& iI 31).toInt = ((iI x &&& iI 31).toBitVec).toInt := rfl
  rw [e, BitVec.toInt_eq_toNat_of_lt (by omega)]
  omega
theorem l_loop (C : LGood l K D ad bd P b L xs M) (hR : kc ≤ 600000 ∧ ks ≤ 7302250) (fin : ∀ (i : Int) (σ τ : Mem), LG M K ad bd kc ks 1154 [(3, .int (iI i)), (2, .ref (bd 0)), (1, .ref (ad 0)), (0, .ref b)] [] σ τ) : ∀ j : Nat, j ≤ L / 6 → ∀ σ τ : Mem, RR j σ τ → LG M K ad bd kc ks 18 [(3, .int (iI (6 * (j : Int)))), (2, .ref (bd 0)), (1, .ref (ad 0)), (0, .ref b)] [] σ τ := by
  have hL := C.2.2.2.2.2.1
  refine loopUp (P := fun j : Nat => ∀ σ τ : Mem, RR j σ τ → LG M K ad bd kc ks 18 [(3, .int (iI (6 * (j : Int)))), (2, .ref (bd 0)), (1, .ref (ad 0)), (0, .ref b)] [] σ τ) (L / 6) (fun j hj ih σ τ h => ?_)
  refine l_iload_n C dL_law_18 rfl (p := 0) rfl ?_
  refine l_aload_n C dL_law_19 rfl (p := 3) rfl ?_
  refine l_slen C dL_law_20 ?_
  refine l_bipush C dL_law_21 (by decide) ?_
  refine l_isub C dL_law_23 ?_
  refine l_icmp_gt C (tgt := 1154) dL_law_24 (by decide) (by omega) (by omega) (fun _ => fin _ _ _) (fun h6 => ?_)
  have hc : ∀ σ' τ' : Mem, RR ((j : Int) + 1) σ' τ' → LG M K ad bd kc ks 1148 [(3, .int (iI (6 * (j : Int)))), (2, .ref (bd 0)), (1, .ref (ad 0)), (0, .ref b)] [] σ' τ' := by
    intro σ' τ' h'
    refine l_iinc C (p := 0) (lv' := [(3, .int (iI (6 * (j : Int) + 6))), (2, .ref (bd 0)), (1, .ref (ad 0)), (0, .ref b)]) dL_law_1148 (by decide) rfl rfl ?_
    refine l_goto C (tgt := 18) dL_law_1151 (by decide) ?_
    have := ih (by omega) σ' τ' (by rw [Int.natCast_add]; exact h')
    rw [show (6 : Int) * ((j + 1 : Nat) : Int) = 6 * (j : Int) + 6 by omega] at this
    exact this
  refine l_aload_n C dL_law_27 rfl (p := 3) rfl ?_
  refine l_iload_n C dL_law_28 rfl (p := 0) rfl ?_
  refine l_sld C dL_law_29 (by omega) (by omega) ?_
  refine l_bipush C dL_law_30 (by decide) ?_
  refine l_iand C dL_law_32 ?_
  have hz := and31 (sx xs (6 * (j : Int)))
  have h0 : (0 : Int) ≤ 6 * (j : Int) := by omega
  have h5 : 6 * (j : Int) + 6 ≤ (L : Int) := by omega
  generalize oAnd (sx xs (6 * (j : Int))) 31 = z at hz ⊢
  rcases (show z = 0 ∨ z = 1 ∨ z = 2 ∨ z = 3 ∨ z = 4 ∨ z = 5 ∨ z = 6 ∨ z = 7 ∨ z = 8 ∨ z = 9 ∨ z = 10 ∨ z = 11 ∨ z = 12 ∨ z = 13 ∨ z = 14 ∨ z = 15 ∨ z = 16 ∨ z = 17 ∨ z = 18 ∨ z = 19 ∨ z = 20 ∨ z = 21 ∨ z = 22 ∨ z = 23 ∨ z = 24 ∨ z = 25 ∨ z = 26 ∨ z = 27 ∨ z = 28 ∨ z = 29 ∨ 29 < z from by omega) with e | e | e | e | e | e | e | e | e | e | e | e | e | e | e | e | e | e | e | e | e | e | e | e | e | e | e | e | e | e | e
  · exact l_swIn C (off := 135) (tgt := 168) 0 dL_law_33 (by omega) e (by decide) (by decide) (by decide) (by decide) (lc_row C h hR h0 h5 hc)
  · exact l_swIn C (off := 178) (tgt := 211) 1 dL_law_33 (by omega) e (by decide) (by decide) (by decide) (by decide) (lc_set C h hR h0 h5 hc)
  · exact l_swIn C (off := 221) (tgt := 254) 2 dL_law_33 (by omega) e (by decide) (by decide) (by decide) (by decide) (lc_copy C h hR h0 h5 hc)
  · exact l_swIn C (off := 284) (tgt := 317) 3 dL_law_33 (by omega) e (by decide) (by decide) (by decide) (by decide) (lc_drop C h hR h0 h5 hc)
  · exact l_swIn C (off := 307) (tgt := 340) 4 dL_law_33 (by omega) e (by decide) (by decide) (by decide) (by decide) (lc_feed C h hR h0 h5 hc)
  · exact l_swIn C (off := 370) (tgt := 403) 5 dL_law_33 (by omega) e (by decide) (by decide) (by decide) (by decide) (lc_town C h hR h0 h5 hc)
  · exact l_swIn C (off := 383) (tgt := 416) 6 dL_law_33 (by omega) e (by decide) (by decide) (by decide) (by decide) (lc_fault C h hR h0 h5 hc)
  · exact l_swIn C (off := 396) (tgt := 429) 7 dL_law_33 (by omega) e (by decide) (by decide) (by decide) (by decide) (lc_give C h hR h0 h5 hc)
  · exact l_swIn C (off := 439) (tgt := 472) 8 dL_law_33 (by omega) e (by decide) (by decide) (by decide) (by decide) (lc_offer C h hR h0 h5 hc)
  · exact l_swIn C (off := 472) (tgt := 505) 9 dL_law_33 (by omega) e (by decide) (by decide) (by decide) (by decide) (lc_back C h hR (by omega) h0 h5 hc)
  · exact l_swIn C (off := 495) (tgt := 528) 10 dL_law_33 (by omega) e (by decide) (by decide) (by decide) (by decide) (lc_undo C h hR h0 h5 hc)
  · exact l_swIn C (off := 508) (tgt := 541) 11 dL_law_33 (by omega) e (by decide) (by decide) (by decide) (by decide) (lc_coin C h hR h0 h5 hc)
  · exact l_swIn C (off := 531) (tgt := 564) 12 dL_law_33 (by omega) e (by decide) (by decide) (by decide) (by decide) (lc_thing C h hR h0 h5 hc)
  · exact l_swIn C (off := 564) (tgt := 597) 13 dL_law_33 (by omega) e (by decide) (by decide) (by decide) (by decide) (lc_worth C h hR h0 h5 hc)
  · exact l_swIn C (off := 607) (tgt := 640) 14 dL_law_33 (by omega) e (by decide) (by decide) (by decide) (by decide) (lc_gain C h hR h0 h5 hc)
  · exact l_swIn C (off := 660) (tgt := 693) 15 dL_law_33 (by omega) e (by decide) (by decide) (by decide) (by decide) (lc_best C h hR h0 h5 hc)
  · exact l_swIn C (off := 703) (tgt := 736) 16 dL_law_33 (by omega) e (by decide) (by decide) (by decide) (by decide) (lc_rests C h hR h0 h5 hc)
  · exact l_swIn C (off := 736) (tgt := 769) 17 dL_law_33 (by omega) e (by decide) (by decide) (by decide) (by decide) (lc_rounds C h hR h0 h5 hc)
  · exact l_swIn C (off := 779) (tgt := 812) 18 dL_law_33 (by omega) e (by decide) (by decide) (by decide) (by decide) (lc_least C h hR h0 h5 hc)
  · exact l_swIn C (off := 812) (tgt := 845) 19 dL_law_33 (by omega) e (by decide) (by decide) (by decide) (by decide) (lc_lost C h hR h0 h5 hc)
  · exact l_swIn C (off := 855) (tgt := 888) 20 dL_law_33 (by omega) e (by decide) (by decide) (by decide) (by decide) (lc_honest C h hR h0 h5 hc)
  · exact l_swIn C (off := 888) (tgt := 921) 21 dL_law_33 (by omega) e (by decide) (by decide) (by decide) (by decide) (lc_ore C h hR h0 h5 hc)
  · exact l_swIn C (off := 921) (tgt := 954) 22 dL_law_33 (by omega) e (by decide) (by decide) (by decide) (by decide) (lc_image C h hR h0 h5 hc)
  · exact l_swIn C (off := 944) (tgt := 977) 23 dL_law_33 (by omega) e (by decide) (by decide) (by decide) (by decide) (lc_restore C h hR h0 h5 hc)
  · exact l_swIn C (off := 967) (tgt := 1000) 24 dL_law_33 (by omega) e (by decide) (by decide) (by decide) (by decide) (lc_kind C h hR h0 h5 hc)
  · exact l_swIn C (off := 990) (tgt := 1023) 25 dL_law_33 (by omega) e (by decide) (by decide) (by decide) (by decide) (lc_as C h hR h0 h5 hc)
  · exact l_swIn C (off := 1023) (tgt := 1056) 26 dL_law_33 (by omega) e (by decide) (by decide) (by decide) (by decide) (lc_ask C h hR h0 h5 hc)
  · exact l_swIn C (off := 1056) (tgt := 1089) 27 dL_law_33 (by omega) e (by decide) (by decide) (by decide) (by decide) (lc_trace C h hR h0 h5 hc)
  · exact l_swIn C (off := 1079) (tgt := 1112) 28 dL_law_33 (by omega) e (by decide) (by decide) (by decide) (by decide) (lc_count C h hR h0 h5 hc)
  · exact l_swIn C (off := 1102) (tgt := 1135) 29 dL_law_33 (by omega) e (by decide) (by decide) (by decide) (by decide) (lc_status C h hR h0 h5 hc)
  · exact l_swOut C (tgt := 1148) dL_law_33 (by omega) (by omega) (by decide) (hc σ τ (RR_mono h (by omega)))
end LP

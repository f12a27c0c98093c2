/-! THE CLASS'S SURROUNDINGS: static tables and String constants that nobody writes -/
def cP : Type := (Nat × Nat × Nat × Nat) × (Nat → Nat) × (Nat → Nat)
def nearL : List Int := [0, 0, 1, 1, 0, 4]
def sizeL : List Int := [10, 11, 12, 0, 13, 14]
def markL : List Int := [20, 21, 24, 22, 23, 0]
def lenS : List Nat := [3, 6, 4, 3, 3, 4, 5, 5]
def bytZ : List (List Int) := [[108, 97, 119], [112, 101, 114, 115, 111, 110], [116, 114, 117, 101], [115, 108, 121], [115, 104, 121], [114, 105, 99, 104], [119, 105, 100, 111, 119], [116, 104, 105, 110, 103]]
def bytS : List (List Int32) := [[108, 97, 119], [112, 101, 114, 115, 111, 110], [116, 114, 117, 101], [115, 108, 121], [115, 104, 121], [114, 105, 99, 104], [119, 105, 100, 111, 119], [116, 104, 105, 110, 103]]
def ixS : List Nat := [50, 72, 99, 101, 103, 105, 107, 91]
def txS : List String := ["law", "person", "true", "sly", "shy", "rich", "widow", "thing"]
def tabV (L : List Int) : Nat → Value := fun j => .int (iI (L.getD j 0))
def cTab (P : cP) (A : Nat → Prop) (U : State) (H : Heap) : Prop := (va_Z "LeastWants$Asking" "NEAREST" "[I" (.ref P.1.1) A U H ∧ va_T .int P.1.1 6 (tabV nearL) A U H) ∧ (va_Z "LeastWants$Asking" "SIZE_BODIES" "[I" (.ref P.1.2.1) A U H ∧ va_T .int P.1.2.1 6 (tabV sizeL) A U H) ∧ (va_Z "LeastWants$Asking" "MARK_BODIES" "[I" (.ref P.1.2.2.1) A U H ∧ va_T .int P.1.2.2.1 6 (tabV markL) A U H)
def sfV (n : Nat) : Value := if n = 0 then .null else .ref (n - 1)
def cStr (P : cP) (A : Nat → Prop) (U : State) (H : Heap) : Prop := va_Z "java/lang/String" "COMPACT_STRINGS" "Z" (.int 1) A U H ∧ va_Z "jdk/internal/util/Preconditions" "SIOOBE_FORMATTER" "Ljava/util/function/BiFunction;" (sfV P.1.2.2.2) A U H ∧ vk_S 8 lenS bytS P.2.1 P.2.2 A U H
def cE (P : cP) : gEnv := fun A U H => cTab P A U H ∧ cStr P A U H ∧ (∀ i : Nat, i < 8 → vk_R "LeastWants$Reader" (ixS.getD i 0) (txS.getD i "") (P.2.1 i) U)
theorem cTab_moved {P : cP} {A : Nat → Prop} {u U : State} {H : Heap} (hv : u.vm.Alike U.vm) (h : cTab P A u H) : cTab P A U H := ⟨⟨h.1.1.moved hv, h.1.2.moved hv⟩, ⟨h.2.1.1.moved hv, h.2.1.2.moved hv⟩, h.2.2.1.moved hv, h.2.2.2.moved hv⟩
theorem cStr_moved {P : cP} {A : Nat → Prop} {u U : State} {H : Heap} (hv : u.vm.Alike U.vm) (h : cStr P A u H) : cStr P A U H := ⟨h.1.moved hv, h.2.1.moved hv, vk_S.moved hv h.2.2⟩
theorem cTab_kept {P : cP} {A : Nat → Prop} {U : State} {H H1 : Heap} (h : cTab P A U H) (hq : ∀ a : Nat, a < H.size → ¬ A a → H1[a]? = H[a]?) : cTab P A U H1 := ⟨⟨h.1.1.kept hq, h.1.2.kept hq⟩, ⟨h.2.1.1.kept hq, h.2.1.2.kept hq⟩, h.2.2.1.kept hq, h.2.2.2.kept hq⟩
theorem cStr_kept {P : cP} {A : Nat → Prop} {U : State} {H H1 : Heap} (h : cStr P A U H) (hq : ∀ a : Nat, a < H.size → ¬ A a → H1[a]? = H[a]?) : cStr P A U H1 := ⟨h.1.kept hq, h.2.1.kept hq, h.2.2.kept hq⟩
theorem cTab_narrow {P : cP} {A B : Nat → Prop} {U : State} {H : Heap} (h : cTab P A U H) (hq : ∀ q, B q → A q) : cTab P B U H := ⟨⟨h.1.1.narrow hq, h.1.2.narrow hq⟩, ⟨h.2.1.1.narrow hq, h.2.1.2.narrow hq⟩, h.2.2.1.narrow hq, h.2.2.2.narrow hq⟩
theorem cStr_narrow {P : cP} {A B : Nat → Prop} {U : State} {H : Heap} (h : cStr P A U H) (hq : ∀ q, B q → A q) : cStr P B U H := ⟨h.1.narrow hq, h.2.1.narrow hq, h.2.2.narrow hq⟩
theorem cEok (P : cP) : gEok (cE P) :=
  ⟨fun A u U H hv h => ⟨cTab_moved (by rw [hv]; exact Vm.Alike.refl _) h.1, cStr_moved (by rw [hv]; exact Vm.Alike.refl _) h.2.1, fun i hi => vk_R.same hv (h.2.2 i hi)⟩,
   fun A U H H1 h hq => ⟨cTab_kept h.1 hq, cStr_kept h.2.1 hq, h.2.2⟩,
   fun A B U H h hq => ⟨cTab_narrow h.1 hq, cStr_narrow h.2.1 hq, h.2.2⟩,
   fun A s U H hW h => ⟨cTab_moved hW.alike h.1, cStr_moved hW.alike h.2.1, fun i hi => vk_R.warm hW (h.2.2 i hi)⟩⟩
section ER
variable {l : Launch} {K : Nat → ClassId} {D : va_G} {ad : Int → Nat} {NC : Nat} {E : gEnv} {d : Nat} {cc : ByteArray} {own : String} {M : GM} {cf : Int → (Int → Int) → va_E} {pc : Nat} {lv : List (Nat × Value)} {st : List Value} {σ : Mem}
theorem g_gets (C : Good l K D ad NC E d cc own M) {Cn n dd : String} {v : Value} {index : Nat} (hZ : va_Z Cn n dd v M.2.2.2.2.2 M.2.1.1 M.2.1.1.heap) (hd : decode cc pc = .ok (.getstatic index, 3)) (hw : Cond.fieldLink own index Cn n dd ∈ gWs) (k : G M ad NC cf (pc + 3) lv (v :: st) σ) : G M ad NC cf pc lv st σ := fun H locs ls hP hS hl => va_gets (gd_x C) (gd_b C) hZ hS (gd_own C) (gd_ts C _ hw) (fun _ h => h) hd (k H locs ls hP hS hl)
theorem g_ti (C : Good l K D ad NC E d cc own M) {t N : Nat} {L : List Int} {a : Int} (hT : va_T .int t N (tabV L) M.2.2.2.2.2 M.2.1.1 M.2.1.1.heap) (hd : decode cc pc = .ok (.iaload, 1)) (h0 : 0 ≤ a) (h1 : a < (N : Int)) (ra : R3 a) (k : G M ad NC cf (pc + 1) lv (.int (iI (L.getD a.toNat 0)) :: st) σ) : G M ad NC cf pc lv (.int (iI a) :: .ref t :: st) σ := fun H locs ls hP hS hl => va_ti (gd_x C) (gd_b C) hT hS (iI_in h0 h1 ra) (v := .int (iI (L.getD a.toNat 0))) (by rw [iI_cl ra]; rfl) hd (k H locs ls hP hS hl)
theorem g_tb (C : Good l K D ad NC E d cc own M) {t N : Nat} {f : Nat → Value} {a v : Int} (hT : va_T .byte t N f M.2.2.2.2.2 M.2.1.1 M.2.1.1.heap) (hd : decode cc pc = .ok (.baload, 1)) (h0 : 0 ≤ a) (h1 : a < (N : Int)) (ra : R3 a) (hv : f a.toNat = .int (iI v)) (k : G M ad NC cf (pc + 1) lv (.int (iI v) :: st) σ) : G M ad NC cf pc lv (.int (iI a) :: .ref t :: st) σ := fun H locs ls hP hS hl => va_tb (gd_x C) (gd_b C) hT hS (iI_in h0 h1 ra) (v := .int (iI v)) (by rw [iI_cl ra]; exact hv) hd (k H locs ls hP hS hl)
theorem g_tlen (C : Good l K D ad NC E d cc own M) {t N : Nat} {ty : FieldType} {f : Nat → Value} {v : Int} (hT : va_T ty t N f M.2.2.2.2.2 M.2.1.1 M.2.1.1.heap) (hv : Int32.ofNat N = iI v) (hd : decode cc pc = .ok (.arraylength, 1)) (k : G M ad NC cf (pc + 1) lv (.int (iI v) :: st) σ) : G M ad NC cf pc lv (.ref t :: st) σ := fun H locs ls hP hS hl => va_tlen (gd_x C) (gd_b C) hT hS hv hd (k H locs ls hP hS hl)
theorem g_getE (C : Good l K D ad NC E d cc own M) {Cn n dd : String} {index q : Nat} {v : Value} (hF : va_OF Cn n dd v q M.2.2.2.2.2 M.2.1.1 M.2.1.1.heap) (hd : decode cc pc = .ok (.getfield index, 3)) (hw : Cond.fieldLink own index Cn n dd ∈ gWs) (k : G M ad NC cf (pc + 3) lv (v :: st) σ) : G M ad NC cf pc lv (.ref q :: st) σ := fun H locs ls hP hS hl => vk_getf (gd_x C) (gd_b C) hF hS (gd_own C) (gd_ts C _ hw) (fun _ h => h) hd (k H locs ls hP hS hl)
theorem g_ldcS (C : Good l K D ad NC E d cc own M) {tx : String} {index q : Nat} (hZ : vk_R own index tx q M.2.1.1) (hd : decode cc pc = .ok (.ldc index, 2)) (k : G M ad NC cf (pc + 2) lv (.ref q :: st) σ) : G M ad NC cf pc lv st σ := fun H locs ls hP hS hl => va_ldcS (gd_x C) (gd_b C) (gd_own C) hZ hd (k H locs ls hP hS hl)
def oShr (a b : Int) : Int := (iI a >>> (iI b &&& 31)).toInt
def oI2C (a : Int) : Int := ((iI a).toUInt32 % 65536).toInt32.toInt
theorem g_ishr (C : Good l K D ad NC E d cc own M) {a b : Int} (hd : decode cc pc = .ok (.ishr, 1)) (k : G M ad NC cf (pc + 1) lv (.int (iI (oShr a b)) :: st) σ) : G M ad NC cf pc lv (.int (iI b) :: .int (iI a) :: st) σ := fun H locs ls hP hS hl => lv_ishr (gd_x C) (gd_b C) hd (by rw [show iI a >>> (iI b &&& 31) = iI (oShr a b) from (iI_of _).symm]; exact k H locs ls hP hS hl)
theorem g_i2c (C : Good l K D ad NC E d cc own M) {a : Int} (hd : decode cc pc = .ok (.i2c, 1)) (k : G M ad NC cf (pc + 1) lv (.int (iI (oI2C a)) :: st) σ) : G M ad NC cf pc lv (.int (iI a) :: st) σ := fun H locs ls hP hS hl => lv_i2c (gd_x C) (gd_b C) hd (iI_of _).symm (k H locs ls hP hS hl)
variable {σ' : Mem} {y : MethodName} {bytes : ByteArray} {maxL n index d0 : Nat} {ret : Option FieldType} {As st0 : List Value} {r : Int}
theorem g_callE (C : Good l K D ad NC E d cc own M) (hd : decode cc pc = .ok (.invokevirtual index, 3)) {b : Nat} {Cn : String} (hct : CtI l K D ad NC cf E y bytes maxL ret d0 (.ref b :: As) σ r σ') (hm : MWv y bytes maxL ret Cn n) (hl : Cond.methodLink own index y ∈ gWs) (hd1 : d0 + 1 ≤ d) (hml : maxL ≤ 21) (hr : ∀ (H : Heap) (locs : List Loc), va_S M.2.2.2.2.2 M.2.1.1.heap H locs → ∃ cell : Cell, H[b]? = some cell ∧ cell.vm.isStatics = false ∧ M.2.1.1.vm.findClass Cn = some cell.cls) (hn : As.length = n) (hst : st0 = As.reverse ++ .ref b :: st) (hcat : (st.map fun v => v.category).sum ≤ 8) (k : G M ad NC cf (pc + 3) lv (.int (iI r) :: st) σ') : G M ad NC cf pc lv st0 σ := by
  intro H locs ls hP hS hlv
  have hM := hct H.size
  have hrun : va_Run M.1.1 M.1.2.1 M.1.2.2.1 M.1.2.2.2 M.2.1.1 M.2.1.2.1 M.2.1.2.2.1 M.2.1.2.2.2 M.2.2.1.1 M.2.2.1.2.1 H locs 0 0 0 0 (F0 M.2.1.2.1 pc ls st0) st (va_Qi (fun (x : Int32) (u : Mem) => x = iI r ∧ u = σ') (fun u t => va_P D vwCl (wd ad NC cf u) t.heap) (gA ad NC H.size) (Value.ref b :: As).toArray) (gA ad NC H.size) := by
    rw [gd_l C]
    exact va_runV (As := As) (rest := st) (C := Cn) ⟨gd_x C, gd_b C, gd_ml C, gd_own C, gd_ts C⟩ hM (cwV n (gd_ts C) (gw_V hm hl) rfl rfl rfl hm.1 (g_room C hd1 hml)) ⟨gPic_blind (gd_Eo C), hr H locs hS, fun U hU hW => g_pre C hP hS U hU hW⟩ rfl hn hlv.1 hst (by show 2 * 0 + _ ≤ 8; omega) hd ⟨Nat.zero_le _, Nat.zero_le _⟩
  refine va_calli hrun hS (fun q _ h => gd_sub C hS q h) (gd_sub C hS) (fun x u t H1 locs1 ht _ hpost hB _ _ hS1 => ?_)
  obtain ⟨rfl, rfl⟩ := hpost
  rw [ht, ← gd_D C] at hB
  exact k H1 locs1 ls hB hS1 hlv
theorem g_callSv (C : Good l K D ad NC E d cc own M) (hd : decode cc pc = .ok (.invokestatic index, 3)) (hct : CtV l K D ad NC cf E y bytes maxL ret d0 As σ σ') (hm : MWs y bytes maxL ret n) (hl : Cond.methodLink own index y ∈ gWs) (hd1 : d0 + 1 ≤ d) (hml : maxL ≤ 21) (hn : As.length = n) (hst : st0 = As.reverse ++ st) (hcat : (st.map fun v => v.category).sum ≤ 8) (k : G M ad NC cf (pc + 3) lv st σ') : G M ad NC cf pc lv st0 σ := by
  intro H locs ls hP hS hlv
  refine va_callv (g_runS C hP hS hlv (hct H.size) hm hl hd1 hml hn hst hcat hd) hS (fun q _ h => gd_sub C hS q h) (gd_sub C hS) (fun u t H1 locs1 ht _ hpost hB _ _ hS1 => ?_)
  obtain rfl := hpost
  rw [ht, ← gd_D C] at hB
  exact k H1 locs1 ls hB hS1 hlv
end ER
/-! the JDK's members over the constants -/
def chZ (i k : Nat) : Int := (bytZ.getD i []).getD k 0
theorem chZ_S : ∀ i, i < 8 → ∀ k, k < 6 → k < lenS.getD i 0 → (bytS.getD i []).getD k 0 = iI (chZ i k) ∧ oI2C (oAnd (chZ i k) 255) = chZ i k ∧ 0 ≤ chZ i k ∧ chZ i k < 128 := by decide +kernel
theorem lenS_in : ∀ i, i < 8 → 3 ≤ lenS.getD i 0 ∧ lenS.getD i 0 ≤ 6 ∧ oShr (lenS.getD i 0 : Nat) 0 = (lenS.getD i 0 : Nat) ∧ Int32.ofNat (lenS.getD i 0) = iI (lenS.getD i 0 : Nat) := by decide +kernel
section JD
variable {l : Launch} {K : Nat → ClassId} {D : va_G} {ad : Int → Nat} {NC : Nat} {E : gEnv} {P : cP} {cf : Int → (Int → Int) → va_E} {σ : Mem} {i : Nat}
theorem kJ0_coder (hap : Apart ad NC) (hE : gEok E) (hcE : ∀ A U H, E A U H → cE P A U H) (hi : i < 8) : CtI l K D ad NC cf E yJ0_coder_7d493 cJ0_coder_7d493 1 (some .byte) 0 [.ref (P.2.1 i)] σ 0 σ := by
  refine ctI_of hap hE (by decide) rfl .byte rfl (fun M C hn hret => ?_)
  have C : Good l K D ad NC E 0 cJ0_coder_7d493 RJ0 M := C
  have hS := (hcE _ _ _ (gd_E C)).2.1
  show G M ad NC cf 0 [(0, .ref (P.2.1 i))] [] σ
  refine g_gets C hS.1 dJ0_coder_7d493_0 wf_J0_38 ?_
  refine g_if_eq C (a := 1) (tgt := 13) dJ0_coder_7d493_3 (by decide) (by omega) (fun h => absurd h (by decide)) (fun h => ?_)
  refine g_aload_n C dJ0_coder_7d493_6 (p := 0) (hi := rfl) (hv := rfl) ?_
  refine g_getE C (hS.2.2.1 i hi).2.1 dJ0_coder_7d493_7 wf_J0_15 ?_
  refine g_goto C (tgt := 14) dJ0_coder_7d493_10 (by decide) ?_
  exact hret _ _ _ _ dJ0_coder_7d493_14 rfl rfl
theorem kJ0_isLatin1 (hap : Apart ad NC) (hE : gEok E) (hcE : ∀ A U H, E A U H → cE P A U H) (hi : i < 8) : CtI l K D ad NC cf E yJ0_isLatin1_aae02 cJ0_isLatin1_aae02 1 (some .boolean) 0 [.ref (P.2.1 i)] σ 1 σ := by
  refine ctI_of hap hE (by decide) rfl .boolean rfl (fun M C hn hret => ?_)
  have C : Good l K D ad NC E 0 cJ0_isLatin1_aae02 RJ0 M := C
  have hS := (hcE _ _ _ (gd_E C)).2.1
  show G M ad NC cf 0 [(0, .ref (P.2.1 i))] [] σ
  refine g_gets C hS.1 dJ0_isLatin1_aae02_0 wf_J0_38 ?_
  refine g_if_eq C (a := 1) (tgt := 17) dJ0_isLatin1_aae02_3 (by decide) (by omega) (fun h => absurd h (by decide)) (fun h => ?_)
  refine g_aload_n C dJ0_isLatin1_aae02_6 (p := 0) (hi := rfl) (hv := rfl) ?_
  refine g_getE C (hS.2.2.1 i hi).2.1 dJ0_isLatin1_aae02_7 wf_J0_15 ?_
  refine g_if_ne C (a := 0) (tgt := 17) dJ0_isLatin1_aae02_10 (by decide) (by omega) (fun h => absurd rfl h) (fun h => ?_)
  refine g_iconst C dJ0_isLatin1_aae02_13 ?_
  refine g_goto C (tgt := 18) dJ0_isLatin1_aae02_14 (by decide) ?_
  exact hret _ _ _ _ dJ0_isLatin1_aae02_18 rfl rfl
theorem kJ0_length (hap : Apart ad NC) (hE : gEok E) (hcE : ∀ A U H, E A U H → cE P A U H) (hi : i < 8) : CtI l K D ad NC cf E yJ0_length_8abf5 cJ0_length_8abf5 1 (some .int) 1 [.ref (P.2.1 i)] σ (lenS.getD i 0 : Nat) σ := by
  refine ctI_of hap hE (by decide) rfl .int (nar_i _) (fun M C hn hret => ?_)
  have C : Good l K D ad NC E 1 cJ0_length_8abf5 RJ0 M := C
  have hS := (hcE _ _ _ (gd_E C)).2.1
  have hln := lenS_in i hi
  show G M ad NC cf 0 [(0, .ref (P.2.1 i))] [] σ
  refine g_aload_n C dJ0_length_8abf5_0 (p := 0) (hi := rfl) (hv := rfl) ?_
  refine g_getE C (hS.2.2.1 i hi).2.2.1 dJ0_length_8abf5_1 wf_J0_9 ?_
  refine g_tlen C (hS.2.2.1 i hi).2.2.2 hln.2.2.2 dJ0_length_8abf5_4 ?_
  refine g_aload_n C dJ0_length_8abf5_5 (p := 0) (hi := rfl) (hv := rfl) ?_
  refine g_callE C dJ0_length_8abf5_6 (kJ0_coder (σ := σ) hap hE hcE hi) mw_J0_coder_7d493 wl_J0_335 (by decide) (by decide) (fun H locs h => vk_recv hS.2.2 hi h) rfl rfl (by simp [Value.category]) ?_
  refine g_ishr C dJ0_length_8abf5_9 ?_
  exact hret _ _ _ _ dJ0_length_8abf5_10 hln.2.2.1 rfl
theorem kJ3_checkIndex (hap : Apart ad NC) (hE : gEok E) {k n : Int} {b : Nat} (h0 : 0 ≤ k) (h1 : k < n) (rn : R3 n) : CtI l K D ad NC cf E yJ3_checkIndex_8e157 cJ3_checkIndex_8e157 3 (some .int) 0 [.int (iI k), .int (iI n), sfV b] σ k σ := by
  have hv : sfV b = .null ∨ ∃ a, sfV b = .ref a := by
    unfold sfV
    split
    · exact .inl rfl
    · exact .inr ⟨_, rfl⟩
  rcases hv with hv | ⟨a, hv⟩
  · rw [hv]
    refine ctI_of hap hE (by decide) rfl .int (nar_i _) (fun M C hn hret => ?_)
    have C : Good l K D ad NC E 0 cJ3_checkIndex_8e157 RJ3 M := C
    show G M ad NC cf 0 [(0, .int (iI k)), (1, .int (iI n)), (2, .null)] [] σ
    refine g_iload_n C dJ3_checkIndex_8e157_0 (p := 0) (hi := rfl) (hv := rfl) ?_
    refine g_if_lt C (tgt := 9) dJ3_checkIndex_8e157_1 (by decide) (by omega) (fun h => absurd h (by omega)) (fun h => ?_)
    refine g_iload_n C dJ3_checkIndex_8e157_4 (p := 0) (hi := rfl) (hv := rfl) ?_
    refine g_iload_n C dJ3_checkIndex_8e157_5 (p := 1) (hi := rfl) (hv := rfl) ?_
    refine g_icmp_lt C (tgt := 16) dJ3_checkIndex_8e157_6 (by decide) (by omega) rn (fun h => ?_) (fun h => absurd h1 (by omega))
    refine g_iload_n C dJ3_checkIndex_8e157_16 (p := 0) (hi := rfl) (hv := rfl) ?_
    exact hret _ _ _ _ dJ3_checkIndex_8e157_17 rfl rfl
  · rw [hv]
    refine ctI_of hap hE (by decide) rfl .int (nar_i _) (fun M C hn hret => ?_)
    have C : Good l K D ad NC E 0 cJ3_checkIndex_8e157 RJ3 M := C
    show G M ad NC cf 0 [(0, .int (iI k)), (1, .int (iI n)), (2, .ref a)] [] σ
    refine g_iload_n C dJ3_checkIndex_8e157_0 (p := 0) (hi := rfl) (hv := rfl) ?_
    refine g_if_lt C (tgt := 9) dJ3_checkIndex_8e157_1 (by decide) (by omega) (fun h => absurd h (by omega)) (fun h => ?_)
    refine g_iload_n C dJ3_checkIndex_8e157_4 (p := 0) (hi := rfl) (hv := rfl) ?_
    refine g_iload_n C dJ3_checkIndex_8e157_5 (p := 1) (hi := rfl) (hv := rfl) ?_
    refine g_icmp_lt C (tgt := 16) dJ3_checkIndex_8e157_6 (by decide) (by omega) rn (fun h => ?_) (fun h => absurd h1 (by omega))
    refine g_iload_n C dJ3_checkIndex_8e157_16 (p := 0) (hi := rfl) (hv := rfl) ?_
    exact hret _ _ _ _ dJ3_checkIndex_8e157_17 rfl rfl
theorem kJ0_checkIndex (hap : Apart ad NC) (hE : gEok E) (hcE : ∀ A U H, E A U H → cE P A U H) {k n : Int} (h0 : 0 ≤ k) (h1 : k < n) (rn : R3 n) : CtV l K D ad NC cf E yJ0_checkIndex_df160 cJ0_checkIndex_df160 2 none 1 [.int (iI k), .int (iI n)] σ σ := by
  refine ctV_of hap hE (by decide) rfl (fun M C hn hret => ?_)
  have C : Good l K D ad NC E 1 cJ0_checkIndex_df160 RJ0 M := C
  have hS := (hcE _ _ _ (gd_E C)).2.1
  show G M ad NC cf 0 [(0, .int (iI k)), (1, .int (iI n))] [] σ
  refine g_iload_n C dJ0_checkIndex_df160_0 (p := 0) (hi := rfl) (hv := rfl) ?_
  refine g_iload_n C dJ0_checkIndex_df160_1 (p := 1) (hi := rfl) (hv := rfl) ?_
  refine g_gets C hS.2.1 dJ0_checkIndex_df160_2 wf_J0_1053 ?_
  refine g_callS C dJ0_checkIndex_df160_5 (kJ3_checkIndex (σ := σ) hap hE h0 h1 rn) mw_J3_checkIndex_8e157 wl_J0_1059 (by decide) (by decide) rfl rfl (by simp [Value.category]) ?_
  refine g_pop C dJ0_checkIndex_df160_8 rfl ?_
  exact hret _ _ _ dJ0_checkIndex_df160_9 rfl
theorem kJ1_charAt (hap : Apart ad NC) (hE : gEok E) (hcE : ∀ A U H, E A U H → cE P A U H) {k : Int} (hi : i < 8) (h0 : 0 ≤ k) (h1 : k < (lenS.getD i 0 : Nat)) : CtI l K D ad NC cf E yJ1_charAt_3b067 cJ1_charAt_3b067 2 (some .char) 2 [.ref (P.2.2 i), .int (iI k)] σ (chZ i k.toNat) σ := by
  have hln := lenS_in i hi
  have hch := chZ_S i hi k.toNat (by omega) (by omega)
  have hnar : ∀ x : Int, 0 ≤ x → x < 128 → narrow .char (.int (iI x)) = .int (iI x) := by
    have h := (by decide +kernel : ∀ n : Nat, n < 128 → narrow .char (.int (iI (n : Int))) = .int (iI (n : Int)))
    intro x x0 x1
    have := h x.toNat (by omega)
    rw [show ((x.toNat : Nat) : Int) = x by omega] at this
    exact this
  refine ctI_of hap hE (by decide) rfl .char (hnar _ hch.2.2.1 hch.2.2.2) (fun M C hn hret => ?_)
  have C : Good l K D ad NC E 2 cJ1_charAt_3b067 RJ1 M := C
  have hS := (hcE _ _ _ (gd_E C)).2.1
  show G M ad NC cf 0 [(0, .ref (P.2.2 i)), (1, .int (iI k))] [] σ
  refine g_iload_n C dJ1_charAt_3b067_0 (p := 1) (hi := rfl) (hv := rfl) ?_
  refine g_aload_n C dJ1_charAt_3b067_1 (p := 0) (hi := rfl) (hv := rfl) ?_
  refine g_tlen C (hS.2.2.1 i hi).2.2.2 hln.2.2.2 dJ1_charAt_3b067_2 ?_
  refine g_callSv C dJ1_charAt_3b067_3 (kJ0_checkIndex (σ := σ) hap hE hcE h0 h1 (by omega)) mw_J0_checkIndex_df160 wl_J1_9 (by decide) (by decide) rfl rfl (by simp [Value.category]) ?_
  refine g_aload_n C dJ1_charAt_3b067_6 (p := 0) (hi := rfl) (hv := rfl) ?_
  refine g_iload_n C dJ1_charAt_3b067_7 (p := 1) (hi := rfl) (hv := rfl) ?_
  refine g_tb C (v := chZ i k.toNat) (hS.2.2.1 i hi).2.2.2 dJ1_charAt_3b067_8 h0 h1 (by omega) (by show Value.int _ = _; rw [hch.1]) ?_
  refine g_sipush C dJ1_charAt_3b067_9 (by decide) ?_
  refine g_iand C dJ1_charAt_3b067_12 ?_
  refine g_i2c C dJ1_charAt_3b067_13 ?_
  exact hret _ _ _ _ dJ1_charAt_3b067_14 hch.2.1 rfl
theorem kJ0_charAt (hap : Apart ad NC) (hE : gEok E) (hcE : ∀ A U H, E A U H → cE P A U H) {k : Int} (hi : i < 8) (h0 : 0 ≤ k) (h1 : k < (lenS.getD i 0 : Nat)) : CtI l K D ad NC cf E yJ0_charAt_5068e cJ0_charAt_5068e 2 (some .char) 3 [.ref (P.2.1 i), .int (iI k)] σ (chZ i k.toNat) σ := by
  have hln := lenS_in i hi
  have hch := chZ_S i hi k.toNat (by omega) (by omega)
  have hnar : ∀ x : Int, 0 ≤ x → x < 128 → narrow .char (.int (iI x)) = .int (iI x) := by
    have h := (by decide +kernel : ∀ n : Nat, n < 128 → narrow .char (.int (iI (n : Int))) = .int (iI (n : Int)))
    intro x x0 x1
    have := h x.toNat (by omega)
    rw [show ((x.toNat : Nat) : Int) = x by omega] at this
    exact this
  refine ctI_of hap hE (by decide) rfl .char (hnar _ hch.2.2.1 hch.2.2.2) (fun M C hn hret => ?_)
  have C : Good l K D ad NC E 3 cJ0_charAt_5068e RJ0 M := C
  have hS := (hcE _ _ _ (gd_E C)).2.1
  show G M ad NC cf 0 [(0, .ref (P.2.1 i)), (1, .int (iI k))] [] σ
  refine g_aload_n C dJ0_charAt_5068e_0 (p := 0) (hi := rfl) (hv := rfl) ?_
  refine g_callE C dJ0_charAt_5068e_1 (kJ0_isLatin1 (σ := σ) hap hE hcE hi) mw_J0_isLatin1_aae02 wl_J0_492 (by decide) (by decide) (fun H locs h => vk_recv hS.2.2 hi h) rfl rfl (by simp [Value.category]) ?_
  refine g_if_eq C (a := 1) (tgt := 16) dJ0_charAt_5068e_4 (by decide) (by omega) (fun h => absurd h (by decide)) (fun h => ?_)
  refine g_aload_n C dJ0_charAt_5068e_7 (p := 0) (hi := rfl) (hv := rfl) ?_
  refine g_getE C (hS.2.2.1 i hi).2.2.1 dJ0_charAt_5068e_8 wf_J0_9 ?_
  refine g_iload_n C dJ0_charAt_5068e_11 (p := 1) (hi := rfl) (hv := rfl) ?_
  refine g_callS C dJ0_charAt_5068e_12 (kJ1_charAt (σ := σ) hap hE hcE hi h0 h1) mw_J1_charAt_3b067 wl_J0_495 (by decide) (by decide) rfl rfl (by simp [Value.category]) ?_
  exact hret _ _ _ _ dJ0_charAt_5068e_15 rfl rfl
end JD

set_option maxHeartbeats 4000000 in
set_option maxRecDepth 100000 in
theorem kX9_in {l : Launch} {K : Nat → ClassId} {D : va_G} {ad : Int → Nat} {E : gEnv} {σ : Mem} {v lo hi : Int} (hap : Apart ad 12) (hE : gEok E) (rv : R6 v) (rl : R6 lo) (rh : R6 hi) : CtI l K D ad 12 (cfM ad K) E yX9_in cX9_in 6 (some .boolean) 0 [.long (lI v), .long (lI lo), .long (lI hi)] σ (if lo ≤ v ∧ v ≤ hi then 1 else 0) σ := by
  refine ctI_of hap hE (by decide) rfl .boolean (nar_z (by split <;> simp)) (fun M C hn hret => ?_)
  have C : Good l K D ad 12 E 0 cX9_in RX9 M := C
  show G M ad 12 (cfM ad K) 0 [(0, .long (lI v)), (2, .long (lI lo)), (4, .long (lI hi))] [] σ
  refine g_lload_n C dX9_in_0 (p := 0) (hi := rfl) (hv := rfl) ?_
  refine g_lload_n C dX9_in_1 (p := 1) (hi := rfl) (hv := rfl) ?_
  refine g_lcmp C (by omega) (by omega) dX9_in_2 ?_
  refine g_if_lt C (tgt := 17) dX9_in_3 (by decide) (oCmp_R _ _) (fun h_1 => ?_) (fun h_1 => ?_)
  · replace h_1 := oCmp_lt.mp h_1
    refine g_iconst C dX9_in_17 ?_
    exact hret _ _ _ _ dX9_in_18 (by first | rfl | omega | ((repeat' split) <;> first | (exfalso; omega) | rfl | omega)) (by first | rfl | omega | ((repeat' split) <;> first | (exfalso; omega) | rfl | omega))
  · replace h_1 := oCmp_nlt.mp h_1
    refine g_lload_n C dX9_in_6 (p := 0) (hi := rfl) (hv := rfl) ?_
    refine g_lload C dX9_in_7 (p := 2) rfl ?_
    refine g_lcmp C (by omega) (by omega) dX9_in_9 ?_
    refine g_if_gt C (tgt := 17) dX9_in_10 (by decide) (oCmp_R _ _) (fun h_2 => ?_) (fun h_2 => ?_)
    · replace h_2 := oCmp_gt.mp h_2
      refine g_iconst C dX9_in_17 ?_
      exact hret _ _ _ _ dX9_in_18 (by first | rfl | omega | ((repeat' split) <;> first | (exfalso; omega) | rfl | omega)) (by first | rfl | omega | ((repeat' split) <;> first | (exfalso; omega) | rfl | omega))
    · replace h_2 := oCmp_ngt.mp h_2
      refine g_iconst C dX9_in_13 ?_
      refine g_goto C (tgt := 18) dX9_in_14 (by decide) ?_
      exact hret _ _ _ _ dX9_in_18 (by first | rfl | omega | ((repeat' split) <;> first | (exfalso; omega) | rfl | omega)) (by first | rfl | omega | ((repeat' split) <;> first | (exfalso; omega) | rfl | omega))
set_option maxHeartbeats 4000000 in
set_option maxRecDepth 100000 in
theorem kX9_finding {l : Launch} {K : Nat → ClassId} {D : va_G} {ad : Int → Nat} {E : gEnv} {σ : Mem} {k : Int} (hap : Apart ad 12) (hE : gEok E) : CtI l K D ad 12 (cfM ad K) E yX9_finding cX9_finding 2 (some .int) 0 [.ref (ad 0), .int (iI k)] σ (-1000010 - k) (mu σ 0 1 k) := by
  refine ctI_of hap hE (by decide) rfl .int (nar_i _) (fun M C hn hret => ?_)
  have C : Good l K D ad 12 E 0 cX9_finding RX9 M := C
  show G M ad 12 (cfM ad K) 0 [(0, .ref (ad 0)), (1, .int (iI k))] [] σ
  refine g_aload_n C dX9_finding_0 (p := 0) (hi := rfl) (hv := rfl) ?_
  refine g_iload_n C dX9_finding_1 (p := 1) (hi := rfl) (hv := rfl) ?_
  refine gm_p_status C dX9_finding_2 wf_X9_48 ?_
  refine g_ldc C (n := (-1000010)) wk_X9_51 (by decide +kernel) dX9_finding_5 ?_
  refine g_iload_n C dX9_finding_7 (p := 1) (hi := rfl) (hv := rfl) ?_
  refine g_isub C dX9_finding_8 ?_
  exact hret _ _ _ _ dX9_finding_9 (by first | rfl | omega | ((repeat' split) <;> first | (exfalso; omega) | rfl | omega)) (by first | rfl | omega | ((repeat' split) <;> first | (exfalso; omega) | rfl | omega))
set_option maxHeartbeats 4000000 in
set_option maxRecDepth 100000 in
theorem kX9_isRow {l : Launch} {K : Nat → ClassId} {D : va_G} {ad : Int → Nat} {E : gEnv} {σ : Mem} {r : Int} (hap : Apart ad 12) (hE : gEok E) (hr : R3 r) : CtI l K D ad 12 (cfM ad K) E yX9_isRow cX9_isRow 1 (some .boolean) 1 [.int (iI r)] σ (if 0 ≤ r ∧ r ≤ 7 then 1 else 0) σ := by
  refine ctI_of hap hE (by decide) rfl .boolean (nar_z (by split <;> simp)) (fun M C hn hret => ?_)
  have C : Good l K D ad 12 E 1 cX9_isRow RX9 M := C
  show G M ad 12 (cfM ad K) 0 [(0, .int (iI r))] [] σ
  refine g_iload_n C dX9_isRow_0 (p := 0) (hi := rfl) (hv := rfl) ?_
  refine g_i2l C (by omega) dX9_isRow_1 ?_
  refine g_lconst C (z := 0) dX9_isRow_2 rfl ?_
  refine g_ldc2 C (n := 7) wk_X9_52 (by decide +kernel) dX9_isRow_3 ?_
  refine g_callS C dX9_isRow_6 (kX9_in (σ := σ) (v := r) (lo := 0) (hi := 7) hap hE (by first | assumption | omega | exact hr) (by first | assumption | omega | exact hr) (by first | assumption | omega | exact hr)) mw_X9_in wl_X9_54 (by decide) (by decide) rfl rfl (by simp [Value.category]) ?_
  exact hret _ _ _ _ dX9_isRow_9 (by first | rfl | omega | ((repeat' split) <;> first | (exfalso; omega) | rfl | omega)) (by first | rfl | omega | ((repeat' split) <;> first | (exfalso; omega) | rfl | omega))
set_option maxHeartbeats 4000000 in
set_option maxRecDepth 100000 in
theorem kX9_isSeed {l : Launch} {K : Nat → ClassId} {D : va_G} {ad : Int → Nat} {E : gEnv} {σ : Mem} {v : Int} (hap : Apart ad 12) (hE : gEok E) (hr : R3 v) : CtI l K D ad 12 (cfM ad K) E yX9_isSeed cX9_isSeed 1 (some .boolean) 1 [.int (iI v)] σ (if 1 ≤ v ∧ v ≤ 999999 then 1 else 0) σ := by
  refine ctI_of hap hE (by decide) rfl .boolean (nar_z (by split <;> simp)) (fun M C hn hret => ?_)
  have C : Good l K D ad 12 E 1 cX9_isSeed RX9 M := C
  show G M ad 12 (cfM ad K) 0 [(0, .int (iI v))] [] σ
  refine g_iload_n C dX9_isSeed_0 (p := 0) (hi := rfl) (hv := rfl) ?_
  refine g_i2l C (by omega) dX9_isSeed_1 ?_
  refine g_lconst C (z := 1) dX9_isSeed_2 rfl ?_
  refine g_ldc2 C (n := 999999) wk_X9_174 (by decide +kernel) dX9_isSeed_3 ?_
  refine g_callS C dX9_isSeed_6 (kX9_in (σ := σ) (v := v) (lo := 1) (hi := 999999) hap hE (by first | assumption | omega | exact hr) (by first | assumption | omega | exact hr) (by first | assumption | omega | exact hr)) mw_X9_in wl_X9_54 (by decide) (by decide) rfl rfl (by simp [Value.category]) ?_
  exact hret _ _ _ _ dX9_isSeed_9 (by first | rfl | omega | ((repeat' split) <;> first | (exfalso; omega) | rfl | omega)) (by first | rfl | omega | ((repeat' split) <;> first | (exfalso; omega) | rfl | omega))
set_option maxHeartbeats 4000000 in
set_option maxRecDepth 100000 in
theorem kX9_isThere {l : Launch} {K : Nat → ClassId} {D : va_G} {ad : Int → Nat} {E : gEnv} {σ : Mem} (hap : Apart ad 12) (hE : gEok E) (hp : 0 ≤ σ 4 2 ∧ σ 4 2 ≤ 4) : CtI l K D ad 12 (cfM ad K) E yX9_isThere cX9_isThere 1 (some .boolean) 0 [.ref (ad 0)] σ (if 0 < σ 4 2 then 1 else 0) σ := by
  refine ctI_of hap hE (by decide) rfl .boolean (nar_z (by split <;> simp)) (fun M C hn hret => ?_)
  have C : Good l K D ad 12 E 0 cX9_isThere RX9 M := C
  show G M ad 12 (cfM ad K) 0 [(0, .ref (ad 0))] [] σ
  refine g_aload_n C dX9_isThere_0 (p := 0) (hi := rfl) (hv := rfl) ?_
  refine gm_g_town C dX9_isThere_1 wf_X9_19 ?_
  refine g_iconst C dX9_isThere_4 ?_
  refine gm_l_town C dX9_isThere_5 (by omega) (by omega) ?_
  refine g_if_le C (tgt := 13) dX9_isThere_6 (by decide) (by omega) (fun h_1 => ?_) (fun h_1 => ?_)
  · refine g_iconst C dX9_isThere_13 ?_
    exact hret _ _ _ _ dX9_isThere_14 (by first | rfl | omega | ((repeat' split) <;> first | (exfalso; omega) | rfl | omega)) (by first | rfl | omega | ((repeat' split) <;> first | (exfalso; omega) | rfl | omega))
  · refine g_iconst C dX9_isThere_9 ?_
    refine g_goto C (tgt := 14) dX9_isThere_10 (by decide) ?_
    exact hret _ _ _ _ dX9_isThere_14 (by first | rfl | omega | ((repeat' split) <;> first | (exfalso; omega) | rfl | omega)) (by first | rfl | omega | ((repeat' split) <;> first | (exfalso; omega) | rfl | omega))
set_option maxHeartbeats 4000000 in
set_option maxRecDepth 100000 in
theorem kX9_isPerson {l : Launch} {K : Nat → ClassId} {D : va_G} {ad : Int → Nat} {E : gEnv} {σ : Mem} {p : Int} (hap : Apart ad 12) (hE : gEok E) (hp : 0 ≤ σ 4 2 ∧ σ 4 2 ≤ 4) (rp : R3 p) : CtI l K D ad 12 (cfM ad K) E yX9_isPerson cX9_isPerson 2 (some .boolean) 1 [.ref (ad 0), .int (iI p)] σ (if 0 ≤ p ∧ p ≤ σ 4 2 - 1 then 1 else 0) σ := by
  refine ctI_of hap hE (by decide) rfl .boolean (nar_z (by split <;> simp)) (fun M C hn hret => ?_)
  have C : Good l K D ad 12 E 1 cX9_isPerson RX9 M := C
  show G M ad 12 (cfM ad K) 0 [(0, .ref (ad 0)), (1, .int (iI p))] [] σ
  refine g_iload_n C dX9_isPerson_0 (p := 1) (hi := rfl) (hv := rfl) ?_
  refine g_i2l C (by omega) dX9_isPerson_1 ?_
  refine g_lconst C (z := 0) dX9_isPerson_2 rfl ?_
  refine g_aload_n C dX9_isPerson_3 (p := 0) (hi := rfl) (hv := rfl) ?_
  refine gm_g_town C dX9_isPerson_4 wf_X9_19 ?_
  refine g_iconst C dX9_isPerson_7 ?_
  refine gm_l_town C dX9_isPerson_8 (by omega) (by omega) ?_
  refine g_iconst C dX9_isPerson_9 ?_
  refine g_isub C dX9_isPerson_10 ?_
  refine g_i2l C (by omega) dX9_isPerson_11 ?_
  refine g_callS C dX9_isPerson_12 (kX9_in (σ := σ) (v := p) (lo := 0) (hi := (σ 4 2) - 1) hap hE (by first | assumption | omega | exact hp | exact rp) (by first | assumption | omega | exact hp | exact rp) (by first | assumption | omega | exact hp | exact rp)) mw_X9_in wl_X9_54 (by decide) (by decide) rfl rfl (by simp [Value.category]) ?_
  exact hret _ _ _ _ dX9_isPerson_15 (by first | rfl | omega | ((repeat' split) <;> first | (exfalso; omega) | rfl | omega)) (by first | rfl | omega | ((repeat' split) <;> first | (exfalso; omega) | rfl | omega))
set_option maxHeartbeats 4000000 in
set_option maxRecDepth 100000 in
theorem kX9_isThing {l : Launch} {K : Nat → ClassId} {D : va_G} {ad : Int → Nat} {E : gEnv} {σ : Mem} {t : Int} (hap : Apart ad 12) (hE : gEok E) (ht3 : 0 ≤ σ 4 3 ∧ σ 4 3 ≤ 5) (rt : R3 t) : CtI l K D ad 12 (cfM ad K) E yX9_isThing cX9_isThing 2 (some .boolean) 1 [.ref (ad 0), .int (iI t)] σ (if 0 ≤ t ∧ t ≤ σ 4 3 - 1 then 1 else 0) σ := by
  refine ctI_of hap hE (by decide) rfl .boolean (nar_z (by split <;> simp)) (fun M C hn hret => ?_)
  have C : Good l K D ad 12 E 1 cX9_isThing RX9 M := C
  show G M ad 12 (cfM ad K) 0 [(0, .ref (ad 0)), (1, .int (iI t))] [] σ
  refine g_iload_n C dX9_isThing_0 (p := 1) (hi := rfl) (hv := rfl) ?_
  refine g_i2l C (by omega) dX9_isThing_1 ?_
  refine g_lconst C (z := 0) dX9_isThing_2 rfl ?_
  refine g_aload_n C dX9_isThing_3 (p := 0) (hi := rfl) (hv := rfl) ?_
  refine gm_g_town C dX9_isThing_4 wf_X9_19 ?_
  refine g_iconst C dX9_isThing_7 ?_
  refine gm_l_town C dX9_isThing_8 (by omega) (by omega) ?_
  refine g_iconst C dX9_isThing_9 ?_
  refine g_isub C dX9_isThing_10 ?_
  refine g_i2l C (by omega) dX9_isThing_11 ?_
  refine g_callS C dX9_isThing_12 (kX9_in (σ := σ) (v := t) (lo := 0) (hi := (σ 4 3) - 1) hap hE (by first | assumption | omega | exact ht3 | exact rt) (by first | assumption | omega | exact ht3 | exact rt) (by first | assumption | omega | exact ht3 | exact rt)) mw_X9_in wl_X9_54 (by decide) (by decide) rfl rfl (by simp [Value.category]) ?_
  exact hret _ _ _ _ dX9_isThing_15 (by first | rfl | omega | ((repeat' split) <;> first | (exfalso; omega) | rfl | omega)) (by first | rfl | omega | ((repeat' split) <;> first | (exfalso; omega) | rfl | omega))
set_option maxHeartbeats 4000000 in
set_option maxRecDepth 100000 in
theorem kX9_of {l : Launch} {K : Nat → ClassId} {D : va_G} {ad : Int → Nat} {E : gEnv} {σ : Mem} {t w : Int} (hap : Apart ad 12) (hE : gEok E) (htt : 0 ≤ t ∧ t < 5) (hw : 0 ≤ w ∧ w < 6) : CtI l K D ad 12 (cfM ad K) E yX9_of cX9_of 3 (some .int) 0 [.ref (ad 0), .int (iI t), .int (iI w)] σ (σ 4 (12 + 6 * t + w)) σ := by
  refine ctI_of hap hE (by decide) rfl .int (nar_i _) (fun M C hn hret => ?_)
  have C : Good l K D ad 12 E 0 cX9_of RX9 M := C
  show G M ad 12 (cfM ad K) 0 [(0, .ref (ad 0)), (1, .int (iI t)), (2, .int (iI w))] [] σ
  refine g_aload_n C dX9_of_0 (p := 0) (hi := rfl) (hv := rfl) ?_
  refine gm_g_town C dX9_of_1 wf_X9_19 ?_
  refine (g_bipush C dX9_of_4 (by decide)) ?_
  refine (g_bipush C dX9_of_6 (by decide)) ?_
  refine g_iload_n C dX9_of_8 (p := 1) (hi := rfl) (hv := rfl) ?_
  refine g_imul C dX9_of_9 ?_
  refine g_iadd C dX9_of_10 ?_
  refine g_iload_n C dX9_of_11 (p := 2) (hi := rfl) (hv := rfl) ?_
  refine g_iadd C dX9_of_12 ?_
  refine gm_l_town C dX9_of_13 (by omega) (by omega) ?_
  exact hret _ _ _ _ dX9_of_14 (by first | rfl | omega | ((repeat' split) <;> first | (exfalso; omega) | rfl | omega)) (by first | rfl | omega | ((repeat' split) <;> first | (exfalso; omega) | rfl | omega))
set_option maxHeartbeats 4000000 in
set_option maxRecDepth 100000 in
theorem kX9_worthOf {l : Launch} {K : Nat → ClassId} {D : va_G} {ad : Int → Nat} {E : gEnv} {σ : Mem} {t p : Int} (hap : Apart ad 12) (hE : gEok E) (htt : 0 ≤ t ∧ t < 5) (hpp : 0 ≤ p ∧ p < 4) : CtI l K D ad 12 (cfM ad K) E yX9_worthOf cX9_worthOf 3 (some .int) 1 [.ref (ad 0), .int (iI t), .int (iI p)] σ (woF (σ 4) t p) σ := by
  refine ctI_of hap hE (by decide) rfl .int (nar_i _) (fun M C hn hret => ?_)
  have C : Good l K D ad 12 E 1 cX9_worthOf RX9 M := C
  show G M ad 12 (cfM ad K) 0 [(0, .ref (ad 0)), (1, .int (iI t)), (2, .int (iI p))] [] σ
  refine g_aload_n C dX9_worthOf_0 (p := 0) (hi := rfl) (hv := rfl) ?_
  refine g_iload_n C dX9_worthOf_1 (p := 1) (hi := rfl) (hv := rfl) ?_
  refine g_iload_n C dX9_worthOf_2 (p := 2) (hi := rfl) (hv := rfl) ?_
  refine gm_call C dX9_worthOf_3 (kX9_of (σ := σ) (t := t) (w := p) hap hE (by first | assumption | omega | exact htt | exact hpp) (by first | assumption | omega | exact htt | exact hpp)) mw_X9_of wl_X9_176 (by decide) (by decide) rfl rfl (by simp [Value.category]) ?_
  refine (g_bipush C dX9_worthOf_6 (by decide)) ?_
  refine g_isub C dX9_worthOf_8 ?_
  refine g_iconst C dX9_worthOf_9 ?_
  refine g_aload_n C dX9_worthOf_10 (p := 0) (hi := rfl) (hv := rfl) ?_
  refine g_iload_n C dX9_worthOf_11 (p := 1) (hi := rfl) (hv := rfl) ?_
  refine g_iconst C dX9_worthOf_12 ?_
  refine gm_call C dX9_worthOf_13 (kX9_of (σ := σ) (t := t) (w := 5) hap hE (by first | assumption | omega | exact htt | exact hpp) (by first | assumption | omega | exact htt | exact hpp)) mw_X9_of wl_X9_176 (by decide) (by decide) rfl rfl (by simp [Value.category]) ?_
  refine g_imul C dX9_worthOf_16 ?_
  refine g_isub C dX9_worthOf_17 ?_
  exact hret _ _ _ _ dX9_worthOf_18 (by first | rfl | omega | (unfold woF; (repeat' split) <;> first | (exfalso; omega) | rfl | omega)) (by first | rfl | omega | (unfold woF; (repeat' split) <;> first | (exfalso; omega) | rfl | omega))
set_option maxHeartbeats 4000000 in
set_option maxRecDepth 100000 in
theorem kX9_ownOf {l : Launch} {K : Nat → ClassId} {D : va_G} {ad : Int → Nat} {E : gEnv} {σ : Mem} {t p : Int} (hap : Apart ad 12) (hE : gEok E) (hT : TW (σ 4)) (htt : 0 ≤ t ∧ t < 5) (hpp : 0 ≤ p ∧ p < 4) : CtI l K D ad 12 (cfM ad K) E yX9_ownOf cX9_ownOf 4 (some .int) 2 [.ref (ad 0), .int (iI t), .int (iI p)] σ (owF (σ 4) t p) σ := by
  have hw := woF_in hT htt hpp
  have hk := hT.2.2.2.2.1 p hpp.1 hpp.2
  have hcl : ∀ x : Int, clF x = if x < 0 then 0 else if 5 < x then 5 else x := fun _ => rfl
  have hr3 := tdiv_R3 (a := 30 + woF (σ 4) t p) (b := 10) (by omega) (by omega)
  refine ctI_of hap hE (by decide) rfl .int (nar_i _) (fun M C hn hret => ?_)
  have C : Good l K D ad 12 E 2 cX9_ownOf RX9 M := C
  show G M ad 12 (cfM ad K) 0 [(0, .ref (ad 0)), (1, .int (iI t)), (2, .int (iI p))] [] σ
  refine (g_bipush C dX9_ownOf_0 (by decide)) ?_
  refine g_aload_n C dX9_ownOf_2 (p := 0) (hi := rfl) (hv := rfl) ?_
  refine g_iload_n C dX9_ownOf_3 (p := 1) (hi := rfl) (hv := rfl) ?_
  refine g_iload_n C dX9_ownOf_4 (p := 2) (hi := rfl) (hv := rfl) ?_
  refine gm_call C dX9_ownOf_5 (kX9_worthOf (σ := σ) (t := t) (p := p) hap hE (by first | assumption | omega | exact hT | exact htt | exact hpp) (by first | assumption | omega | exact hT | exact htt | exact hpp)) mw_X9_worthOf wl_X9_179 (by decide) (by decide) rfl rfl (by simp [Value.category]) ?_
  refine g_iadd C dX9_ownOf_8 ?_
  refine (g_bipush C dX9_ownOf_9 (by decide)) ?_
  refine g_idiv C (by omega) (by omega) (by omega) dX9_ownOf_11 ?_
  refine g_istore_n C hn dX9_ownOf_12 rfl rfl rfl ?_
  refine g_iload_n C dX9_ownOf_13 (p := 0) (hi := rfl) (hv := rfl) ?_
  refine g_if_ge C (tgt := 21) dX9_ownOf_14 (by decide) (by omega) (fun h_1 => ?_) (fun h_1 => ?_)
  · refine g_iload_n C dX9_ownOf_21 (p := 0) (hi := rfl) (hv := rfl) ?_
    refine g_iconst C dX9_ownOf_22 ?_
    refine g_icmp_le C (tgt := 30) dX9_ownOf_23 (by decide) (by omega) (by omega) (fun h_2 => ?_) (fun h_2 => ?_)
    · refine g_iload_n C dX9_ownOf_30 (p := 0) (hi := rfl) (hv := rfl) ?_
      refine g_istore_n C hn dX9_ownOf_31 rfl rfl rfl ?_
      refine g_aload_n C dX9_ownOf_32 (p := 1) (hi := rfl) (hv := rfl) ?_
      refine gm_g_town C dX9_ownOf_33 wf_X9_19 ?_
      refine g_iconst C dX9_ownOf_36 ?_
      refine g_iload_n C dX9_ownOf_37 (p := 3) (hi := rfl) (hv := rfl) ?_
      refine g_iadd C dX9_ownOf_38 ?_
      refine gm_l_town C dX9_ownOf_39 (by omega) (by omega) ?_
      rcases (show σ 4 (4 + p) = 2 ∨ σ 4 (4 + p) = 3 ∨ σ 4 (4 + p) = 4 ∨ σ 4 (4 + p) = 5 ∨ (σ 4 (4 + p) < 2 ∨ 5 < σ 4 (4 + p)) from by omega) with h_3 | h_3 | h_3 | h_3 | h_3
      · refine g_swIn C 2 (tgt := 72) dX9_ownOf_40 (by omega) h_3 (by decide) (by decide) rfl (by decide) ?_
        refine g_iconst C dX9_ownOf_72 ?_
        refine g_iload_n C dX9_ownOf_73 (p := 0) (hi := rfl) (hv := rfl) ?_
        refine g_isub C dX9_ownOf_74 ?_
        exact hret _ _ _ _ dX9_ownOf_75 (by unfold owF; rw [hcl]; (repeat' split) <;> first | rfl | omega) (by first | rfl | omega | ((repeat' split) <;> first | (exfalso; omega) | rfl | omega))
      · refine g_swIn C 3 (tgt := 76) dX9_ownOf_40 (by omega) h_3 (by decide) (by decide) rfl (by decide) ?_
        refine g_iload_n C dX9_ownOf_76 (p := 0) (hi := rfl) (hv := rfl) ?_
        refine g_if_ne C (tgt := 84) dX9_ownOf_77 (by decide) (by omega) (fun h_4 => ?_) (fun h_4 => ?_)
        · refine g_iload_n C dX9_ownOf_84 (p := 0) (hi := rfl) (hv := rfl) ?_
          refine g_iconst C dX9_ownOf_85 ?_
          refine g_isub C dX9_ownOf_86 ?_
          exact hret _ _ _ _ dX9_ownOf_87 (by unfold owF; rw [hcl]; (repeat' split) <;> first | rfl | omega) (by first | rfl | omega | ((repeat' split) <;> first | (exfalso; omega) | rfl | omega))
        · refine g_iconst C dX9_ownOf_80 ?_
          refine g_goto C (tgt := 87) dX9_ownOf_81 (by decide) ?_
          exact hret _ _ _ _ dX9_ownOf_87 (by unfold owF; rw [hcl]; (repeat' split) <;> first | rfl | omega) (by first | rfl | omega | ((repeat' split) <;> first | (exfalso; omega) | rfl | omega))
      · refine g_swIn C 4 (tgt := 88) dX9_ownOf_40 (by omega) h_3 (by decide) (by decide) rfl (by decide) ?_
        refine g_iload_n C dX9_ownOf_88 (p := 0) (hi := rfl) (hv := rfl) ?_
        refine g_iconst C dX9_ownOf_89 ?_
        refine g_icmp_ge C (tgt := 97) dX9_ownOf_90 (by decide) (by omega) (by omega) (fun h_5 => ?_) (fun h_5 => ?_)
        · refine g_iload_n C dX9_ownOf_97 (p := 0) (hi := rfl) (hv := rfl) ?_
          exact hret _ _ _ _ dX9_ownOf_98 (by unfold owF; rw [hcl]; (repeat' split) <;> first | rfl | omega) (by first | rfl | omega | ((repeat' split) <;> first | (exfalso; omega) | rfl | omega))
        · refine g_iconst C dX9_ownOf_93 ?_
          refine g_goto C (tgt := 98) dX9_ownOf_94 (by decide) ?_
          exact hret _ _ _ _ dX9_ownOf_98 (by unfold owF; rw [hcl]; (repeat' split) <;> first | rfl | omega) (by first | rfl | omega | ((repeat' split) <;> first | (exfalso; omega) | rfl | omega))
      · refine g_swIn C 5 (tgt := 99) dX9_ownOf_40 (by omega) h_3 (by decide) (by decide) rfl (by decide) ?_
        refine g_iconst C dX9_ownOf_99 ?_
        exact hret _ _ _ _ dX9_ownOf_100 (by unfold owF; rw [hcl]; (repeat' split) <;> first | rfl | omega) (by first | rfl | omega | ((repeat' split) <;> first | (exfalso; omega) | rfl | omega))
      · refine g_swOut C (tgt := 101) dX9_ownOf_40 (by omega) h_3 (by decide) ?_
        refine g_iload_n C dX9_ownOf_101 (p := 0) (hi := rfl) (hv := rfl) ?_
        exact hret _ _ _ _ dX9_ownOf_102 (by unfold owF; rw [hcl]; (repeat' split) <;> first | rfl | omega) (by first | rfl | omega | ((repeat' split) <;> first | (exfalso; omega) | rfl | omega))
    · refine g_iconst C dX9_ownOf_26 ?_
      refine g_goto C (tgt := 31) dX9_ownOf_27 (by decide) ?_
      refine g_istore_n C hn dX9_ownOf_31 rfl rfl rfl ?_
      refine g_aload_n C dX9_ownOf_32 (p := 1) (hi := rfl) (hv := rfl) ?_
      refine gm_g_town C dX9_ownOf_33 wf_X9_19 ?_
      refine g_iconst C dX9_ownOf_36 ?_
      refine g_iload_n C dX9_ownOf_37 (p := 3) (hi := rfl) (hv := rfl) ?_
      refine g_iadd C dX9_ownOf_38 ?_
      refine gm_l_town C dX9_ownOf_39 (by omega) (by omega) ?_
      rcases (show σ 4 (4 + p) = 2 ∨ σ 4 (4 + p) = 3 ∨ σ 4 (4 + p) = 4 ∨ σ 4 (4 + p) = 5 ∨ (σ 4 (4 + p) < 2 ∨ 5 < σ 4 (4 + p)) from by omega) with h_6 | h_6 | h_6 | h_6 | h_6
      · refine g_swIn C 2 (tgt := 72) dX9_ownOf_40 (by omega) h_6 (by decide) (by decide) rfl (by decide) ?_
        refine g_iconst C dX9_ownOf_72 ?_
        refine g_iload_n C dX9_ownOf_73 (p := 0) (hi := rfl) (hv := rfl) ?_
        refine g_isub C dX9_ownOf_74 ?_
        exact hret _ _ _ _ dX9_ownOf_75 (by unfold owF; rw [hcl]; (repeat' split) <;> first | rfl | omega) (by first | rfl | omega | ((repeat' split) <;> first | (exfalso; omega) | rfl | omega))
      · refine g_swIn C 3 (tgt := 76) dX9_ownOf_40 (by omega) h_6 (by decide) (by decide) rfl (by decide) ?_
        refine g_iload_n C dX9_ownOf_76 (p := 0) (hi := rfl) (hv := rfl) ?_
        refine g_if_ne C (tgt := 84) dX9_ownOf_77 (by decide) (by omega) (fun h_7 => ?_) (fun h_7 => ?_)
        · refine g_iload_n C dX9_ownOf_84 (p := 0) (hi := rfl) (hv := rfl) ?_
          refine g_iconst C dX9_ownOf_85 ?_
          refine g_isub C dX9_ownOf_86 ?_
          exact hret _ _ _ _ dX9_ownOf_87 (by unfold owF; rw [hcl]; (repeat' split) <;> first | rfl | omega) (by first | rfl | omega | ((repeat' split) <;> first | (exfalso; omega) | rfl | omega))
        · exact absurd h_7 (by decide)
      · refine g_swIn C 4 (tgt := 88) dX9_ownOf_40 (by omega) h_6 (by decide) (by decide) rfl (by decide) ?_
        refine g_iload_n C dX9_ownOf_88 (p := 0) (hi := rfl) (hv := rfl) ?_
        refine g_iconst C dX9_ownOf_89 ?_
        refine g_icmp_ge C (tgt := 97) dX9_ownOf_90 (by decide) (by omega) (by omega) (fun h_8 => ?_) (fun h_8 => ?_)
        · refine g_iload_n C dX9_ownOf_97 (p := 0) (hi := rfl) (hv := rfl) ?_
          exact hret _ _ _ _ dX9_ownOf_98 (by unfold owF; rw [hcl]; (repeat' split) <;> first | rfl | omega) (by first | rfl | omega | ((repeat' split) <;> first | (exfalso; omega) | rfl | omega))
        · exact absurd h_8 (by decide)
      · refine g_swIn C 5 (tgt := 99) dX9_ownOf_40 (by omega) h_6 (by decide) (by decide) rfl (by decide) ?_
        refine g_iconst C dX9_ownOf_99 ?_
        exact hret _ _ _ _ dX9_ownOf_100 (by unfold owF; rw [hcl]; (repeat' split) <;> first | rfl | omega) (by first | rfl | omega | ((repeat' split) <;> first | (exfalso; omega) | rfl | omega))
      · refine g_swOut C (tgt := 101) dX9_ownOf_40 (by omega) h_6 (by decide) ?_
        refine g_iload_n C dX9_ownOf_101 (p := 0) (hi := rfl) (hv := rfl) ?_
        exact hret _ _ _ _ dX9_ownOf_102 (by unfold owF; rw [hcl]; (repeat' split) <;> first | rfl | omega) (by first | rfl | omega | ((repeat' split) <;> first | (exfalso; omega) | rfl | omega))
  · refine g_iconst C dX9_ownOf_17 ?_
    refine g_goto C (tgt := 31) dX9_ownOf_18 (by decide) ?_
    refine g_istore_n C hn dX9_ownOf_31 rfl rfl rfl ?_
    refine g_aload_n C dX9_ownOf_32 (p := 1) (hi := rfl) (hv := rfl) ?_
    refine gm_g_town C dX9_ownOf_33 wf_X9_19 ?_
    refine g_iconst C dX9_ownOf_36 ?_
    refine g_iload_n C dX9_ownOf_37 (p := 3) (hi := rfl) (hv := rfl) ?_
    refine g_iadd C dX9_ownOf_38 ?_
    refine gm_l_town C dX9_ownOf_39 (by omega) (by omega) ?_
    rcases (show σ 4 (4 + p) = 2 ∨ σ 4 (4 + p) = 3 ∨ σ 4 (4 + p) = 4 ∨ σ 4 (4 + p) = 5 ∨ (σ 4 (4 + p) < 2 ∨ 5 < σ 4 (4 + p)) from by omega) with h_9 | h_9 | h_9 | h_9 | h_9
    · refine g_swIn C 2 (tgt := 72) dX9_ownOf_40 (by omega) h_9 (by decide) (by decide) rfl (by decide) ?_
      refine g_iconst C dX9_ownOf_72 ?_
      refine g_iload_n C dX9_ownOf_73 (p := 0) (hi := rfl) (hv := rfl) ?_
      refine g_isub C dX9_ownOf_74 ?_
      exact hret _ _ _ _ dX9_ownOf_75 (by unfold owF; rw [hcl]; (repeat' split) <;> first | rfl | omega) (by first | rfl | omega | ((repeat' split) <;> first | (exfalso; omega) | rfl | omega))
    · refine g_swIn C 3 (tgt := 76) dX9_ownOf_40 (by omega) h_9 (by decide) (by decide) rfl (by decide) ?_
      refine g_iload_n C dX9_ownOf_76 (p := 0) (hi := rfl) (hv := rfl) ?_
      refine g_if_ne C (tgt := 84) dX9_ownOf_77 (by decide) (by omega) (fun h_10 => ?_) (fun h_10 => ?_)
      · exact absurd h_10 (by decide)
      · refine g_iconst C dX9_ownOf_80 ?_
        refine g_goto C (tgt := 87) dX9_ownOf_81 (by decide) ?_
        exact hret _ _ _ _ dX9_ownOf_87 (by unfold owF; rw [hcl]; (repeat' split) <;> first | rfl | omega) (by first | rfl | omega | ((repeat' split) <;> first | (exfalso; omega) | rfl | omega))
    · refine g_swIn C 4 (tgt := 88) dX9_ownOf_40 (by omega) h_9 (by decide) (by decide) rfl (by decide) ?_
      refine g_iload_n C dX9_ownOf_88 (p := 0) (hi := rfl) (hv := rfl) ?_
      refine g_iconst C dX9_ownOf_89 ?_
      refine g_icmp_ge C (tgt := 97) dX9_ownOf_90 (by decide) (by omega) (by omega) (fun h_11 => ?_) (fun h_11 => ?_)
      · exact absurd h_11 (by decide)
      · refine g_iconst C dX9_ownOf_93 ?_
        refine g_goto C (tgt := 98) dX9_ownOf_94 (by decide) ?_
        exact hret _ _ _ _ dX9_ownOf_98 (by unfold owF; rw [hcl]; (repeat' split) <;> first | rfl | omega) (by first | rfl | omega | ((repeat' split) <;> first | (exfalso; omega) | rfl | omega))
    · refine g_swIn C 5 (tgt := 99) dX9_ownOf_40 (by omega) h_9 (by decide) (by decide) rfl (by decide) ?_
      refine g_iconst C dX9_ownOf_99 ?_
      exact hret _ _ _ _ dX9_ownOf_100 (by unfold owF; rw [hcl]; (repeat' split) <;> first | rfl | omega) (by first | rfl | omega | ((repeat' split) <;> first | (exfalso; omega) | rfl | omega))
    · refine g_swOut C (tgt := 101) dX9_ownOf_40 (by omega) h_9 (by decide) ?_
      refine g_iload_n C dX9_ownOf_101 (p := 0) (hi := rfl) (hv := rfl) ?_
      exact hret _ _ _ _ dX9_ownOf_102 (by unfold owF; rw [hcl]; (repeat' split) <;> first | rfl | omega) (by first | rfl | omega | ((repeat' split) <;> first | (exfalso; omega) | rfl | omega))
set_option maxHeartbeats 4000000 in
set_option maxRecDepth 100000 in
theorem kX9_layOwn {l : Launch} {K : Nat → ClassId} {D : va_G} {ad : Int → Nat} {E : gEnv} {σ : Mem} {t : Int} (hap : Apart ad 12) (hE : gEok E) (hT : TW (σ 4)) (htt : 0 ≤ t ∧ t < 5) : CtV l K D ad 12 (cfM ad K) E yX9_layOwn cX9_layOwn 3 none 3 [.ref (ad 0), .int (iI t)] σ (mr σ 8 (over (σ 8) (fun p => owF (σ 4) t p) 0 (σ 4 2))) := by
  have hp : 0 ≤ σ 4 2 ∧ σ 4 2 ≤ 4 := hT.2.2.1
  refine ctV_of hap hE (by decide) rfl (fun M C hn hret => ?_)
  have C : Good l K D ad 12 E 3 cX9_layOwn RX9 M := C
  show G M ad 12 (cfM ad K) 0 [(0, .ref (ad 0)), (1, .int (iI t))] [] σ
  refine g_iconst C dX9_layOwn_0 ?_
  refine g_istore_n C hn dX9_layOwn_1 rfl rfl rfl ?_
  have L2 : ∀ i : Nat, i ≤ ((σ 4 2).toNat) → ∀ (x2 : Int), ∀ (τ2 : Mem), x2 = (i : Int) → τ2 = (mr σ 8 (over (σ 8) (fun p => owF (σ 4) t p) 0 (i : Int))) → G M ad 12 (cfM ad K) 2 [(0, .ref (ad 0)), (1, .int (iI t)), (2, .int (iI x2))] [] τ2 := by
    refine loopUp ((σ 4 2).toNat) ?_
    rintro i hi ihi x2 τ2 rfl rfl
    refine g_iload_n C dX9_layOwn_2 (p := 2) (hi := rfl) (hv := rfl) ?_
    refine g_aload_n C dX9_layOwn_3 (p := 0) (hi := rfl) (hv := rfl) ?_
    refine gm_g_town C dX9_layOwn_4 wf_X9_19 ?_
    refine g_iconst C dX9_layOwn_7 ?_
    refine gm_l_town C dX9_layOwn_8 (by omega) (by omega) ?_
    refine g_cI (b := (σ 4 2)) (by first | rfl | (rw [mr_app, if_pos rfl]; exact over_out (by omega)) | simp [mu_app, mr_app]) ?_
    refine g_icmp_ge C (tgt := 30) dX9_layOwn_9 (by decide) (by omega) (by omega) (fun h_1 => ?_) (fun h_1 => ?_)
    · have hiN : i = ((σ 4 2).toNat) := by omega
      exact hret _ _ _ dX9_layOwn_30 (by (try subst hiN); rw [show ((σ 4 2).toNat : Int) = σ 4 2 by omega])
    · refine g_aload_n C dX9_layOwn_12 (p := 0) (hi := rfl) (hv := rfl) ?_
      refine gm_g_says C dX9_layOwn_13 wf_X9_31 ?_
      refine g_iload_n C dX9_layOwn_16 (p := 2) (hi := rfl) (hv := rfl) ?_
      refine g_aload_n C dX9_layOwn_17 (p := 0) (hi := rfl) (hv := rfl) ?_
      refine g_iload_n C dX9_layOwn_18 (p := 1) (hi := rfl) (hv := rfl) ?_
      refine g_iload_n C dX9_layOwn_19 (p := 2) (hi := rfl) (hv := rfl) ?_
      refine gm_call C dX9_layOwn_20 (kX9_ownOf (σ := (mr σ 8 (over (σ 8) (fun p => owF (σ 4) t p) 0 (i : Int)))) (t := t) (p := (i : Int)) hap hE (by first | assumption | omega | exact hT | exact htt | exact hT) (by first | assumption | omega | exact hT | exact htt | exact hT) (by first | assumption | omega | exact hT | exact htt | exact hT)) mw_X9_ownOf wl_X9_182 (by decide) (by decide) rfl rfl (by simp [Value.category]) ?_
      refine g_cI (b := (owF (σ 4) t (i : Int))) (by first | rfl | (congr 1 <;> first | rfl | exact over_out (by omega)) | (congr 2 <;> first | rfl | exact over_out (by omega)) | simp [mu_app, mr_app]) ?_
      refine gm_s_says C dX9_layOwn_23 (by omega) (by omega) ?_
      refine g_iinc C hn dX9_layOwn_24 (p := 2) rfl rfl rfl ?_
      refine g_goto C (tgt := 2) dX9_layOwn_27 (by decide) ?_
      refine g_sub [1, 2, 0] rfl ?_
      exact ihi (by omega) _ _ (by first | rfl | omega) (by exact over_step (by omega) (by omega) rfl)
  refine g_sub [1, 2, 0] rfl ?_
  exact L2 0 (Nat.zero_le _) _ _ (by first | rfl | omega | simp) (by exact over_init (by omega))
set_option maxHeartbeats 4000000 in
set_option maxRecDepth 100000 in
theorem kX9_leastBut {l : Launch} {K : Nat → ClassId} {D : va_G} {ad : Int → Nat} {E : gEnv} {σ : Mem} {but : Int} (hap : Apart ad 12) (hE : gEok E) (hp : 0 ≤ σ 4 2 ∧ σ 4 2 ≤ 4) (hs : SW (σ 4 2) (σ 8)) (rb : R3 but) : CtI l K D ad 12 (cfM ad K) E yX9_leastBut cX9_leastBut 4 (some .int) 0 [.ref (ad 0), .int (iI but)] σ (leaB (σ 8) (σ 4 2) but) σ := by
  refine ctI_of hap hE (by decide) rfl .int (nar_i _) (fun M C hn hret => ?_)
  have C : Good l K D ad 12 E 0 cX9_leastBut RX9 M := C
  show G M ad 12 (cfM ad K) 0 [(0, .ref (ad 0)), (1, .int (iI but))] [] σ
  refine g_ldc C (n := (-1000000)) wk_X9_80 (by decide +kernel) dX9_leastBut_0 ?_
  refine g_istore_n C hn dX9_leastBut_2 rfl rfl rfl ?_
  refine g_iconst C dX9_leastBut_3 ?_
  refine g_istore_n C hn dX9_leastBut_4 rfl rfl rfl ?_
  have L5 : ∀ i : Nat, i ≤ ((σ 4 2).toNat) → ∀ (x2 x3 : Int), x2 = leaF (σ 8) but i → x3 = (i : Int) → G M ad 12 (cfM ad K) 5 [(0, .ref (ad 0)), (1, .int (iI but)), (2, .int (iI x2)), (3, .int (iI x3))] [] σ := by
    refine loopUp ((σ 4 2).toNat) ?_
    rintro i hi ihi x2 x3 rfl rfl
    have hle := leaF_in hs (but := but) i (by omega)
    try have hsi := hs (i : Int) (by omega) (by omega)
    refine g_iload_n C dX9_leastBut_5 (p := 3) (hi := rfl) (hv := rfl) ?_
    refine g_aload_n C dX9_leastBut_6 (p := 0) (hi := rfl) (hv := rfl) ?_
    refine gm_g_town C dX9_leastBut_7 wf_X9_19 ?_
    refine g_iconst C dX9_leastBut_10 ?_
    refine gm_l_town C dX9_leastBut_11 (by omega) (by omega) ?_
    refine g_icmp_ge C (tgt := 53) dX9_leastBut_12 (by decide) (by omega) (by omega) (fun h_1 => ?_) (fun h_1 => ?_)
    · have hiN : i = ((σ 4 2).toNat) := by omega
      refine g_iload_n C dX9_leastBut_53 (p := 2) (hi := rfl) (hv := rfl) ?_
      refine g_ldc C (n := (-1000000)) wk_X9_80 (by decide +kernel) dX9_leastBut_54 ?_
      refine g_icmp_ne C (tgt := 63) dX9_leastBut_56 (by decide) (by omega) (by omega) (fun h_2 => ?_) (fun h_2 => ?_)
      · refine g_iload_n C dX9_leastBut_63 (p := 2) (hi := rfl) (hv := rfl) ?_
        exact hret _ _ _ _ dX9_leastBut_64 (by (try subst hiN); unfold leaB; (repeat' split) <;> first | rfl | omega) (by (try subst hiN); first | rfl | omega | ((repeat' split) <;> first | (exfalso; omega) | rfl | omega))
      · refine g_iconst C dX9_leastBut_59 ?_
        refine g_goto C (tgt := 64) dX9_leastBut_60 (by decide) ?_
        exact hret _ _ _ _ dX9_leastBut_64 (by (try subst hiN); unfold leaB; (repeat' split) <;> first | rfl | omega) (by (try subst hiN); first | rfl | omega | ((repeat' split) <;> first | (exfalso; omega) | rfl | omega))
    · refine g_iload_n C dX9_leastBut_15 (p := 3) (hi := rfl) (hv := rfl) ?_
      refine g_iload_n C dX9_leastBut_16 (p := 1) (hi := rfl) (hv := rfl) ?_
      refine g_icmp_eq C (tgt := 45) dX9_leastBut_17 (by decide) (by omega) (by omega) (fun h_3 => ?_) (fun h_3 => ?_)
      · refine g_iload_n C dX9_leastBut_45 (p := 2) (hi := rfl) (hv := rfl) ?_
        refine g_istore_n C hn dX9_leastBut_46 rfl rfl rfl ?_
        refine g_iinc C hn dX9_leastBut_47 (p := 3) rfl rfl rfl ?_
        refine g_goto C (tgt := 5) dX9_leastBut_50 (by decide) ?_
        refine g_sub [2, 3, 1, 0] rfl ?_
        exact ihi (by omega) _ _ (by first | rfl | omega | (simp only [leaF]; (repeat' split) <;> omega)) (by first | rfl | omega | (simp only [leaF]; (repeat' split) <;> omega))
      · refine g_iload_n C dX9_leastBut_20 (p := 2) (hi := rfl) (hv := rfl) ?_
        refine g_ldc C (n := (-1000000)) wk_X9_80 (by decide +kernel) dX9_leastBut_21 ?_
        refine g_icmp_eq C (tgt := 36) dX9_leastBut_23 (by decide) (by omega) (by omega) (fun h_4 => ?_) (fun h_4 => ?_)
        · refine g_aload_n C dX9_leastBut_36 (p := 0) (hi := rfl) (hv := rfl) ?_
          refine gm_g_says C dX9_leastBut_37 wf_X9_31 ?_
          refine g_iload_n C dX9_leastBut_40 (p := 3) (hi := rfl) (hv := rfl) ?_
          refine gm_l_says C dX9_leastBut_41 (by omega) (by omega) ?_
          refine g_goto C (tgt := 46) dX9_leastBut_42 (by decide) ?_
          refine g_istore_n C hn dX9_leastBut_46 rfl rfl rfl ?_
          refine g_iinc C hn dX9_leastBut_47 (p := 3) rfl rfl rfl ?_
          refine g_goto C (tgt := 5) dX9_leastBut_50 (by decide) ?_
          refine g_sub [2, 3, 1, 0] rfl ?_
          exact ihi (by omega) _ _ (by first | rfl | omega | (simp only [leaF]; (repeat' split) <;> omega)) (by first | rfl | omega | (simp only [leaF]; (repeat' split) <;> omega))
        · refine g_aload_n C dX9_leastBut_26 (p := 0) (hi := rfl) (hv := rfl) ?_
          refine gm_g_says C dX9_leastBut_27 wf_X9_31 ?_
          refine g_iload_n C dX9_leastBut_30 (p := 3) (hi := rfl) (hv := rfl) ?_
          refine gm_l_says C dX9_leastBut_31 (by omega) (by omega) ?_
          refine g_iload_n C dX9_leastBut_32 (p := 2) (hi := rfl) (hv := rfl) ?_
          refine g_icmp_ge C (tgt := 45) dX9_leastBut_33 (by decide) (by have := hs (i : Int) (by omega) (by omega); omega) (by omega) (fun h_5 => ?_) (fun h_5 => ?_)
          · refine g_iload_n C dX9_leastBut_45 (p := 2) (hi := rfl) (hv := rfl) ?_
            refine g_istore_n C hn dX9_leastBut_46 rfl rfl rfl ?_
            refine g_iinc C hn dX9_leastBut_47 (p := 3) rfl rfl rfl ?_
            refine g_goto C (tgt := 5) dX9_leastBut_50 (by decide) ?_
            refine g_sub [2, 3, 1, 0] rfl ?_
            exact ihi (by omega) _ _ (by first | rfl | omega | (simp only [leaF]; (repeat' split) <;> omega)) (by first | rfl | omega | (simp only [leaF]; (repeat' split) <;> omega))
          · refine g_aload_n C dX9_leastBut_36 (p := 0) (hi := rfl) (hv := rfl) ?_
            refine gm_g_says C dX9_leastBut_37 wf_X9_31 ?_
            refine g_iload_n C dX9_leastBut_40 (p := 3) (hi := rfl) (hv := rfl) ?_
            refine gm_l_says C dX9_leastBut_41 (by omega) (by omega) ?_
            refine g_goto C (tgt := 46) dX9_leastBut_42 (by decide) ?_
            refine g_istore_n C hn dX9_leastBut_46 rfl rfl rfl ?_
            refine g_iinc C hn dX9_leastBut_47 (p := 3) rfl rfl rfl ?_
            refine g_goto C (tgt := 5) dX9_leastBut_50 (by decide) ?_
            refine g_sub [2, 3, 1, 0] rfl ?_
            exact ihi (by omega) _ _ (by first | rfl | omega | (simp only [leaF]; (repeat' split) <;> omega)) (by first | rfl | omega | (simp only [leaF]; (repeat' split) <;> omega))
  refine g_sub [2, 3, 1, 0] rfl ?_
  exact L5 0 (Nat.zero_le _) _ _ (by first | rfl | omega | simp) (by first | rfl | omega | simp)
set_option maxHeartbeats 4000000 in
set_option maxRecDepth 100000 in
theorem kX9_likeOnes {l : Launch} {K : Nat → ClassId} {D : va_G} {ad : Int → Nat} {E : gEnv} {σ : Mem} (hap : Apart ad 12) (hE : gEok E) (hp : 0 ≤ σ 4 2 ∧ σ 4 2 ≤ 4) (hs : SW (σ 4 2) (σ 8)) : CtI l K D ad 12 (cfM ad K) E yX9_likeOnes cX9_likeOnes 4 (some .int) 1 [.ref (ad 0)] σ (likO (σ 8) (σ 4 2)) σ := by
  have hlb := leaB_in hs hp (but := -1000000)
  refine ctI_of hap hE (by decide) rfl .int (nar_i _) (fun M C hn hret => ?_)
  have C : Good l K D ad 12 E 1 cX9_likeOnes RX9 M := C
  show G M ad 12 (cfM ad K) 0 [(0, .ref (ad 0))] [] σ
  refine g_aload_n C dX9_likeOnes_0 (p := 0) (hi := rfl) (hv := rfl) ?_
  refine g_ldc C (n := (-1000000)) wk_X9_80 (by decide +kernel) dX9_likeOnes_1 ?_
  refine gm_call C dX9_likeOnes_3 (kX9_leastBut (σ := σ) (but := (-1000000)) hap hE (by first | assumption | omega | exact hp | exact hs) (by first | assumption | omega | exact hp | exact hs) (by first | assumption | omega | exact hp | exact hs)) mw_X9_leastBut wl_X9_187 (by decide) (by decide) rfl rfl (by simp [Value.category]) ?_
  refine g_istore_n C hn dX9_likeOnes_6 rfl rfl rfl ?_
  refine g_iconst C dX9_likeOnes_7 ?_
  refine g_istore_n C hn dX9_likeOnes_8 rfl rfl rfl ?_
  refine g_iconst C dX9_likeOnes_9 ?_
  refine g_istore_n C hn dX9_likeOnes_10 rfl rfl rfl ?_
  have L11 : ∀ i : Nat, i ≤ ((σ 4 2).toNat) → ∀ (x2 x3 : Int), x2 = likF (σ 8) (leaB (σ 8) (σ 4 2) (-1000000)) i → x3 = (i : Int) → G M ad 12 (cfM ad K) 11 [(0, .ref (ad 0)), (1, .int (iI (leaB (σ 8) (σ 4 2) (-1000000)))), (2, .int (iI x2)), (3, .int (iI x3))] [] σ := by
    refine loopUp ((σ 4 2).toNat) ?_
    rintro i hi ihi x2 x3 rfl rfl
    have hli := likF_in (f := σ 8) (v := leaB (σ 8) (σ 4 2) (-1000000)) i
    refine g_iload_n C dX9_likeOnes_11 (p := 3) (hi := rfl) (hv := rfl) ?_
    refine g_aload_n C dX9_likeOnes_12 (p := 0) (hi := rfl) (hv := rfl) ?_
    refine gm_g_town C dX9_likeOnes_13 wf_X9_19 ?_
    refine g_iconst C dX9_likeOnes_16 ?_
    refine gm_l_town C dX9_likeOnes_17 (by omega) (by omega) ?_
    refine g_icmp_ge C (tgt := 45) dX9_likeOnes_18 (by decide) (by omega) (by omega) (fun h_1 => ?_) (fun h_1 => ?_)
    · have hiN : i = ((σ 4 2).toNat) := by omega
      refine g_iload_n C dX9_likeOnes_45 (p := 2) (hi := rfl) (hv := rfl) ?_
      exact hret _ _ _ _ dX9_likeOnes_46 (by (try subst hiN); first | rfl | omega | (unfold likO; (repeat' split) <;> first | (exfalso; omega) | rfl | omega)) (by (try subst hiN); first | rfl | omega | (unfold likO; (repeat' split) <;> first | (exfalso; omega) | rfl | omega))
    · refine g_iload_n C dX9_likeOnes_21 (p := 2) (hi := rfl) (hv := rfl) ?_
      refine g_aload_n C dX9_likeOnes_22 (p := 0) (hi := rfl) (hv := rfl) ?_
      refine gm_g_says C dX9_likeOnes_23 wf_X9_31 ?_
      refine g_iload_n C dX9_likeOnes_26 (p := 3) (hi := rfl) (hv := rfl) ?_
      refine gm_l_says C dX9_likeOnes_27 (by omega) (by omega) ?_
      refine g_iload_n C dX9_likeOnes_28 (p := 1) (hi := rfl) (hv := rfl) ?_
      refine g_icmp_ne C (tgt := 36) dX9_likeOnes_29 (by decide) (by have := hs (i : Int) (by omega) (by omega); omega) (by omega) (fun h_2 => ?_) (fun h_2 => ?_)
      · refine g_iconst C dX9_likeOnes_36 ?_
        refine g_iadd C dX9_likeOnes_37 ?_
        refine g_istore_n C hn dX9_likeOnes_38 rfl rfl rfl ?_
        refine g_iinc C hn dX9_likeOnes_39 (p := 3) rfl rfl rfl ?_
        refine g_goto C (tgt := 11) dX9_likeOnes_42 (by decide) ?_
        refine g_sub [2, 3, 1, 0] rfl ?_
        exact ihi (by omega) _ _ (by first | rfl | omega | (simp only [likF]; (repeat' split) <;> omega)) (by first | rfl | omega | (simp only [likF]; (repeat' split) <;> omega))
      · refine g_iconst C dX9_likeOnes_32 ?_
        refine g_goto C (tgt := 37) dX9_likeOnes_33 (by decide) ?_
        refine g_iadd C dX9_likeOnes_37 ?_
        refine g_istore_n C hn dX9_likeOnes_38 rfl rfl rfl ?_
        refine g_iinc C hn dX9_likeOnes_39 (p := 3) rfl rfl rfl ?_
        refine g_goto C (tgt := 11) dX9_likeOnes_42 (by decide) ?_
        refine g_sub [2, 3, 1, 0] rfl ?_
        exact ihi (by omega) _ _ (by first | rfl | omega | (simp only [likF]; (repeat' split) <;> omega)) (by first | rfl | omega | (simp only [likF]; (repeat' split) <;> omega))
  refine g_sub [3, 2, 1, 0] rfl ?_
  exact L11 0 (Nat.zero_le _) _ _ (by first | rfl | omega | simp) (by first | rfl | omega | simp)
set_option maxHeartbeats 4000000 in
set_option maxRecDepth 100000 in
theorem kX9_coinBy {l : Launch} {K : Nat → ClassId} {D : va_G} {ad : Int → Nat} {E : gEnv} {σ : Mem} {pays p to : Int} (hap : Apart ad 12) (hE : gEok E) (hp : 0 ≤ σ 4 2 ∧ σ 4 2 ≤ 4) (hs : SW (σ 4 2) (σ 8)) (hpa : 0 ≤ pays ∧ pays ≤ 3) (rp : R3 p) (rto : R3 to) : CtI l K D ad 12 (cfM ad K) E yX9_coinBy cX9_coinBy 5 (some .int) 1 [.ref (ad 0), .int (iI pays), .int (iI p), .int (iI to)] σ (coiB (σ 4 1) (σ 4 2) (σ 8) pays p to) σ := by
  refine ctI_of hap hE (by decide) rfl .int (nar_i _) (fun M C hn hret => ?_)
  have C : Good l K D ad 12 E 1 cX9_coinBy RX9 M := C
  show G M ad 12 (cfM ad K) 0 [(0, .ref (ad 0)), (1, .int (iI pays)), (2, .int (iI p)), (3, .int (iI to))] [] σ
  refine g_iload_n C dX9_coinBy_0 (p := 1) (hi := rfl) (hv := rfl) ?_
  refine g_iconst C dX9_coinBy_1 ?_
  refine g_icmp_ne C (tgt := 36) dX9_coinBy_2 (by decide) (by omega) (by omega) (fun h_1 => ?_) (fun h_1 => ?_)
  · refine g_aload_n C dX9_coinBy_36 (p := 0) (hi := rfl) (hv := rfl) ?_
    refine gm_g_town C dX9_coinBy_37 wf_X9_19 ?_
    refine g_iconst C dX9_coinBy_40 ?_
    refine gm_l_town C dX9_coinBy_41 (by omega) (by omega) ?_
    refine g_aload_n C dX9_coinBy_42 (p := 0) (hi := rfl) (hv := rfl) ?_
    refine g_iload_n C dX9_coinBy_43 (p := 3) (hi := rfl) (hv := rfl) ?_
    refine gm_call C dX9_coinBy_44 (kX9_leastBut (σ := σ) (but := to) hap hE (by first | assumption | omega | exact hp | exact hs | exact hpa | exact rp | exact rto) (by first | assumption | omega | exact hp | exact hs | exact hpa | exact rp | exact rto) (by first | assumption | omega | exact hp | exact hs | exact hpa | exact rp | exact rto)) mw_X9_leastBut wl_X9_187 (by decide) (by decide) rfl rfl (by simp [Value.category]) ?_
    refine g_imul C dX9_coinBy_47 ?_
    refine g_istore C hn dX9_coinBy_48 rfl rfl ?_
    refine g_iload_n C dX9_coinBy_50 (p := 3) (hi := rfl) (hv := rfl) ?_
    refine g_iload_n C dX9_coinBy_51 (p := 4) (hi := rfl) (hv := rfl) ?_
    refine g_icmp_ne C (tgt := 59) dX9_coinBy_52 (by decide) (by omega) (by omega) (fun h_2 => ?_) (fun h_2 => ?_)
    · refine g_iconst C dX9_coinBy_59 ?_
      refine g_goto C (tgt := 76) dX9_coinBy_60 (by decide) ?_
      exact hret _ _ _ _ dX9_coinBy_76 (by first | rfl | omega | (unfold coiB; (repeat' split) <;> first | (exfalso; omega) | rfl | omega)) (by first | rfl | omega | (unfold coiB; (repeat' split) <;> first | (exfalso; omega) | rfl | omega))
    · refine g_iload_n C dX9_coinBy_55 (p := 2) (hi := rfl) (hv := rfl) ?_
      refine g_if_ne C (tgt := 63) dX9_coinBy_56 (by decide) (by omega) (fun h_3 => ?_) (fun h_3 => ?_)
      · refine g_iload_n C dX9_coinBy_63 (p := 2) (hi := rfl) (hv := rfl) ?_
        refine g_iconst C dX9_coinBy_64 ?_
        refine g_icmp_ne C (tgt := 74) dX9_coinBy_65 (by decide) (by omega) (by omega) (fun h_4 => ?_) (fun h_4 => ?_)
        · refine g_iload C dX9_coinBy_74 (p := 0) rfl ?_
          exact hret _ _ _ _ dX9_coinBy_76 (by first | rfl | omega | (unfold coiB; (repeat' split) <;> first | (exfalso; omega) | rfl | omega)) (by first | rfl | omega | (unfold coiB; (repeat' split) <;> first | (exfalso; omega) | rfl | omega))
        · refine g_iload C dX9_coinBy_68 (p := 0) rfl ?_
          refine g_ineg C dX9_coinBy_70 ?_
          refine g_goto C (tgt := 76) dX9_coinBy_71 (by decide) ?_
          exact hret _ _ _ _ dX9_coinBy_76 (by first | rfl | omega | (unfold coiB; (repeat' split) <;> first | (exfalso; omega) | rfl | omega)) (by first | rfl | omega | (unfold coiB; (repeat' split) <;> first | (exfalso; omega) | rfl | omega))
      · refine g_iconst C dX9_coinBy_59 ?_
        refine g_goto C (tgt := 76) dX9_coinBy_60 (by decide) ?_
        exact hret _ _ _ _ dX9_coinBy_76 (by first | rfl | omega | (unfold coiB; (repeat' split) <;> first | (exfalso; omega) | rfl | omega)) (by first | rfl | omega | (unfold coiB; (repeat' split) <;> first | (exfalso; omega) | rfl | omega))
  · refine g_iload_n C dX9_coinBy_5 (p := 2) (hi := rfl) (hv := rfl) ?_
    refine g_iload_n C dX9_coinBy_6 (p := 3) (hi := rfl) (hv := rfl) ?_
    refine g_icmp_ne C (tgt := 28) dX9_coinBy_7 (by decide) (by omega) (by omega) (fun h_5 => ?_) (fun h_5 => ?_)
    · refine g_aload_n C dX9_coinBy_28 (p := 0) (hi := rfl) (hv := rfl) ?_
      refine gm_g_town C dX9_coinBy_29 wf_X9_19 ?_
      refine g_iconst C dX9_coinBy_32 ?_
      refine gm_l_town C dX9_coinBy_33 (by omega) (by omega) ?_
      refine g_ineg C dX9_coinBy_34 ?_
      exact hret _ _ _ _ dX9_coinBy_35 (by first | rfl | omega | (unfold coiB; (repeat' split) <;> first | (exfalso; omega) | rfl | omega)) (by first | rfl | omega | (unfold coiB; (repeat' split) <;> first | (exfalso; omega) | rfl | omega))
    · refine g_aload_n C dX9_coinBy_10 (p := 0) (hi := rfl) (hv := rfl) ?_
      refine gm_g_town C dX9_coinBy_11 wf_X9_19 ?_
      refine g_iconst C dX9_coinBy_14 ?_
      refine gm_l_town C dX9_coinBy_15 (by omega) (by omega) ?_
      refine g_aload_n C dX9_coinBy_16 (p := 0) (hi := rfl) (hv := rfl) ?_
      refine gm_g_town C dX9_coinBy_17 wf_X9_19 ?_
      refine g_iconst C dX9_coinBy_20 ?_
      refine gm_l_town C dX9_coinBy_21 (by omega) (by omega) ?_
      refine g_iconst C dX9_coinBy_22 ?_
      refine g_isub C dX9_coinBy_23 ?_
      refine g_imul C dX9_coinBy_24 ?_
      refine g_goto C (tgt := 35) dX9_coinBy_25 (by decide) ?_
      exact hret _ _ _ _ dX9_coinBy_35 (by first | rfl | omega | (unfold coiB; (repeat' split) <;> first | (exfalso; omega) | rfl | omega)) (by first | rfl | omega | (unfold coiB; (repeat' split) <;> first | (exfalso; omega) | rfl | omega))
set_option maxHeartbeats 4000000 in
set_option maxRecDepth 100000 in
theorem kX9_gainBy {l : Launch} {K : Nat → ClassId} {D : va_G} {ad : Int → Nat} {E : gEnv} {σ : Mem} {pays t p : Int} (hap : Apart ad 12) (hE : gEok E) (hT : TW (σ 4)) (hp1 : 1 ≤ σ 4 2 ∧ σ 4 2 ≤ 4) (hs : SW (σ 4 2) (σ 8)) (hpa : 0 ≤ pays ∧ pays ≤ 3) (htt : 0 ≤ t ∧ t < 5) (hpp : 0 ≤ p ∧ p < 4) : CtI l K D ad 12 (cfM ad K) E yX9_gainBy cX9_gainBy 7 (some .int) 2 [.ref (ad 0), .int (iI pays), .int (iI t), .int (iI p)] σ (gaiB (σ 4 1) (σ 4 2) (σ 8) (woF (σ 4) t p) pays p) σ := by
  have hp : 0 ≤ σ 4 2 ∧ σ 4 2 ≤ 4 := hT.2.2.1
  have hlb := leaB_in hs hp (but := -1000000)
  have hlo := likO_in hs hp1
  refine ctI_of hap hE (by decide) rfl .int (nar_i _) (fun M C hn hret => ?_)
  have C : Good l K D ad 12 E 2 cX9_gainBy RX9 M := C
  show G M ad 12 (cfM ad K) 0 [(0, .ref (ad 0)), (1, .int (iI pays)), (2, .int (iI t)), (3, .int (iI p))] [] σ
  refine g_aload_n C dX9_gainBy_0 (p := 0) (hi := rfl) (hv := rfl) ?_
  refine g_ldc C (n := (-1000000)) wk_X9_80 (by decide +kernel) dX9_gainBy_1 ?_
  refine gm_call C dX9_gainBy_3 (kX9_leastBut (σ := σ) (but := (-1000000)) hap hE (by first | assumption | omega | exact hT | exact hp1 | exact hs | exact hpa | exact htt | exact hpp) (by first | assumption | omega | exact hT | exact hp1 | exact hs | exact hpa | exact htt | exact hpp) (by first | assumption | omega | exact hT | exact hp1 | exact hs | exact hpa | exact htt | exact hpp)) mw_X9_leastBut wl_X9_187 (by decide) (by decide) rfl rfl (by simp [Value.category]) ?_
  refine g_istore C hn dX9_gainBy_6 rfl rfl ?_
  refine g_iconst C dX9_gainBy_8 ?_
  refine g_istore C hn dX9_gainBy_9 rfl rfl ?_
  refine g_iconst C dX9_gainBy_11 ?_
  refine g_istore C hn dX9_gainBy_12 rfl rfl ?_
  have L14 : ∀ i : Nat, i ≤ ((σ 4 2).toNat) → ∀ (x5 x6 : Int), x5 = gaiF (σ 4 1) (σ 4 2) (σ 8) (woF (σ 4) t p) pays p i → x6 = (i : Int) → G M ad 12 (cfM ad K) 14 [(0, .ref (ad 0)), (1, .int (iI pays)), (2, .int (iI t)), (3, .int (iI p)), (4, .int (iI (leaB (σ 8) (σ 4 2) (-1000000)))), (5, .int (iI x5)), (6, .int (iI x6))] [] σ := by
    refine loopUp ((σ 4 2).toNat) ?_
    rintro i hi ihi x5 x6 rfl rfl
    refine g_iload C dX9_gainBy_14 (p := 6) rfl ?_
    refine g_aload_n C dX9_gainBy_16 (p := 0) (hi := rfl) (hv := rfl) ?_
    refine gm_g_town C dX9_gainBy_17 wf_X9_19 ?_
    refine g_iconst C dX9_gainBy_20 ?_
    refine gm_l_town C dX9_gainBy_21 (by omega) (by omega) ?_
    refine g_icmp_ge C (tgt := 73) dX9_gainBy_22 (by decide) (by omega) (by omega) (fun h_1 => ?_) (fun h_1 => ?_)
    · have hiN : i = ((σ 4 2).toNat) := by omega
      refine g_iload C dX9_gainBy_73 (p := 5) rfl ?_
      refine (g_bipush C dX9_gainBy_75 (by decide)) ?_
      refine g_aload_n C dX9_gainBy_77 (p := 0) (hi := rfl) (hv := rfl) ?_
      refine gm_call C dX9_gainBy_78 (kX9_likeOnes (σ := σ) hap hE (by first | assumption | omega | exact hT | exact hp1 | exact hs | exact hpa | exact htt | exact hpp) (by first | assumption | omega | exact hT | exact hp1 | exact hs | exact hpa | exact htt | exact hpp)) mw_X9_likeOnes wl_X9_194 (by decide) (by decide) rfl rfl (by simp [Value.category]) ?_
      refine g_idiv C (by omega) (by omega) (by omega) dX9_gainBy_81 ?_
      refine g_imul C dX9_gainBy_82 ?_
      exact hret _ _ _ _ dX9_gainBy_83 (by (try subst hiN); first | rfl | omega | (unfold gaiB; (repeat' split) <;> first | (exfalso; omega) | rfl | omega)) (by (try subst hiN); first | rfl | omega | (unfold gaiB; (repeat' split) <;> first | (exfalso; omega) | rfl | omega))
    · refine g_aload_n C dX9_gainBy_25 (p := 0) (hi := rfl) (hv := rfl) ?_
      refine gm_g_says C dX9_gainBy_26 wf_X9_31 ?_
      refine g_iload C dX9_gainBy_29 (p := 6) rfl ?_
      refine gm_l_says C dX9_gainBy_31 (by omega) (by omega) ?_
      refine g_iload C dX9_gainBy_32 (p := 4) rfl ?_
      refine g_icmp_ne C (tgt := 67) dX9_gainBy_34 (by decide) (by have := hs (i : Int) (by omega) (by omega); omega) (by omega) (fun h_2 => ?_) (fun h_2 => ?_)
      · refine g_iinc C hn dX9_gainBy_67 (p := 6) rfl rfl rfl ?_
        refine g_goto C (tgt := 14) dX9_gainBy_70 (by decide) ?_
        refine g_sub [1, 2, 3, 4, 5, 6, 0] rfl ?_
        exact ihi (by omega) _ _ (by first | rfl | omega | (simp only [gaiF]; (repeat' split) <;> omega)) (by first | rfl | omega | (simp only [gaiF]; (repeat' split) <;> omega))
      · refine g_iload C dX9_gainBy_37 (p := 5) rfl ?_
        refine g_aload_n C dX9_gainBy_39 (p := 0) (hi := rfl) (hv := rfl) ?_
        refine g_iload_n C dX9_gainBy_40 (p := 1) (hi := rfl) (hv := rfl) ?_
        refine g_iload_n C dX9_gainBy_41 (p := 3) (hi := rfl) (hv := rfl) ?_
        refine g_iload C dX9_gainBy_42 (p := 6) rfl ?_
        refine gm_call C dX9_gainBy_44 (kX9_coinBy (σ := σ) (pays := pays) (p := p) (to := (i : Int)) hap hE (by first | assumption | omega | exact hT | exact hp1 | exact hs | exact hpa | exact htt | exact hpp) (by first | assumption | omega | exact hT | exact hp1 | exact hs | exact hpa | exact htt | exact hpp) (by first | assumption | omega | exact hT | exact hp1 | exact hs | exact hpa | exact htt | exact hpp) (by first | assumption | omega | exact hT | exact hp1 | exact hs | exact hpa | exact htt | exact hpp) (by first | assumption | omega | exact hT | exact hp1 | exact hs | exact hpa | exact htt | exact hpp)) mw_X9_coinBy wl_X9_190 (by decide) (by decide) rfl rfl (by simp [Value.category]) ?_
        refine g_iload_n C dX9_gainBy_47 (p := 3) (hi := rfl) (hv := rfl) ?_
        refine g_iload C dX9_gainBy_48 (p := 6) rfl ?_
        refine g_icmp_ne C (tgt := 62) dX9_gainBy_50 (by decide) (by omega) (by omega) (fun h_3 => ?_) (fun h_3 => ?_)
        · refine g_iconst C dX9_gainBy_62 ?_
          refine g_iadd C dX9_gainBy_63 ?_
          refine g_iadd C dX9_gainBy_64 ?_
          refine g_istore C hn dX9_gainBy_65 rfl rfl ?_
          refine g_iinc C hn dX9_gainBy_67 (p := 6) rfl rfl rfl ?_
          refine g_goto C (tgt := 14) dX9_gainBy_70 (by decide) ?_
          refine g_sub [2, 3, 4, 5, 6, 1, 0] rfl ?_
          exact ihi (by omega) _ _ (by first | rfl | omega | (simp only [gaiF]; (repeat' split) <;> omega)) (by first | rfl | omega | (simp only [gaiF]; (repeat' split) <;> omega))
        · refine g_aload_n C dX9_gainBy_53 (p := 0) (hi := rfl) (hv := rfl) ?_
          refine g_iload_n C dX9_gainBy_54 (p := 2) (hi := rfl) (hv := rfl) ?_
          refine g_iload_n C dX9_gainBy_55 (p := 3) (hi := rfl) (hv := rfl) ?_
          refine gm_call C dX9_gainBy_56 (kX9_worthOf (σ := σ) (t := t) (p := p) hap hE (by first | assumption | omega | exact hT | exact hp1 | exact hs | exact hpa | exact htt | exact hpp) (by first | assumption | omega | exact hT | exact hp1 | exact hs | exact hpa | exact htt | exact hpp)) mw_X9_worthOf wl_X9_179 (by decide) (by decide) rfl rfl (by simp [Value.category]) ?_
          refine g_goto C (tgt := 63) dX9_gainBy_59 (by decide) ?_
          refine g_iadd C dX9_gainBy_63 ?_
          refine g_iadd C dX9_gainBy_64 ?_
          refine g_istore C hn dX9_gainBy_65 rfl rfl ?_
          refine g_iinc C hn dX9_gainBy_67 (p := 6) rfl rfl rfl ?_
          refine g_goto C (tgt := 14) dX9_gainBy_70 (by decide) ?_
          refine g_sub [2, 3, 4, 5, 6, 1, 0] rfl ?_
          exact ihi (by omega) _ _ (by first | rfl | omega | (simp only [gaiF]; (repeat' split) <;> omega)) (by first | rfl | omega | (simp only [gaiF]; (repeat' split) <;> omega))
  refine g_sub [3, 4, 5, 6, 2, 1, 0] rfl ?_
  exact L14 0 (Nat.zero_le _) _ _ (by first | rfl | omega | simp) (by first | rfl | omega | simp)

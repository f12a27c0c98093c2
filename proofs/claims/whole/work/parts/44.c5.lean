set_option maxHeartbeats 4000000 in
set_option maxRecDepth 100000 in
theorem kX8_isRow {l : Launch} {K : Nat → ClassId} {D : va_G} {ad : Int → Nat} {E : gEnv} {σ : Mem} {r : Int} (hap : Apart ad 60) (hE : gEok E) (rr : R3 r) : CtI l K D ad 60 (cfC ad K) E yX8_isRow cX8_isRow 2 (some .boolean) 0 [.ref (ad 0), .int (iI r)] σ (if 0 ≤ r ∧ r < 8 then 1 else 0) σ := by
  refine ctI_of hap hE (by decide) rfl .boolean (nar_z (by split <;> simp)) (fun M C hn hret => ?_)
  have C : Good l K D ad 60 E 0 cX8_isRow RX8 M := C
  show G M ad 60 (cfC ad K) 0 [(0, .ref (ad 0)), (1, .int (iI r))] [] σ
  refine g_iload_n C dX8_isRow_0 (p := 1) (hi := rfl) (hv := rfl) ?_
  refine g_if_lt C (tgt := 14) dX8_isRow_1 (by decide) (by omega) (fun h_1 => ?_) (fun h_1 => ?_)
  · refine g_iconst C dX8_isRow_14 ?_
    exact hret _ _ _ _ dX8_isRow_15 (by first | rfl | omega | ((repeat' split) <;> first | (exfalso; omega) | rfl | exact mu_mu | omega)) (by first | rfl | omega | ((repeat' split) <;> first | (exfalso; omega) | rfl | exact mu_mu | omega))
  · refine g_iload_n C dX8_isRow_4 (p := 1) (hi := rfl) (hv := rfl) ?_
    refine (g_bipush C dX8_isRow_5 (by decide)) ?_
    refine g_icmp_ge C (tgt := 14) dX8_isRow_7 (by decide) (by omega) (by omega) (fun h_2 => ?_) (fun h_2 => ?_)
    · refine g_iconst C dX8_isRow_14 ?_
      exact hret _ _ _ _ dX8_isRow_15 (by first | rfl | omega | ((repeat' split) <;> first | (exfalso; omega) | rfl | exact mu_mu | omega)) (by first | rfl | omega | ((repeat' split) <;> first | (exfalso; omega) | rfl | exact mu_mu | omega))
    · refine g_iconst C dX8_isRow_10 ?_
      refine g_goto C (tgt := 15) dX8_isRow_11 (by decide) ?_
      exact hret _ _ _ _ dX8_isRow_15 (by first | rfl | omega | ((repeat' split) <;> first | (exfalso; omega) | rfl | exact mu_mu | omega)) (by first | rfl | omega | ((repeat' split) <;> first | (exfalso; omega) | rfl | exact mu_mu | omega))
set_option maxHeartbeats 4000000 in
set_option maxRecDepth 100000 in
theorem kX8_isSeed {l : Launch} {K : Nat → ClassId} {D : va_G} {ad : Int → Nat} {E : gEnv} {σ : Mem} {r : Int} (hap : Apart ad 60) (hE : gEok E) (rr : R3 r) : CtI l K D ad 60 (cfC ad K) E yX8_isSeed cX8_isSeed 1 (some .boolean) 0 [.int (iI r)] σ (if 1 ≤ r ∧ r ≤ 999999 then 1 else 0) σ := by
  refine ctI_of hap hE (by decide) rfl .boolean (nar_z (by split <;> simp)) (fun M C hn hret => ?_)
  have C : Good l K D ad 60 E 0 cX8_isSeed RX8 M := C
  show G M ad 60 (cfC ad K) 0 [(0, .int (iI r))] [] σ
  refine g_iload_n C dX8_isSeed_0 (p := 0) (hi := rfl) (hv := rfl) ?_
  refine g_iconst C dX8_isSeed_1 ?_
  refine g_icmp_lt C (tgt := 16) dX8_isSeed_2 (by decide) (by omega) (by omega) (fun h_1 => ?_) (fun h_1 => ?_)
  · refine g_iconst C dX8_isSeed_16 ?_
    exact hret _ _ _ _ dX8_isSeed_17 (by first | rfl | omega | ((repeat' split) <;> first | (exfalso; omega) | rfl | exact mu_mu | omega)) (by first | rfl | omega | ((repeat' split) <;> first | (exfalso; omega) | rfl | exact mu_mu | omega))
  · refine g_iload_n C dX8_isSeed_5 (p := 0) (hi := rfl) (hv := rfl) ?_
    refine g_ldcw C (n := 999999) wk_X8_281 (by decide +kernel) dX8_isSeed_6 ?_
    refine g_icmp_gt C (tgt := 16) dX8_isSeed_9 (by decide) (by omega) (by omega) (fun h_2 => ?_) (fun h_2 => ?_)
    · refine g_iconst C dX8_isSeed_16 ?_
      exact hret _ _ _ _ dX8_isSeed_17 (by first | rfl | omega | ((repeat' split) <;> first | (exfalso; omega) | rfl | exact mu_mu | omega)) (by first | rfl | omega | ((repeat' split) <;> first | (exfalso; omega) | rfl | exact mu_mu | omega))
    · refine g_iconst C dX8_isSeed_12 ?_
      refine g_goto C (tgt := 17) dX8_isSeed_13 (by decide) ?_
      exact hret _ _ _ _ dX8_isSeed_17 (by first | rfl | omega | ((repeat' split) <;> first | (exfalso; omega) | rfl | exact mu_mu | omega)) (by first | rfl | omega | ((repeat' split) <;> first | (exfalso; omega) | rfl | exact mu_mu | omega))
set_option maxHeartbeats 4000000 in
set_option maxRecDepth 100000 in
theorem kX8_isEither {l : Launch} {K : Nat → ClassId} {D : va_G} {ad : Int → Nat} {E : gEnv} {σ : Mem} {r : Int} (hap : Apart ad 60) (hE : gEok E) (rr : R3 r) : CtI l K D ad 60 (cfC ad K) E yX8_isEither cX8_isEither 1 (some .boolean) 0 [.int (iI r)] σ (if r = 0 ∨ r = 1 then 1 else 0) σ := by
  refine ctI_of hap hE (by decide) rfl .boolean (nar_z (by split <;> simp)) (fun M C hn hret => ?_)
  have C : Good l K D ad 60 E 0 cX8_isEither RX8 M := C
  show G M ad 60 (cfC ad K) 0 [(0, .int (iI r))] [] σ
  refine g_iload_n C dX8_isEither_0 (p := 0) (hi := rfl) (hv := rfl) ?_
  refine g_if_eq C (tgt := 9) dX8_isEither_1 (by decide) (by omega) (fun h_1 => ?_) (fun h_1 => ?_)
  · refine g_iconst C dX8_isEither_9 ?_
    refine g_goto C (tgt := 14) dX8_isEither_10 (by decide) ?_
    exact hret _ _ _ _ dX8_isEither_14 (by first | rfl | omega | ((repeat' split) <;> first | (exfalso; omega) | rfl | exact mu_mu | omega)) (by first | rfl | omega | ((repeat' split) <;> first | (exfalso; omega) | rfl | exact mu_mu | omega))
  · refine g_iload_n C dX8_isEither_4 (p := 0) (hi := rfl) (hv := rfl) ?_
    refine g_iconst C dX8_isEither_5 ?_
    refine g_icmp_ne C (tgt := 13) dX8_isEither_6 (by decide) (by omega) (by omega) (fun h_2 => ?_) (fun h_2 => ?_)
    · refine g_iconst C dX8_isEither_13 ?_
      exact hret _ _ _ _ dX8_isEither_14 (by first | rfl | omega | ((repeat' split) <;> first | (exfalso; omega) | rfl | exact mu_mu | omega)) (by first | rfl | omega | ((repeat' split) <;> first | (exfalso; omega) | rfl | exact mu_mu | omega))
    · refine g_iconst C dX8_isEither_9 ?_
      refine g_goto C (tgt := 14) dX8_isEither_10 (by decide) ?_
      exact hret _ _ _ _ dX8_isEither_14 (by first | rfl | omega | ((repeat' split) <;> first | (exfalso; omega) | rfl | exact mu_mu | omega)) (by first | rfl | omega | ((repeat' split) <;> first | (exfalso; omega) | rfl | exact mu_mu | omega))
set_option maxHeartbeats 4000000 in
set_option maxRecDepth 100000 in
theorem kX8_isThing {l : Launch} {K : Nat → ClassId} {D : va_G} {ad : Int → Nat} {E : gEnv} {σ : Mem} {r : Int} (hap : Apart ad 60) (hE : gEok E) (hH : 20 ≤ σ 0 8 ∧ σ 0 8 < 24) (h3 : 0 ≤ σ (σ 0 8) 3 ∧ σ (σ 0 8) 3 ≤ 5) (rr : R3 r) : CtI l K D ad 60 (cfC ad K) E yX8_isThing cX8_isThing 2 (some .boolean) 0 [.ref (ad 0), .int (iI r)] σ (if 0 ≤ r ∧ r < σ (σ 0 8) 3 then 1 else 0) σ := by
  refine ctI_of hap hE (by decide) rfl .boolean (nar_z (by split <;> simp)) (fun M C hn hret => ?_)
  have C : Good l K D ad 60 E 0 cX8_isThing RX8 M := C
  show G M ad 60 (cfC ad K) 0 [(0, .ref (ad 0)), (1, .int (iI r))] [] σ
  refine g_iload_n C dX8_isThing_0 (p := 1) (hi := rfl) (hv := rfl) ?_
  refine g_if_lt C (tgt := 19) dX8_isThing_1 (by decide) (by omega) (fun h_1 => ?_) (fun h_1 => ?_)
  · refine g_iconst C dX8_isThing_19 ?_
    exact hret _ _ _ _ dX8_isThing_20 (by first | rfl | omega | ((repeat' split) <;> first | (exfalso; omega) | rfl | exact mu_mu | omega)) (by first | rfl | omega | ((repeat' split) <;> first | (exfalso; omega) | rfl | exact mu_mu | omega))
  · refine g_iload_n C dX8_isThing_4 (p := 1) (hi := rfl) (hv := rfl) ?_
    refine g_aload_n C dX8_isThing_5 (p := 0) (hi := rfl) (hv := rfl) ?_
    refine gc_g_X8_here C dX8_isThing_6 wf_X8_65 ?_
    refine gc_g_X7_things C (by omega) dX8_isThing_9 wf_X8_269 ?_
    refine g_icmp_ge C (tgt := 19) dX8_isThing_12 (by decide) (by omega) (by omega) (fun h_2 => ?_) (fun h_2 => ?_)
    · refine g_iconst C dX8_isThing_19 ?_
      exact hret _ _ _ _ dX8_isThing_20 (by first | rfl | omega | ((repeat' split) <;> first | (exfalso; omega) | rfl | exact mu_mu | omega)) (by first | rfl | omega | ((repeat' split) <;> first | (exfalso; omega) | rfl | exact mu_mu | omega))
    · refine g_iconst C dX8_isThing_15 ?_
      refine g_goto C (tgt := 20) dX8_isThing_16 (by decide) ?_
      exact hret _ _ _ _ dX8_isThing_20 (by first | rfl | omega | ((repeat' split) <;> first | (exfalso; omega) | rfl | exact mu_mu | omega)) (by first | rfl | omega | ((repeat' split) <;> first | (exfalso; omega) | rfl | exact mu_mu | omega))
set_option maxHeartbeats 4000000 in
set_option maxRecDepth 100000 in
theorem kX8_isPerson {l : Launch} {K : Nat → ClassId} {D : va_G} {ad : Int → Nat} {E : gEnv} {σ : Mem} {r : Int} (hap : Apart ad 60) (hE : gEok E) (hH : 20 ≤ σ 0 8 ∧ σ 0 8 < 24) (h2 : 0 ≤ σ (σ 0 8) 2 ∧ σ (σ 0 8) 2 ≤ 4) (rr : R3 r) : CtI l K D ad 60 (cfC ad K) E yX8_isPerson cX8_isPerson 2 (some .boolean) 0 [.ref (ad 0), .int (iI r)] σ (if 0 ≤ r ∧ r < σ (σ 0 8) 2 then 1 else 0) σ := by
  refine ctI_of hap hE (by decide) rfl .boolean (nar_z (by split <;> simp)) (fun M C hn hret => ?_)
  have C : Good l K D ad 60 E 0 cX8_isPerson RX8 M := C
  show G M ad 60 (cfC ad K) 0 [(0, .ref (ad 0)), (1, .int (iI r))] [] σ
  refine g_iload_n C dX8_isPerson_0 (p := 1) (hi := rfl) (hv := rfl) ?_
  refine g_if_lt C (tgt := 19) dX8_isPerson_1 (by decide) (by omega) (fun h_1 => ?_) (fun h_1 => ?_)
  · refine g_iconst C dX8_isPerson_19 ?_
    exact hret _ _ _ _ dX8_isPerson_20 (by first | rfl | omega | ((repeat' split) <;> first | (exfalso; omega) | rfl | exact mu_mu | omega)) (by first | rfl | omega | ((repeat' split) <;> first | (exfalso; omega) | rfl | exact mu_mu | omega))
  · refine g_iload_n C dX8_isPerson_4 (p := 1) (hi := rfl) (hv := rfl) ?_
    refine g_aload_n C dX8_isPerson_5 (p := 0) (hi := rfl) (hv := rfl) ?_
    refine gc_g_X8_here C dX8_isPerson_6 wf_X8_65 ?_
    refine gc_g_X7_people C (by omega) dX8_isPerson_9 wf_X8_145 ?_
    refine g_icmp_ge C (tgt := 19) dX8_isPerson_12 (by decide) (by omega) (by omega) (fun h_2 => ?_) (fun h_2 => ?_)
    · refine g_iconst C dX8_isPerson_19 ?_
      exact hret _ _ _ _ dX8_isPerson_20 (by first | rfl | omega | ((repeat' split) <;> first | (exfalso; omega) | rfl | exact mu_mu | omega)) (by first | rfl | omega | ((repeat' split) <;> first | (exfalso; omega) | rfl | exact mu_mu | omega))
    · refine g_iconst C dX8_isPerson_15 ?_
      refine g_goto C (tgt := 20) dX8_isPerson_16 (by decide) ?_
      exact hret _ _ _ _ dX8_isPerson_20 (by first | rfl | omega | ((repeat' split) <;> first | (exfalso; omega) | rfl | exact mu_mu | omega)) (by first | rfl | omega | ((repeat' split) <;> first | (exfalso; omega) | rfl | exact mu_mu | omega))
set_option maxHeartbeats 4000000 in
set_option maxRecDepth 100000 in
theorem kX8_found {l : Launch} {K : Nat → ClassId} {D : va_G} {ad : Int → Nat} {E : gEnv} {σ : Mem} {k : Int} (hap : Apart ad 60) (hE : gEok E) : CtI l K D ad 60 (cfC ad K) E yX8_found cX8_found 2 (some .int) 0 [.ref (ad 0), .int (iI k)] σ (-1000010 - k) (mu σ 0 11 k) := by
  refine ctI_of hap hE (by decide) rfl .int (nar_i _) (fun M C hn hret => ?_)
  have C : Good l K D ad 60 E 0 cX8_found RX8 M := C
  show G M ad 60 (cfC ad K) 0 [(0, .ref (ad 0)), (1, .int (iI k))] [] σ
  refine g_aload_n C dX8_found_0 (p := 0) (hi := rfl) (hv := rfl) ?_
  refine g_iload_n C dX8_found_1 (p := 1) (hi := rfl) (hv := rfl) ?_
  refine gc_p_X8_latestFinding C dX8_found_2 wf_X8_278 ?_
  refine g_ldcw C (n := (-1000010)) wk_X8_282 (by decide +kernel) dX8_found_5 ?_
  refine g_iload_n C dX8_found_8 (p := 1) (hi := rfl) (hv := rfl) ?_
  refine g_isub C dX8_found_9 ?_
  exact hret _ _ _ _ dX8_found_10 (by first | rfl | omega | ((repeat' split) <;> first | (exfalso; omega) | rfl | exact mu_mu | omega)) (by first | rfl | omega | ((repeat' split) <;> first | (exfalso; omega) | rfl | exact mu_mu | omega))
set_option maxHeartbeats 4000000 in
set_option maxRecDepth 100000 in
theorem kX8_fine {l : Launch} {K : Nat → ClassId} {D : va_G} {ad : Int → Nat} {E : gEnv} {σ : Mem} {k : Int} (hap : Apart ad 60) (hE : gEok E) : CtI l K D ad 60 (cfC ad K) E yX8_fine cX8_fine 2 (some .int) 0 [.ref (ad 0), .int (iI k)] σ k (mu σ 0 11 0) := by
  refine ctI_of hap hE (by decide) rfl .int (nar_i _) (fun M C hn hret => ?_)
  have C : Good l K D ad 60 E 0 cX8_fine RX8 M := C
  show G M ad 60 (cfC ad K) 0 [(0, .ref (ad 0)), (1, .int (iI k))] [] σ
  refine g_aload_n C dX8_fine_0 (p := 0) (hi := rfl) (hv := rfl) ?_
  refine g_iconst C dX8_fine_1 ?_
  refine gc_p_X8_latestFinding C dX8_fine_2 wf_X8_278 ?_
  refine g_iload_n C dX8_fine_5 (p := 1) (hi := rfl) (hv := rfl) ?_
  exact hret _ _ _ _ dX8_fine_6 (by first | rfl | omega | ((repeat' split) <;> first | (exfalso; omega) | rfl | exact mu_mu | omega)) (by first | rfl | omega | ((repeat' split) <;> first | (exfalso; omega) | rfl | exact mu_mu | omega))
set_option maxHeartbeats 4000000 in
set_option maxRecDepth 100000 in
theorem kX8_ofFraction {l : Launch} {K : Nat → ClassId} {D : va_G} {ad : Int → Nat} {E : gEnv} {σ : Mem} {a b w : Int} (hap : Apart ad 60) (hE : gEok E) (ra : R3 a) (hb : 1 ≤ b ∧ b ≤ 1000) (rw : R3 w) : CtI l K D ad 60 (cfC ad K) E yX8_ofFraction cX8_ofFraction 5 (some .int) 0 [.int (iI a), .int (iI b), .int (iI w)] σ (frR a b w) σ := by
  refine ctI_of hap hE (by decide) rfl .int (nar_i _) (fun M C hn hret => ?_)
  have C : Good l K D ad 60 E 0 cX8_ofFraction RX8 M := C
  show G M ad 60 (cfC ad K) 0 [(0, .int (iI a)), (1, .int (iI b)), (2, .int (iI w))] [] σ
  refine g_iconst C dX8_ofFraction_0 ?_
  refine g_istore_n C hn dX8_ofFraction_1 rfl rfl rfl ?_
  refine g_iconst C dX8_ofFraction_2 ?_
  refine g_istore C hn dX8_ofFraction_3 rfl rfl ?_
  have L5 : ∀ i : Nat, i ≤ ((b + 1).toNat) → ∀ (x3 x4 : Int), x3 = (ofC a b i) → x4 = (i : Int) → 2 ≤ i → G M ad 60 (cfC ad K) 5 [(0, .int (iI a)), (1, .int (iI b)), (2, .int (iI w)), (3, .int (iI x3)), (4, .int (iI x4))] [] σ := by
    refine loopUp ((b + 1).toNat) ?_
    rintro i hi ihi x3 x4 rfl rfl h2i
    have hin := ofC_in (a := a) (b := b) i
    refine g_iload C dX8_ofFraction_5 (p := 4) rfl ?_
    refine g_iload_n C dX8_ofFraction_7 (p := 1) (hi := rfl) (hv := rfl) ?_
    refine g_icmp_gt C (tgt := 34) dX8_ofFraction_8 (by decide) (by omega) (by omega) (fun h_1 => ?_) (fun h_1 => ?_)
    · have hiN : i = ((b + 1).toNat) := by omega
      refine g_iload_n C dX8_ofFraction_34 (p := 2) (hi := rfl) (hv := rfl) ?_
      refine g_if_ne C (tgt := 44) dX8_ofFraction_35 (by decide) (by omega) (fun h_2 => ?_) (fun h_2 => ?_)
      · refine g_iload_n C dX8_ofFraction_44 (p := 1) (hi := rfl) (hv := rfl) ?_
        refine g_iload_n C dX8_ofFraction_45 (p := 3) (hi := rfl) (hv := rfl) ?_
        refine g_idiv C (by omega) (by omega) (by omega) dX8_ofFraction_46 ?_
        exact hret _ _ _ _ dX8_ofFraction_47 (by (try subst hiN); unfold frR; (repeat' split) <;> first | rfl | (exfalso; omega)) (by (try subst hiN); first | rfl | omega | ((repeat' split) <;> first | (exfalso; omega) | rfl | exact mu_mu | omega))
      · refine g_iload_n C dX8_ofFraction_38 (p := 0) (hi := rfl) (hv := rfl) ?_
        refine g_iload_n C dX8_ofFraction_39 (p := 3) (hi := rfl) (hv := rfl) ?_
        refine g_idiv C (by omega) (by omega) (by omega) dX8_ofFraction_40 ?_
        refine g_goto C (tgt := 47) dX8_ofFraction_41 (by decide) ?_
        exact hret _ _ _ _ dX8_ofFraction_47 (by (try subst hiN); unfold frR; (repeat' split) <;> first | rfl | (exfalso; omega)) (by (try subst hiN); first | rfl | omega | ((repeat' split) <;> first | (exfalso; omega) | rfl | exact mu_mu | omega))
    · refine g_iload_n C dX8_ofFraction_11 (p := 0) (hi := rfl) (hv := rfl) ?_
      refine g_iload C dX8_ofFraction_12 (p := 4) rfl ?_
      refine g_irem C (by omega) (by omega) (by omega) dX8_ofFraction_14 ?_
      refine g_if_ne C (tgt := 28) dX8_ofFraction_15 (by decide) (tmod_R3 (by omega) (by omega)) (fun h_3 => ?_) (fun h_3 => ?_)
      · refine g_iinc C hn dX8_ofFraction_28 (p := 4) rfl rfl rfl ?_
        refine g_goto C (tgt := 5) dX8_ofFraction_31 (by decide) ?_
        refine g_sub [1, 2, 3, 4, 0] rfl ?_
        exact ihi (by omega) _ _ (by first | rfl | omega | (simp only [ofC]; rw [if_pos (by omega)]; (repeat' split) <;> first | rfl | omega)) (by first | rfl | omega | (simp only [ofC]; rw [if_pos (by omega)]; (repeat' split) <;> first | rfl | omega)) (by first | rfl | omega | assumption)
      · refine g_iload_n C dX8_ofFraction_18 (p := 1) (hi := rfl) (hv := rfl) ?_
        refine g_iload C dX8_ofFraction_19 (p := 4) rfl ?_
        refine g_irem C (by omega) (by omega) (by omega) dX8_ofFraction_21 ?_
        refine g_if_ne C (tgt := 28) dX8_ofFraction_22 (by decide) (tmod_R3 (by omega) (by omega)) (fun h_4 => ?_) (fun h_4 => ?_)
        · refine g_iinc C hn dX8_ofFraction_28 (p := 4) rfl rfl rfl ?_
          refine g_goto C (tgt := 5) dX8_ofFraction_31 (by decide) ?_
          refine g_sub [1, 2, 3, 4, 0] rfl ?_
          exact ihi (by omega) _ _ (by first | rfl | omega | (simp only [ofC]; rw [if_pos (by omega)]; (repeat' split) <;> first | rfl | omega)) (by first | rfl | omega | (simp only [ofC]; rw [if_pos (by omega)]; (repeat' split) <;> first | rfl | omega)) (by first | rfl | omega | assumption)
        · refine g_iload C dX8_ofFraction_25 (p := 4) rfl ?_
          refine g_istore_n C hn dX8_ofFraction_27 rfl rfl rfl ?_
          refine g_iinc C hn dX8_ofFraction_28 (p := 4) rfl rfl rfl ?_
          refine g_goto C (tgt := 5) dX8_ofFraction_31 (by decide) ?_
          refine g_sub [2, 3, 4, 1, 0] rfl ?_
          exact ihi (by omega) _ _ (by first | rfl | omega | (simp only [ofC]; rw [if_pos (by omega)]; (repeat' split) <;> first | rfl | omega)) (by first | rfl | omega | (simp only [ofC]; rw [if_pos (by omega)]; (repeat' split) <;> first | rfl | omega)) (by first | rfl | omega | assumption)
  refine g_sub [2, 3, 4, 1, 0] rfl ?_
  exact L5 2 (by omega) _ _ (by simp [ofC]) (by first | rfl | omega | simp) (by first | rfl | omega | assumption)
set_option maxHeartbeats 4000000 in
set_option maxRecDepth 100000 in
theorem kX8_countRows {l : Launch} {K : Nat → ClassId} {D : va_G} {ad : Int → Nat} {E : gEnv} {σ : Mem} (hap : Apart ad 60) (hE : gEok E) (hmi : ∀ r, 0 ≤ r → r < 8 → R3 (σ (44 + r) 1)) : CtI l K D ad 60 (cfC ad K) E yX8_countRows cX8_countRows 6 (some .int) 0 [.ref (ad 0)] σ (crC σ 8) σ := by
  refine ctI_of hap hE (by decide) rfl .int (nar_i _) (fun M C hn hret => ?_)
  have C : Good l K D ad 60 E 0 cX8_countRows RX8 M := C
  show G M ad 60 (cfC ad K) 0 [(0, .ref (ad 0))] [] σ
  refine g_iconst C dX8_countRows_0 ?_
  refine g_istore_n C hn dX8_countRows_1 rfl rfl rfl ?_
  refine g_aload_n C dX8_countRows_2 (p := 1) (hi := rfl) (hv := rfl) ?_
  refine gc_g_X8_rows C dX8_countRows_3 wf_X8_11 ?_
  refine g_astore_n C hn dX8_countRows_6 rfl rfl rfl ?_
  refine g_aload_n C dX8_countRows_7 (p := 0) (hi := rfl) (hv := rfl) ?_
  refine gc_n_rows C dX8_countRows_8 ?_
  refine g_istore_n C hn dX8_countRows_9 rfl rfl rfl ?_
  refine g_iconst C dX8_countRows_10 ?_
  refine g_istore C hn dX8_countRows_11 rfl rfl ?_
  have L13 : ∀ i : Nat, i ≤ 8 → ∀ (x1 x4 : Int), x1 = (crC σ i) → x4 = (i : Int) → G M ad 60 (cfC ad K) 13 [(0, .ref (ad 0)), (1, .int (iI x1)), (2, .ref (ad 1)), (3, .int (iI 8)), (4, .int (iI x4))] [] σ := by
    refine loopUp 8 ?_
    rintro i hi ihi x1 x4 rfl rfl
    try have hmm := hmi (i : Int) (by omega) (by omega)
    refine g_iload C dX8_countRows_13 (p := 4) rfl ?_
    refine g_iload_n C dX8_countRows_15 (p := 3) (hi := rfl) (hv := rfl) ?_
    refine g_icmp_ge C (tgt := 42) dX8_countRows_16 (by decide) (by omega) (by omega) (fun h_1 => ?_) (fun h_1 => ?_)
    · have hiN : i = 8 := by omega
      refine g_iload_n C dX8_countRows_42 (p := 1) (hi := rfl) (hv := rfl) ?_
      exact hret _ _ _ _ dX8_countRows_43 (by (try subst hiN); rfl) (by (try subst hiN); first | rfl | omega | ((repeat' split) <;> first | (exfalso; omega) | rfl | exact mu_mu | omega))
    · refine g_aload_n C dX8_countRows_19 (p := 2) (hi := rfl) (hv := rfl) ?_
      refine g_iload C dX8_countRows_20 (p := 4) rfl ?_
      refine gc_a_rows C dX8_countRows_22 (by omega) (by omega) ?_
      refine g_astore C hn dX8_countRows_23 rfl rfl ?_
      refine g_aload C dX8_countRows_25 (p := 0) rfl ?_
      refine gc_g_X5_missing C (by omega) dX8_countRows_27 wf_X8_88 ?_
      refine g_if_ne C (tgt := 36) dX8_countRows_30 (by decide) (hmi (i : Int) (by omega) (by omega)) (fun h_2 => ?_) (fun h_2 => ?_)
      · refine g_iinc C hn dX8_countRows_36 (p := 5) rfl rfl rfl ?_
        refine g_goto C (tgt := 13) dX8_countRows_39 (by decide) ?_
        refine g_sub [2, 3, 4, 5, 0] rfl ?_
        exact ihi (by omega) _ _ (by first | rfl | omega | (simp only [crC]; (repeat' split) <;> first | rfl | omega)) (by first | rfl | omega | (simp only [crC]; (repeat' split) <;> first | rfl | omega))
      · refine g_iinc C hn dX8_countRows_33 (p := 2) rfl rfl rfl ?_
        refine g_iinc C hn dX8_countRows_36 (p := 5) rfl rfl rfl ?_
        refine g_goto C (tgt := 13) dX8_countRows_39 (by decide) ?_
        refine g_sub [3, 1, 4, 5, 0] rfl ?_
        exact ihi (by omega) _ _ (by first | rfl | omega | (simp only [crC]; (repeat' split) <;> first | rfl | omega)) (by first | rfl | omega | (simp only [crC]; (repeat' split) <;> first | rfl | omega))
  refine g_sub [4, 3, 2, 1, 0] rfl ?_
  exact L13 0 (Nat.zero_le _) _ _ (by first | rfl | omega | simp) (by first | rfl | omega | simp)

set_option maxHeartbeats 4000000 in
set_option maxRecDepth 100000 in
theorem kX1_isOne {l : Launch} {K : Nat → ClassId} {D : va_G} {ad : Int → Nat} {E : gEnv} {σ : Mem} {k w : Int} {P : cP} (hap : Apart ad 60) (hE : gEok E) (hcE : ∀ (A : Nat → Prop) (U : State) (H : Heap), E A U H → cE P A U H) (hk : 0 ≤ k ∧ k ≤ 5) (rw : R3 w) : CtI l K D ad 60 (cfC ad K) E yX1_isOne cX1_isOne 4 (some .boolean) 0 [.int (iI k), .int (iI w)] σ (if anF k w 6 = w then 1 else 0) σ := by
  refine ctI_of hap hE (by decide) rfl .boolean (nar_z (by split <;> simp)) (fun M C hn hret => ?_)
  have C : Good l K D ad 60 E 0 cX1_isOne RX1 M := C
  have hcS := hcE _ _ _ (gd_E C)
  show G M ad 60 (cfC ad K) 0 [(0, .int (iI k)), (1, .int (iI w))] [] σ
  refine g_iload_n C dX1_isOne_0 (p := 0) (hi := rfl) (hv := rfl) ?_
  refine g_istore_n C hn dX1_isOne_1 rfl rfl rfl ?_
  refine g_iconst C dX1_isOne_2 ?_
  refine g_istore_n C hn dX1_isOne_3 rfl rfl rfl ?_
  have L4 : ∀ i : Nat, i ≤ 6 → ∀ (x2 x3 : Int), x2 = (anF k w i) → x3 = (i : Int) → G M ad 60 (cfC ad K) 4 [(0, .int (iI k)), (1, .int (iI w)), (2, .int (iI x2)), (3, .int (iI x3))] [] σ := by
    refine loopUp 6 ?_
    rintro i hi ihi x2 x3 rfl rfl
    have hin := anF_in (w := w) hk i
    refine g_iload_n C dX1_isOne_4 (p := 3) (hi := rfl) (hv := rfl) ?_
    refine (g_bipush C dX1_isOne_5 (by decide)) ?_
    refine g_icmp_ge C (tgt := 27) dX1_isOne_7 (by decide) (by omega) (by omega) (fun h_1 => ?_) (fun h_1 => ?_)
    · have hiN : i = 6 := by omega
      refine g_iload_n C dX1_isOne_27 (p := 2) (hi := rfl) (hv := rfl) ?_
      refine g_iload_n C dX1_isOne_28 (p := 1) (hi := rfl) (hv := rfl) ?_
      refine g_icmp_ne C (tgt := 36) dX1_isOne_29 (by decide) (by constructor <;> omega) (by omega) (fun h_2 => ?_) (fun h_2 => ?_)
      · refine g_iconst C dX1_isOne_36 ?_
        exact hret _ _ _ _ dX1_isOne_37 (by (try subst hiN); first | (exfalso; omega) | (rw [if_pos (by assumption)]) | (rw [if_neg (by assumption)]) | (have e6 := anF_stay (k := k) (w := w) (i := i) (by assumption) (n := 6) (by omega); rw [e6, if_pos (by assumption)]) | (exfalso; omega)) (by (try subst hiN); first | rfl | omega | ((repeat' split) <;> first | (exfalso; omega) | rfl | exact mu_mu | omega))
      · refine g_iconst C dX1_isOne_32 ?_
        refine g_goto C (tgt := 37) dX1_isOne_33 (by decide) ?_
        exact hret _ _ _ _ dX1_isOne_37 (by (try subst hiN); first | (exfalso; omega) | (rw [if_pos (by assumption)]) | (rw [if_neg (by assumption)]) | (have e6 := anF_stay (k := k) (w := w) (i := i) (by assumption) (n := 6) (by omega); rw [e6, if_pos (by assumption)]) | (exfalso; omega)) (by (try subst hiN); first | rfl | omega | ((repeat' split) <;> first | (exfalso; omega) | rfl | exact mu_mu | omega))
    · refine g_iload_n C dX1_isOne_10 (p := 2) (hi := rfl) (hv := rfl) ?_
      refine g_iload_n C dX1_isOne_11 (p := 1) (hi := rfl) (hv := rfl) ?_
      refine g_icmp_eq C (tgt := 27) dX1_isOne_12 (by decide) (by constructor <;> omega) (by omega) (fun h_3 => ?_) (fun h_3 => ?_)
      · refine g_iload_n C dX1_isOne_27 (p := 2) (hi := rfl) (hv := rfl) ?_
        refine g_iload_n C dX1_isOne_28 (p := 1) (hi := rfl) (hv := rfl) ?_
        refine g_icmp_ne C (tgt := 36) dX1_isOne_29 (by decide) (by constructor <;> omega) (by omega) (fun h_4 => ?_) (fun h_4 => ?_)
        · refine g_iconst C dX1_isOne_36 ?_
          exact hret _ _ _ _ dX1_isOne_37 (by (try subst hiN); first | (exfalso; omega) | (rw [if_pos (by assumption)]) | (rw [if_neg (by assumption)]) | (have e6 := anF_stay (k := k) (w := w) (i := i) (by assumption) (n := 6) (by omega); rw [e6, if_pos (by assumption)]) | (exfalso; omega)) (by (try subst hiN); first | rfl | omega | ((repeat' split) <;> first | (exfalso; omega) | rfl | exact mu_mu | omega))
        · refine g_iconst C dX1_isOne_32 ?_
          refine g_goto C (tgt := 37) dX1_isOne_33 (by decide) ?_
          exact hret _ _ _ _ dX1_isOne_37 (by (try subst hiN); first | (exfalso; omega) | (rw [if_pos (by assumption)]) | (rw [if_neg (by assumption)]) | (have e6 := anF_stay (k := k) (w := w) (i := i) (by assumption) (n := 6) (by omega); rw [e6, if_pos (by assumption)]) | (exfalso; omega)) (by (try subst hiN); first | rfl | omega | ((repeat' split) <;> first | (exfalso; omega) | rfl | exact mu_mu | omega))
      · refine g_gets C hcS.1.1.1 dX1_isOne_15 wf_X1_13 ?_
        refine g_iload_n C dX1_isOne_18 (p := 2) (hi := rfl) (hv := rfl) ?_
        refine g_ti C hcS.1.1.2 dX1_isOne_19 (by omega) (by omega) (by constructor <;> omega) ?_
        refine g_istore_n C hn dX1_isOne_20 rfl rfl rfl ?_
        refine g_iinc C hn dX1_isOne_21 (p := 3) rfl rfl rfl ?_
        refine g_goto C (tgt := 4) dX1_isOne_24 (by decide) ?_
        refine g_sub [2, 3, 1, 0] rfl ?_
        exact ihi (by omega) _ _ (by simp only [anF]; rw [if_neg (by assumption)]) (by first | rfl | omega)
  refine g_sub [2, 3, 1, 0] rfl ?_
  exact L4 0 (Nat.zero_le _) _ _ (by rfl) (by first | rfl | omega | simp)
theorem kX1_isOne_y {l : Launch} {K : Nat → ClassId} {D : va_G} {ad : Int → Nat} {E : gEnv} {σ : Mem} {k w : Int} {P : cP} (hap : Apart ad 60) (hE : gEok E) (hcE : ∀ (A : Nat → Prop) (U : State) (H : Heap), E A U H → cE P A U H) (hk : 0 ≤ k ∧ k ≤ 5) (rw : R3 w) (hcond : anF k w 6 = w) : CtI l K D ad 60 (cfC ad K) E yX1_isOne cX1_isOne 4 (some .boolean) 0 [.int (iI k), .int (iI w)] σ 1 σ := by
  have h1 := kX1_isOne (l := l) (K := K) (D := D) (E := E) (σ := σ) (k := k) (w := w) (P := P) hap hE hcE hk rw
  rw [if_pos hcond] at h1
  exact h1
theorem kX1_isOne_n {l : Launch} {K : Nat → ClassId} {D : va_G} {ad : Int → Nat} {E : gEnv} {σ : Mem} {k w : Int} {P : cP} (hap : Apart ad 60) (hE : gEok E) (hcE : ∀ (A : Nat → Prop) (U : State) (H : Heap), E A U H → cE P A U H) (hk : 0 ≤ k ∧ k ≤ 5) (rw : R3 w) (hcond : ¬ (anF k w 6 = w)) : CtI l K D ad 60 (cfC ad K) E yX1_isOne cX1_isOne 4 (some .boolean) 0 [.int (iI k), .int (iI w)] σ 0 σ := by
  have h1 := kX1_isOne (l := l) (K := K) (D := D) (E := E) (σ := σ) (k := k) (w := w) (P := P) hap hE hcE hk rw
  rw [if_neg hcond] at h1
  exact h1
set_option maxHeartbeats 4000000 in
set_option maxRecDepth 100000 in
theorem kX1_bodyOf_s {l : Launch} {K : Nat → ClassId} {D : va_G} {ad : Int → Nat} {E : gEnv} {σ : Mem} {k : Int} {P : cP} (hap : Apart ad 60) (hE : gEok E) (hcE : ∀ (A : Nat → Prop) (U : State) (H : Heap), E A U H → cE P A U H) (hk : 0 ≤ k ∧ k ≤ 5) : CtI l K D ad 60 (cfC ad K) E yX1_bodyOf cX1_bodyOf 4 (some .int) 0 [.int (iI k), .ref P.1.2.1] σ (sizeL.getD (boF sizeL k 6).toNat 0) σ := by
  refine ctI_of hap hE (by decide) rfl .int (nar_i _) (fun M C hn hret => ?_)
  have C : Good l K D ad 60 E 0 cX1_bodyOf RX1 M := C
  have hcS := hcE _ _ _ (gd_E C)
  show G M ad 60 (cfC ad K) 0 [(0, .int (iI k)), (1, .ref P.1.2.1)] [] σ
  refine g_iload_n C dX1_bodyOf_0 (p := 0) (hi := rfl) (hv := rfl) ?_
  refine g_istore_n C hn dX1_bodyOf_1 rfl rfl rfl ?_
  refine g_iconst C dX1_bodyOf_2 ?_
  refine g_istore_n C hn dX1_bodyOf_3 rfl rfl rfl ?_
  have L4 : ∀ i : Nat, i ≤ 6 → ∀ (x2 x3 : Int), x2 = (boF sizeL k i) → x3 = (i : Int) → G M ad 60 (cfC ad K) 4 [(0, .int (iI k)), (1, .ref P.1.2.1), (2, .int (iI x2)), (3, .int (iI x3))] [] σ := by
    refine loopUp 6 ?_
    rintro i hi ihi x2 x3 rfl rfl
    have hin := boF_in (L := sizeL) hk i
    have hL := sizeL_in (boF sizeL k i).toNat
    refine g_iload_n C dX1_bodyOf_4 (p := 3) (hi := rfl) (hv := rfl) ?_
    refine (g_bipush C dX1_bodyOf_5 (by decide)) ?_
    refine g_icmp_ge C (tgt := 28) dX1_bodyOf_7 (by decide) (by omega) (by omega) (fun h_1 => ?_) (fun h_1 => ?_)
    · have hiN : i = 6 := by omega
      refine g_aload_n C dX1_bodyOf_28 (p := 1) (hi := rfl) (hv := rfl) ?_
      refine g_iload_n C dX1_bodyOf_29 (p := 2) (hi := rfl) (hv := rfl) ?_
      refine g_ti C hcS.1.2.1.2 dX1_bodyOf_30 (by omega) (by omega) (by constructor <;> omega) ?_
      exact hret _ _ _ _ dX1_bodyOf_31 (by (try subst hiN); first | rfl | (have e6 := boF_stay (L := sizeL) (k := k) (i := i) (by assumption) (n := 6) (by omega); rw [e6]) | (exfalso; omega)) (by (try subst hiN); first | rfl | omega | ((repeat' split) <;> first | (exfalso; omega) | rfl | exact mu_mu | omega))
    · refine g_aload_n C dX1_bodyOf_10 (p := 1) (hi := rfl) (hv := rfl) ?_
      refine g_iload_n C dX1_bodyOf_11 (p := 2) (hi := rfl) (hv := rfl) ?_
      refine g_ti C hcS.1.2.1.2 dX1_bodyOf_12 (by omega) (by omega) (by constructor <;> omega) ?_
      refine g_if_ne C (tgt := 28) dX1_bodyOf_13 (by decide) (by constructor <;> omega) (fun h_2 => ?_) (fun h_2 => ?_)
      · refine g_aload_n C dX1_bodyOf_28 (p := 1) (hi := rfl) (hv := rfl) ?_
        refine g_iload_n C dX1_bodyOf_29 (p := 2) (hi := rfl) (hv := rfl) ?_
        refine g_ti C hcS.1.2.1.2 dX1_bodyOf_30 (by omega) (by omega) (by constructor <;> omega) ?_
        exact hret _ _ _ _ dX1_bodyOf_31 (by (try subst hiN); first | rfl | (have e6 := boF_stay (L := sizeL) (k := k) (i := i) (by assumption) (n := 6) (by omega); rw [e6]) | (exfalso; omega)) (by (try subst hiN); first | rfl | omega | ((repeat' split) <;> first | (exfalso; omega) | rfl | exact mu_mu | omega))
      · refine g_gets C hcS.1.1.1 dX1_bodyOf_16 wf_X1_13 ?_
        refine g_iload_n C dX1_bodyOf_19 (p := 2) (hi := rfl) (hv := rfl) ?_
        refine g_ti C hcS.1.1.2 dX1_bodyOf_20 (by omega) (by omega) (by constructor <;> omega) ?_
        refine g_istore_n C hn dX1_bodyOf_21 rfl rfl rfl ?_
        refine g_iinc C hn dX1_bodyOf_22 (p := 3) rfl rfl rfl ?_
        refine g_goto C (tgt := 4) dX1_bodyOf_25 (by decide) ?_
        refine g_sub [2, 3, 1, 0] rfl ?_
        exact ihi (by omega) _ _ (by simp only [boF]; rw [if_pos (by assumption)]) (by first | rfl | omega)
  refine g_sub [2, 3, 1, 0] rfl ?_
  exact L4 0 (Nat.zero_le _) _ _ (by rfl) (by first | rfl | omega | simp)
set_option maxHeartbeats 4000000 in
set_option maxRecDepth 100000 in
theorem kX1_bodyOf_m {l : Launch} {K : Nat → ClassId} {D : va_G} {ad : Int → Nat} {E : gEnv} {σ : Mem} {k : Int} {P : cP} (hap : Apart ad 60) (hE : gEok E) (hcE : ∀ (A : Nat → Prop) (U : State) (H : Heap), E A U H → cE P A U H) (hk : 0 ≤ k ∧ k ≤ 5) : CtI l K D ad 60 (cfC ad K) E yX1_bodyOf cX1_bodyOf 4 (some .int) 0 [.int (iI k), .ref P.1.2.2.1] σ (markL.getD (boF markL k 6).toNat 0) σ := by
  refine ctI_of hap hE (by decide) rfl .int (nar_i _) (fun M C hn hret => ?_)
  have C : Good l K D ad 60 E 0 cX1_bodyOf RX1 M := C
  have hcS := hcE _ _ _ (gd_E C)
  show G M ad 60 (cfC ad K) 0 [(0, .int (iI k)), (1, .ref P.1.2.2.1)] [] σ
  refine g_iload_n C dX1_bodyOf_0 (p := 0) (hi := rfl) (hv := rfl) ?_
  refine g_istore_n C hn dX1_bodyOf_1 rfl rfl rfl ?_
  refine g_iconst C dX1_bodyOf_2 ?_
  refine g_istore_n C hn dX1_bodyOf_3 rfl rfl rfl ?_
  have L4 : ∀ i : Nat, i ≤ 6 → ∀ (x2 x3 : Int), x2 = (boF markL k i) → x3 = (i : Int) → G M ad 60 (cfC ad K) 4 [(0, .int (iI k)), (1, .ref P.1.2.2.1), (2, .int (iI x2)), (3, .int (iI x3))] [] σ := by
    refine loopUp 6 ?_
    rintro i hi ihi x2 x3 rfl rfl
    have hin := boF_in (L := markL) hk i
    have hL := markL_in (boF markL k i).toNat
    refine g_iload_n C dX1_bodyOf_4 (p := 3) (hi := rfl) (hv := rfl) ?_
    refine (g_bipush C dX1_bodyOf_5 (by decide)) ?_
    refine g_icmp_ge C (tgt := 28) dX1_bodyOf_7 (by decide) (by omega) (by omega) (fun h_1 => ?_) (fun h_1 => ?_)
    · have hiN : i = 6 := by omega
      refine g_aload_n C dX1_bodyOf_28 (p := 1) (hi := rfl) (hv := rfl) ?_
      refine g_iload_n C dX1_bodyOf_29 (p := 2) (hi := rfl) (hv := rfl) ?_
      refine g_ti C hcS.1.2.2.2 dX1_bodyOf_30 (by omega) (by omega) (by constructor <;> omega) ?_
      exact hret _ _ _ _ dX1_bodyOf_31 (by (try subst hiN); first | rfl | (have e6 := boF_stay (L := markL) (k := k) (i := i) (by assumption) (n := 6) (by omega); rw [e6]) | (exfalso; omega)) (by (try subst hiN); first | rfl | omega | ((repeat' split) <;> first | (exfalso; omega) | rfl | exact mu_mu | omega))
    · refine g_aload_n C dX1_bodyOf_10 (p := 1) (hi := rfl) (hv := rfl) ?_
      refine g_iload_n C dX1_bodyOf_11 (p := 2) (hi := rfl) (hv := rfl) ?_
      refine g_ti C hcS.1.2.2.2 dX1_bodyOf_12 (by omega) (by omega) (by constructor <;> omega) ?_
      refine g_if_ne C (tgt := 28) dX1_bodyOf_13 (by decide) (by constructor <;> omega) (fun h_2 => ?_) (fun h_2 => ?_)
      · refine g_aload_n C dX1_bodyOf_28 (p := 1) (hi := rfl) (hv := rfl) ?_
        refine g_iload_n C dX1_bodyOf_29 (p := 2) (hi := rfl) (hv := rfl) ?_
        refine g_ti C hcS.1.2.2.2 dX1_bodyOf_30 (by omega) (by omega) (by constructor <;> omega) ?_
        exact hret _ _ _ _ dX1_bodyOf_31 (by (try subst hiN); first | rfl | (have e6 := boF_stay (L := markL) (k := k) (i := i) (by assumption) (n := 6) (by omega); rw [e6]) | (exfalso; omega)) (by (try subst hiN); first | rfl | omega | ((repeat' split) <;> first | (exfalso; omega) | rfl | exact mu_mu | omega))
      · refine g_gets C hcS.1.1.1 dX1_bodyOf_16 wf_X1_13 ?_
        refine g_iload_n C dX1_bodyOf_19 (p := 2) (hi := rfl) (hv := rfl) ?_
        refine g_ti C hcS.1.1.2 dX1_bodyOf_20 (by omega) (by omega) (by constructor <;> omega) ?_
        refine g_istore_n C hn dX1_bodyOf_21 rfl rfl rfl ?_
        refine g_iinc C hn dX1_bodyOf_22 (p := 3) rfl rfl rfl ?_
        refine g_goto C (tgt := 4) dX1_bodyOf_25 (by decide) ?_
        refine g_sub [2, 3, 1, 0] rfl ?_
        exact ihi (by omega) _ _ (by simp only [boF]; rw [if_pos (by assumption)]) (by first | rfl | omega)
  refine g_sub [2, 3, 1, 0] rfl ?_
  exact L4 0 (Nat.zero_le _) _ _ (by rfl) (by first | rfl | omega | simp)
set_option maxHeartbeats 4000000 in
set_option maxRecDepth 100000 in
theorem kX1_sizeBody {l : Launch} {K : Nat → ClassId} {D : va_G} {ad : Int → Nat} {E : gEnv} {σ : Mem} {P : cP} (hap : Apart ad 60) (hE : gEok E) (hcE : ∀ (A : Nat → Prop) (U : State) (H : Heap), E A U H → cE P A U H) (hk3 : 0 ≤ σ 18 3 ∧ σ 18 3 ≤ 5) : CtI l K D ad 60 (cfC ad K) E yX1_sizeBody cX1_sizeBody 1 (some .int) 1 [.ref (ad 18)] σ (sbF (σ 18 3)) σ := by
  refine ctI_of hap hE (by decide) rfl .int (nar_i _) (fun M C hn hret => ?_)
  have C : Good l K D ad 60 E 1 cX1_sizeBody RX1 M := C
  have hcS := hcE _ _ _ (gd_E C)
  show G M ad 60 (cfC ad K) 0 [(0, .ref (ad 18))] [] σ
  refine g_aload_n C dX1_sizeBody_0 (p := 0) (hi := rfl) (hv := rfl) ?_
  refine gc_g_X1_askedKind C dX1_sizeBody_1 wf_X1_28 ?_
  refine g_gets C hcS.1.2.1.1 dX1_sizeBody_4 wf_X1_55 ?_
  refine g_callS C dX1_sizeBody_7 (kX1_bodyOf_s (σ := σ) (k := σ 18 3) (P := P) hap hE (by first | assumption | omega | exact hk3) (by first | assumption | omega | exact hk3)) mw_X1_bodyOf wl_X1_58 (by decide) (by decide) rfl rfl (by simp [Value.category]) ?_
  exact hret _ _ _ _ dX1_sizeBody_10 (by exact (sbF_eq hk3).symm) (by first | rfl | omega | ((repeat' split) <;> first | (exfalso; omega) | rfl | exact mu_mu | omega))
set_option maxHeartbeats 4000000 in
set_option maxRecDepth 100000 in
theorem kX1_markBody {l : Launch} {K : Nat → ClassId} {D : va_G} {ad : Int → Nat} {E : gEnv} {σ : Mem} {P : cP} (hap : Apart ad 60) (hE : gEok E) (hcE : ∀ (A : Nat → Prop) (U : State) (H : Heap), E A U H → cE P A U H) (hk3 : 0 ≤ σ 18 3 ∧ σ 18 3 ≤ 5) : CtI l K D ad 60 (cfC ad K) E yX1_markBody cX1_markBody 1 (some .int) 1 [.ref (ad 18)] σ (mbF (σ 18 3)) σ := by
  refine ctI_of hap hE (by decide) rfl .int (nar_i _) (fun M C hn hret => ?_)
  have C : Good l K D ad 60 E 1 cX1_markBody RX1 M := C
  have hcS := hcE _ _ _ (gd_E C)
  show G M ad 60 (cfC ad K) 0 [(0, .ref (ad 18))] [] σ
  refine g_aload_n C dX1_markBody_0 (p := 0) (hi := rfl) (hv := rfl) ?_
  refine gc_g_X1_askedKind C dX1_markBody_1 wf_X1_28 ?_
  refine g_gets C hcS.1.2.2.1 dX1_markBody_4 wf_X1_62 ?_
  refine g_callS C dX1_markBody_7 (kX1_bodyOf_m (σ := σ) (k := σ 18 3) (P := P) hap hE (by first | assumption | omega | exact hk3) (by first | assumption | omega | exact hk3)) mw_X1_bodyOf wl_X1_58 (by decide) (by decide) rfl rfl (by simp [Value.category]) ?_
  exact hret _ _ _ _ dX1_markBody_10 (by exact (mbF_eq hk3).symm) (by first | rfl | omega | ((repeat' split) <;> first | (exfalso; omega) | rfl | exact mu_mu | omega))
set_option maxHeartbeats 4000000 in
set_option maxRecDepth 100000 in
theorem kX1_leave {l : Launch} {K : Nat → ClassId} {D : va_G} {ad : Int → Nat} {E : gEnv} {σ : Mem} {b : Int} (hap : Apart ad 60) (hE : gEok E) (ht : 0 ≤ σ 18 0 ∧ σ 18 0 < 16) : CtV l K D ad 60 (cfC ad K) E yX1_leave cX1_leave 2 none 0 [.ref (ad 18), .int (iI b)] σ (mu (mu σ 19 (σ 18 0) b) 18 0 (σ 18 0 + 1)) := by
  refine ctV_of hap hE (by decide) rfl (fun M C hn hret => ?_)
  have C : Good l K D ad 60 E 0 cX1_leave RX1 M := C
  show G M ad 60 (cfC ad K) 0 [(0, .ref (ad 18)), (1, .int (iI b))] [] σ
  refine g_aload_n C dX1_leave_0 (p := 0) (hi := rfl) (hv := rfl) ?_
  refine gc_g_X1_traced C dX1_leave_1 wf_X1_16 ?_
  refine (g_bipush C dX1_leave_4 (by decide)) ?_
  refine g_icmp_ge C (tgt := 29) dX1_leave_6 (by decide) (by omega) (by omega) (fun h_1 => ?_) (fun h_1 => ?_)
  · exact hret _ _ _ dX1_leave_29 (by first | rfl | (exfalso; omega))
  · refine g_aload_n C dX1_leave_9 (p := 0) (hi := rfl) (hv := rfl) ?_
    refine gc_g_X1_trail C dX1_leave_10 wf_X1_9 ?_
    refine g_aload_n C dX1_leave_13 (p := 0) (hi := rfl) (hv := rfl) ?_
    refine gc_g_X1_traced C dX1_leave_14 wf_X1_16 ?_
    refine g_iload_n C dX1_leave_17 (p := 1) (hi := rfl) (hv := rfl) ?_
    refine gc_s_trail C dX1_leave_18 (by omega) (by omega) ?_
    refine g_aload_n C dX1_leave_19 (p := 0) (hi := rfl) (hv := rfl) ?_
    refine g_dup C dX1_leave_20 rfl ?_
    refine gc_g_X1_traced C dX1_leave_21 wf_X1_16 ?_
    refine g_cI (b := (σ 18 0)) (by first | rfl | (simp only [mu_app, mr_app, ru, over, and_self, ↓reduceIte]; (repeat (first | rw [if_neg (by omega)] | rw [if_pos (by omega)])))) ?_
    refine g_iconst C dX1_leave_24 ?_
    refine g_iadd C dX1_leave_25 ?_
    refine gc_p_X1_traced C dX1_leave_26 wf_X1_16 ?_
    exact hret _ _ _ dX1_leave_29 (by first | rfl | (exfalso; omega))
theorem kX1_sizeBody_0 {l : Launch} {K : Nat → ClassId} {D : va_G} {ad : Int → Nat} {E : gEnv} {σ : Mem} {P : cP} (hap : Apart ad 60) (hE : gEok E) (hcE : ∀ (A : Nat → Prop) (U : State) (H : Heap), E A U H → cE P A U H) (hk : σ 18 3 = 0) : CtI l K D ad 60 (cfC ad K) E yX1_sizeBody cX1_sizeBody 1 (some .int) 1 [.ref (ad 18)] σ 10 σ := by
  have h := kX1_sizeBody (l := l) (K := K) (D := D) (E := E) (σ := σ) (P := P) hap hE hcE (by omega)
  rw [hk] at h
  exact h
theorem kX1_sizeBody_1 {l : Launch} {K : Nat → ClassId} {D : va_G} {ad : Int → Nat} {E : gEnv} {σ : Mem} {P : cP} (hap : Apart ad 60) (hE : gEok E) (hcE : ∀ (A : Nat → Prop) (U : State) (H : Heap), E A U H → cE P A U H) (hk : σ 18 3 = 1) : CtI l K D ad 60 (cfC ad K) E yX1_sizeBody cX1_sizeBody 1 (some .int) 1 [.ref (ad 18)] σ 11 σ := by
  have h := kX1_sizeBody (l := l) (K := K) (D := D) (E := E) (σ := σ) (P := P) hap hE hcE (by omega)
  rw [hk] at h
  exact h
theorem kX1_sizeBody_2 {l : Launch} {K : Nat → ClassId} {D : va_G} {ad : Int → Nat} {E : gEnv} {σ : Mem} {P : cP} (hap : Apart ad 60) (hE : gEok E) (hcE : ∀ (A : Nat → Prop) (U : State) (H : Heap), E A U H → cE P A U H) (hk : σ 18 3 = 2) : CtI l K D ad 60 (cfC ad K) E yX1_sizeBody cX1_sizeBody 1 (some .int) 1 [.ref (ad 18)] σ 12 σ := by
  have h := kX1_sizeBody (l := l) (K := K) (D := D) (E := E) (σ := σ) (P := P) hap hE hcE (by omega)
  rw [hk] at h
  exact h
theorem kX1_sizeBody_3 {l : Launch} {K : Nat → ClassId} {D : va_G} {ad : Int → Nat} {E : gEnv} {σ : Mem} {P : cP} (hap : Apart ad 60) (hE : gEok E) (hcE : ∀ (A : Nat → Prop) (U : State) (H : Heap), E A U H → cE P A U H) (hk : σ 18 3 = 3) : CtI l K D ad 60 (cfC ad K) E yX1_sizeBody cX1_sizeBody 1 (some .int) 1 [.ref (ad 18)] σ 11 σ := by
  have h := kX1_sizeBody (l := l) (K := K) (D := D) (E := E) (σ := σ) (P := P) hap hE hcE (by omega)
  rw [hk] at h
  exact h
theorem kX1_sizeBody_4 {l : Launch} {K : Nat → ClassId} {D : va_G} {ad : Int → Nat} {E : gEnv} {σ : Mem} {P : cP} (hap : Apart ad 60) (hE : gEok E) (hcE : ∀ (A : Nat → Prop) (U : State) (H : Heap), E A U H → cE P A U H) (hk : σ 18 3 = 4) : CtI l K D ad 60 (cfC ad K) E yX1_sizeBody cX1_sizeBody 1 (some .int) 1 [.ref (ad 18)] σ 13 σ := by
  have h := kX1_sizeBody (l := l) (K := K) (D := D) (E := E) (σ := σ) (P := P) hap hE hcE (by omega)
  rw [hk] at h
  exact h
theorem kX1_sizeBody_5 {l : Launch} {K : Nat → ClassId} {D : va_G} {ad : Int → Nat} {E : gEnv} {σ : Mem} {P : cP} (hap : Apart ad 60) (hE : gEok E) (hcE : ∀ (A : Nat → Prop) (U : State) (H : Heap), E A U H → cE P A U H) (hk : σ 18 3 = 5) : CtI l K D ad 60 (cfC ad K) E yX1_sizeBody cX1_sizeBody 1 (some .int) 1 [.ref (ad 18)] σ 14 σ := by
  have h := kX1_sizeBody (l := l) (K := K) (D := D) (E := E) (σ := σ) (P := P) hap hE hcE (by omega)
  rw [hk] at h
  exact h
theorem kX1_markBody_0 {l : Launch} {K : Nat → ClassId} {D : va_G} {ad : Int → Nat} {E : gEnv} {σ : Mem} {P : cP} (hap : Apart ad 60) (hE : gEok E) (hcE : ∀ (A : Nat → Prop) (U : State) (H : Heap), E A U H → cE P A U H) (hk : σ 18 3 = 0) : CtI l K D ad 60 (cfC ad K) E yX1_markBody cX1_markBody 1 (some .int) 1 [.ref (ad 18)] σ 20 σ := by
  have h := kX1_markBody (l := l) (K := K) (D := D) (E := E) (σ := σ) (P := P) hap hE hcE (by omega)
  rw [hk] at h
  exact h
theorem kX1_markBody_1 {l : Launch} {K : Nat → ClassId} {D : va_G} {ad : Int → Nat} {E : gEnv} {σ : Mem} {P : cP} (hap : Apart ad 60) (hE : gEok E) (hcE : ∀ (A : Nat → Prop) (U : State) (H : Heap), E A U H → cE P A U H) (hk : σ 18 3 = 1) : CtI l K D ad 60 (cfC ad K) E yX1_markBody cX1_markBody 1 (some .int) 1 [.ref (ad 18)] σ 21 σ := by
  have h := kX1_markBody (l := l) (K := K) (D := D) (E := E) (σ := σ) (P := P) hap hE hcE (by omega)
  rw [hk] at h
  exact h
theorem kX1_markBody_2 {l : Launch} {K : Nat → ClassId} {D : va_G} {ad : Int → Nat} {E : gEnv} {σ : Mem} {P : cP} (hap : Apart ad 60) (hE : gEok E) (hcE : ∀ (A : Nat → Prop) (U : State) (H : Heap), E A U H → cE P A U H) (hk : σ 18 3 = 2) : CtI l K D ad 60 (cfC ad K) E yX1_markBody cX1_markBody 1 (some .int) 1 [.ref (ad 18)] σ 24 σ := by
  have h := kX1_markBody (l := l) (K := K) (D := D) (E := E) (σ := σ) (P := P) hap hE hcE (by omega)
  rw [hk] at h
  exact h
theorem kX1_markBody_3 {l : Launch} {K : Nat → ClassId} {D : va_G} {ad : Int → Nat} {E : gEnv} {σ : Mem} {P : cP} (hap : Apart ad 60) (hE : gEok E) (hcE : ∀ (A : Nat → Prop) (U : State) (H : Heap), E A U H → cE P A U H) (hk : σ 18 3 = 3) : CtI l K D ad 60 (cfC ad K) E yX1_markBody cX1_markBody 1 (some .int) 1 [.ref (ad 18)] σ 22 σ := by
  have h := kX1_markBody (l := l) (K := K) (D := D) (E := E) (σ := σ) (P := P) hap hE hcE (by omega)
  rw [hk] at h
  exact h
theorem kX1_markBody_4 {l : Launch} {K : Nat → ClassId} {D : va_G} {ad : Int → Nat} {E : gEnv} {σ : Mem} {P : cP} (hap : Apart ad 60) (hE : gEok E) (hcE : ∀ (A : Nat → Prop) (U : State) (H : Heap), E A U H → cE P A U H) (hk : σ 18 3 = 4) : CtI l K D ad 60 (cfC ad K) E yX1_markBody cX1_markBody 1 (some .int) 1 [.ref (ad 18)] σ 23 σ := by
  have h := kX1_markBody (l := l) (K := K) (D := D) (E := E) (σ := σ) (P := P) hap hE hcE (by omega)
  rw [hk] at h
  exact h
theorem kX1_markBody_5 {l : Launch} {K : Nat → ClassId} {D : va_G} {ad : Int → Nat} {E : gEnv} {σ : Mem} {P : cP} (hap : Apart ad 60) (hE : gEok E) (hcE : ∀ (A : Nat → Prop) (U : State) (H : Heap), E A U H → cE P A U H) (hk : σ 18 3 = 5) : CtI l K D ad 60 (cfC ad K) E yX1_markBody cX1_markBody 1 (some .int) 1 [.ref (ad 18)] σ 23 σ := by
  have h := kX1_markBody (l := l) (K := K) (D := D) (E := E) (σ := σ) (P := P) hap hE hcE (by omega)
  rw [hk] at h
  exact h
set_option maxHeartbeats 4000000 in
set_option maxRecDepth 100000 in
theorem kX1_begin_10 {l : Launch} {K : Nat → ClassId} {D : va_G} {ad : Int → Nat} {E : gEnv} {σ : Mem} {d : Int} {P : cP} (hap : Apart ad 60) (hE : gEok E) (hcE : ∀ (A : Nat → Prop) (U : State) (H : Heap), E A U H → cE P A U H) (hd : 0 ≤ d ∧ d ≤ 8) (ht : 0 ≤ σ 18 0 ∧ σ 18 0 ≤ 15) : CtI l K D ad 60 (cfC ad K) E yX1_begin cX1_begin 4 (some .int) 2 [.ref (ad 18), .int (iI 10), .int (iI d)] σ (σ 18 4) (mu (mu σ 19 (σ 18 0) 10) 18 0 (σ 18 0 + 1)) := by
  refine ctI_of hap hE (by decide) rfl .int (nar_i _) (fun M C hn hret => ?_)
  have C : Good l K D ad 60 E 2 cX1_begin RX1 M := C
  have hcS := hcE _ _ _ (gd_E C)
  show G M ad 60 (cfC ad K) 0 [(0, .ref (ad 18)), (1, .int (iI 10)), (2, .int (iI d))] [] σ
  refine g_iload_n C dX1_begin_0 (p := 2) (hi := rfl) (hv := rfl) ?_
  refine (g_bipush C dX1_begin_1 (by decide)) ?_
  refine g_icmp_le C (tgt := 8) dX1_begin_3 (by decide) (by omega) (by omega) (fun h_1 => ?_) (fun h_1 => ?_)
  · refine g_aload_n C dX1_begin_8 (p := 0) (hi := rfl) (hv := rfl) ?_
    refine g_iload_n C dX1_begin_9 (p := 1) (hi := rfl) (hv := rfl) ?_
    refine gc_callv_X1 C dX1_begin_10 (kX1_leave (σ := σ) (b := 10) hap hE (by first | assumption | omega | exact hd | exact ht)) mw_X1_leave wl_X1_65 (by decide) (by decide) rfl rfl (by simp [Value.category]) ?_
    refine g_iload_n C dX1_begin_13 (p := 2) (hi := rfl) (hv := rfl) ?_
    refine g_iconst C dX1_begin_14 ?_
    refine g_iadd C dX1_begin_15 ?_
    refine g_istore_n C hn dX1_begin_16 rfl rfl rfl ?_
    refine g_iload_n C dX1_begin_17 (p := 2) (hi := rfl) (hv := rfl) ?_
    refine g_swIn C 10 (tgt := 92) dX1_begin_18 (by omega) rfl (by decide) (by decide) rfl (by decide) ?_
    refine g_aload_n C dX1_begin_92 (p := 1) (hi := rfl) (hv := rfl) ?_
    refine gc_g_X1_askedCoin C dX1_begin_93 wf_X1_34 ?_
    refine g_cI (b := (σ 18 4)) (by first | rfl | (simp only [mu_app, mr_app, ru, over, and_self, ↓reduceIte]; (repeat (first | rw [if_neg (by omega)] | rw [if_pos (by omega)])))) ?_
    exact hret _ _ _ _ dX1_begin_96 (by first | rfl | omega) (by first | rfl | (funext k_ j_; simp only [mu_app, mr_app]; (repeat' split) <;> first | rfl | omega | (exfalso; omega)))
  · refine g_iconst C dX1_begin_6 ?_
    exact hret _ _ _ _ dX1_begin_7 (by first | rfl | omega) (by first | rfl | (funext k_ j_; simp only [mu_app, mr_app]; (repeat' split) <;> first | rfl | omega | (exfalso; omega)))
set_option maxHeartbeats 4000000 in
set_option maxRecDepth 100000 in
theorem kX1_begin_20 {l : Launch} {K : Nat → ClassId} {D : va_G} {ad : Int → Nat} {E : gEnv} {σ : Mem} {d : Int} {P : cP} (hap : Apart ad 60) (hE : gEok E) (hcE : ∀ (A : Nat → Prop) (U : State) (H : Heap), E A U H → cE P A U H) (hd : 0 ≤ d ∧ d ≤ 8) (ht : 0 ≤ σ 18 0 ∧ σ 18 0 ≤ 15) : CtI l K D ad 60 (cfC ad K) E yX1_begin cX1_begin 4 (some .int) 2 [.ref (ad 18), .int (iI 20), .int (iI d)] σ (σ 18 2) (mu (mu σ 19 (σ 18 0) 20) 18 0 (σ 18 0 + 1)) := by
  refine ctI_of hap hE (by decide) rfl .int (nar_i _) (fun M C hn hret => ?_)
  have C : Good l K D ad 60 E 2 cX1_begin RX1 M := C
  have hcS := hcE _ _ _ (gd_E C)
  show G M ad 60 (cfC ad K) 0 [(0, .ref (ad 18)), (1, .int (iI 20)), (2, .int (iI d))] [] σ
  refine g_iload_n C dX1_begin_0 (p := 2) (hi := rfl) (hv := rfl) ?_
  refine (g_bipush C dX1_begin_1 (by decide)) ?_
  refine g_icmp_le C (tgt := 8) dX1_begin_3 (by decide) (by omega) (by omega) (fun h_1 => ?_) (fun h_1 => ?_)
  · refine g_aload_n C dX1_begin_8 (p := 0) (hi := rfl) (hv := rfl) ?_
    refine g_iload_n C dX1_begin_9 (p := 1) (hi := rfl) (hv := rfl) ?_
    refine gc_callv_X1 C dX1_begin_10 (kX1_leave (σ := σ) (b := 20) hap hE (by first | assumption | omega | exact hd | exact ht)) mw_X1_leave wl_X1_65 (by decide) (by decide) rfl rfl (by simp [Value.category]) ?_
    refine g_iload_n C dX1_begin_13 (p := 2) (hi := rfl) (hv := rfl) ?_
    refine g_iconst C dX1_begin_14 ?_
    refine g_iadd C dX1_begin_15 ?_
    refine g_istore_n C hn dX1_begin_16 rfl rfl rfl ?_
    refine g_iload_n C dX1_begin_17 (p := 2) (hi := rfl) (hv := rfl) ?_
    refine g_swIn C 20 (tgt := 145) dX1_begin_18 (by omega) rfl (by decide) (by decide) rfl (by decide) ?_
    refine g_aload_n C dX1_begin_145 (p := 1) (hi := rfl) (hv := rfl) ?_
    refine gc_g_X1_asked C dX1_begin_146 wf_X1_20 ?_
    refine g_cI (b := (σ 18 2)) (by first | rfl | (simp only [mu_app, mr_app, ru, over, and_self, ↓reduceIte]; (repeat (first | rw [if_neg (by omega)] | rw [if_pos (by omega)])))) ?_
    exact hret _ _ _ _ dX1_begin_149 (by first | rfl | omega) (by first | rfl | (funext k_ j_; simp only [mu_app, mr_app]; (repeat' split) <;> first | rfl | omega | (exfalso; omega)))
  · refine g_iconst C dX1_begin_6 ?_
    exact hret _ _ _ _ dX1_begin_7 (by first | rfl | omega) (by first | rfl | (funext k_ j_; simp only [mu_app, mr_app]; (repeat' split) <;> first | rfl | omega | (exfalso; omega)))
set_option maxHeartbeats 4000000 in
set_option maxRecDepth 100000 in
theorem kX1_begin_21 {l : Launch} {K : Nat → ClassId} {D : va_G} {ad : Int → Nat} {E : gEnv} {σ : Mem} {d : Int} {P : cP} (hap : Apart ad 60) (hE : gEok E) (hcE : ∀ (A : Nat → Prop) (U : State) (H : Heap), E A U H → cE P A U H) (hd : 0 ≤ d ∧ d ≤ 7) (ht : 0 ≤ σ 18 0 ∧ σ 18 0 ≤ 14) : CtI l K D ad 60 (cfC ad K) E yX1_begin cX1_begin 4 (some .int) 3 [.ref (ad 18), .int (iI 21), .int (iI d)] σ (σ 18 2 + σ 18 5) (mu (mu (mu σ 19 (σ 18 0) 21) 19 (σ 18 0 + 1) 20) 18 0 (σ 18 0 + 2)) := by
  refine ctI_of hap hE (by decide) rfl .int (nar_i _) (fun M C hn hret => ?_)
  have C : Good l K D ad 60 E 3 cX1_begin RX1 M := C
  have hcS := hcE _ _ _ (gd_E C)
  show G M ad 60 (cfC ad K) 0 [(0, .ref (ad 18)), (1, .int (iI 21)), (2, .int (iI d))] [] σ
  refine g_iload_n C dX1_begin_0 (p := 2) (hi := rfl) (hv := rfl) ?_
  refine (g_bipush C dX1_begin_1 (by decide)) ?_
  refine g_icmp_le C (tgt := 8) dX1_begin_3 (by decide) (by omega) (by omega) (fun h_1 => ?_) (fun h_1 => ?_)
  · refine g_aload_n C dX1_begin_8 (p := 0) (hi := rfl) (hv := rfl) ?_
    refine g_iload_n C dX1_begin_9 (p := 1) (hi := rfl) (hv := rfl) ?_
    refine gc_callv_X1 C dX1_begin_10 (kX1_leave (σ := σ) (b := 21) hap hE (by first | assumption | omega | exact hd | exact ht)) mw_X1_leave wl_X1_65 (by decide) (by decide) rfl rfl (by simp [Value.category]) ?_
    refine g_iload_n C dX1_begin_13 (p := 2) (hi := rfl) (hv := rfl) ?_
    refine g_iconst C dX1_begin_14 ?_
    refine g_iadd C dX1_begin_15 ?_
    refine g_istore_n C hn dX1_begin_16 rfl rfl rfl ?_
    refine g_iload_n C dX1_begin_17 (p := 2) (hi := rfl) (hv := rfl) ?_
    refine g_swIn C 21 (tgt := 150) dX1_begin_18 (by omega) rfl (by decide) (by decide) rfl (by decide) ?_
    refine g_aload_n C dX1_begin_150 (p := 1) (hi := rfl) (hv := rfl) ?_
    refine (g_bipush C dX1_begin_151 (by decide)) ?_
    refine g_iload_n C dX1_begin_153 (p := 0) (hi := rfl) (hv := rfl) ?_
    refine gc_call_X1 C dX1_begin_154 (kX1_begin_20 (σ := (mu (mu σ 19 (σ 18 0) 21) 18 0 (σ 18 0 + 1))) (d := d + 1) (P := P) hap hE (by first | assumption | omega | exact hd | exact ht) (by first | assumption | omega | exact hd | exact ht) (by (try simp only [show (mu (mu σ 19 (σ 18 0) 21) 18 0 (σ 18 0 + 1)) 18 0 = (σ 18 0 + 1) from by first | rfl | (simp only [mu_app, mr_app, ru, over, and_self, ↓reduceIte]; (repeat (first | rw [if_neg (by omega)] | rw [if_pos (by omega)])))]); first | done | first | assumption | omega | exact hd | exact ht)) mw_X1_begin wl_X1_51 (by decide) (by decide) rfl rfl (by simp [Value.category]) ?_
    refine g_eq (σ' := (mu (mu (mu (mu σ 19 (σ 18 0) 21) 18 0 (σ 18 0 + 1)) 19 (σ 18 0 + 1) 20) 18 0 ((σ 18 0 + 1) + 1))) rfl rfl rfl (by simp only [show (mu (mu σ 19 (σ 18 0) 21) 18 0 (σ 18 0 + 1)) 18 0 = (σ 18 0 + 1) from by first | rfl | (simp only [mu_app, mr_app, ru, over, and_self, ↓reduceIte]; (repeat (first | rw [if_neg (by omega)] | rw [if_pos (by omega)])))]; first | done | rfl) ?_
    refine g_cI (b := (σ 18 2)) (by first | rw [show (mu (mu σ 19 (σ 18 0) 21) 18 0 (σ 18 0 + 1)) 18 2 = σ 18 2 from by first | rfl | (simp only [mu_app, mr_app, ru, over, and_self, ↓reduceIte]; (repeat (first | rw [if_neg (by omega)] | rw [if_pos (by omega)])))] | simp only [show (mu (mu σ 19 (σ 18 0) 21) 18 0 (σ 18 0 + 1)) 18 2 = σ 18 2 from by first | rfl | (simp only [mu_app, mr_app, ru, over, and_self, ↓reduceIte]; (repeat (first | rw [if_neg (by omega)] | rw [if_pos (by omega)])))]) ?_
    refine g_aload_n C dX1_begin_157 (p := 1) (hi := rfl) (hv := rfl) ?_
    refine gc_g_X1_askedThings C dX1_begin_158 wf_X1_41 ?_
    refine g_cI (b := (σ 18 5)) (by first | rfl | (simp only [mu_app, mr_app, ru, over, and_self, ↓reduceIte]; (repeat (first | rw [if_neg (by omega)] | rw [if_pos (by omega)])))) ?_
    refine g_iadd C dX1_begin_161 ?_
    exact hret _ _ _ _ dX1_begin_162 (by first | rfl | omega) (by first | rfl | (funext k_ j_; simp only [mu_app, mr_app]; (repeat' split) <;> first | rfl | omega | (exfalso; omega)))
  · refine g_iconst C dX1_begin_6 ?_
    exact hret _ _ _ _ dX1_begin_7 (by first | rfl | omega) (by first | rfl | (funext k_ j_; simp only [mu_app, mr_app]; (repeat' split) <;> first | rfl | omega | (exfalso; omega)))
set_option maxHeartbeats 4000000 in
set_option maxRecDepth 100000 in
theorem kX1_begin_22 {l : Launch} {K : Nat → ClassId} {D : va_G} {ad : Int → Nat} {E : gEnv} {σ : Mem} {d : Int} {P : cP} (hap : Apart ad 60) (hE : gEok E) (hcE : ∀ (A : Nat → Prop) (U : State) (H : Heap), E A U H → cE P A U H) (hd : 0 ≤ d ∧ d ≤ 6) (ht : 0 ≤ σ 18 0 ∧ σ 18 0 ≤ 13) : CtI l K D ad 60 (cfC ad K) E yX1_begin cX1_begin 4 (some .int) 4 [.ref (ad 18), .int (iI 22), .int (iI d)] σ (σ 18 2 + σ 18 5 - 1000) (mu (mu (mu (mu σ 19 (σ 18 0) 22) 19 (σ 18 0 + 1) 21) 19 (σ 18 0 + 2) 20) 18 0 (σ 18 0 + 3)) := by
  refine ctI_of hap hE (by decide) rfl .int (nar_i _) (fun M C hn hret => ?_)
  have C : Good l K D ad 60 E 4 cX1_begin RX1 M := C
  have hcS := hcE _ _ _ (gd_E C)
  show G M ad 60 (cfC ad K) 0 [(0, .ref (ad 18)), (1, .int (iI 22)), (2, .int (iI d))] [] σ
  refine g_iload_n C dX1_begin_0 (p := 2) (hi := rfl) (hv := rfl) ?_
  refine (g_bipush C dX1_begin_1 (by decide)) ?_
  refine g_icmp_le C (tgt := 8) dX1_begin_3 (by decide) (by omega) (by omega) (fun h_1 => ?_) (fun h_1 => ?_)
  · refine g_aload_n C dX1_begin_8 (p := 0) (hi := rfl) (hv := rfl) ?_
    refine g_iload_n C dX1_begin_9 (p := 1) (hi := rfl) (hv := rfl) ?_
    refine gc_callv_X1 C dX1_begin_10 (kX1_leave (σ := σ) (b := 22) hap hE (by first | assumption | omega | exact hd | exact ht)) mw_X1_leave wl_X1_65 (by decide) (by decide) rfl rfl (by simp [Value.category]) ?_
    refine g_iload_n C dX1_begin_13 (p := 2) (hi := rfl) (hv := rfl) ?_
    refine g_iconst C dX1_begin_14 ?_
    refine g_iadd C dX1_begin_15 ?_
    refine g_istore_n C hn dX1_begin_16 rfl rfl rfl ?_
    refine g_iload_n C dX1_begin_17 (p := 2) (hi := rfl) (hv := rfl) ?_
    refine g_swIn C 22 (tgt := 163) dX1_begin_18 (by omega) rfl (by decide) (by decide) rfl (by decide) ?_
    refine g_aload_n C dX1_begin_163 (p := 1) (hi := rfl) (hv := rfl) ?_
    refine (g_bipush C dX1_begin_164 (by decide)) ?_
    refine g_iload_n C dX1_begin_166 (p := 0) (hi := rfl) (hv := rfl) ?_
    refine gc_call_X1 C dX1_begin_167 (kX1_begin_21 (σ := (mu (mu σ 19 (σ 18 0) 22) 18 0 (σ 18 0 + 1))) (d := d + 1) (P := P) hap hE (by first | assumption | omega | exact hd | exact ht) (by first | assumption | omega | exact hd | exact ht) (by (try simp only [show (mu (mu σ 19 (σ 18 0) 22) 18 0 (σ 18 0 + 1)) 18 0 = (σ 18 0 + 1) from by first | rfl | (simp only [mu_app, mr_app, ru, over, and_self, ↓reduceIte]; (repeat (first | rw [if_neg (by omega)] | rw [if_pos (by omega)])))]); first | done | first | assumption | omega | exact hd | exact ht)) mw_X1_begin wl_X1_51 (by decide) (by decide) rfl rfl (by simp [Value.category]) ?_
    refine g_eq (σ' := (mu (mu (mu (mu (mu σ 19 (σ 18 0) 22) 18 0 (σ 18 0 + 1)) 19 (σ 18 0 + 1) 21) 19 ((σ 18 0 + 1) + 1) 20) 18 0 ((σ 18 0 + 1) + 2))) rfl rfl rfl (by simp only [show (mu (mu σ 19 (σ 18 0) 22) 18 0 (σ 18 0 + 1)) 18 0 = (σ 18 0 + 1) from by first | rfl | (simp only [mu_app, mr_app, ru, over, and_self, ↓reduceIte]; (repeat (first | rw [if_neg (by omega)] | rw [if_pos (by omega)])))]; first | done | rfl) ?_
    refine g_cI (b := (σ 18 2 + σ 18 5)) (by first | rw [show (mu (mu σ 19 (σ 18 0) 22) 18 0 (σ 18 0 + 1)) 18 2 = σ 18 2 from by first | rfl | (simp only [mu_app, mr_app, ru, over, and_self, ↓reduceIte]; (repeat (first | rw [if_neg (by omega)] | rw [if_pos (by omega)]))), show (mu (mu σ 19 (σ 18 0) 22) 18 0 (σ 18 0 + 1)) 18 5 = σ 18 5 from by first | rfl | (simp only [mu_app, mr_app, ru, over, and_self, ↓reduceIte]; (repeat (first | rw [if_neg (by omega)] | rw [if_pos (by omega)])))] | simp only [show (mu (mu σ 19 (σ 18 0) 22) 18 0 (σ 18 0 + 1)) 18 2 = σ 18 2 from by first | rfl | (simp only [mu_app, mr_app, ru, over, and_self, ↓reduceIte]; (repeat (first | rw [if_neg (by omega)] | rw [if_pos (by omega)]))), show (mu (mu σ 19 (σ 18 0) 22) 18 0 (σ 18 0 + 1)) 18 5 = σ 18 5 from by first | rfl | (simp only [mu_app, mr_app, ru, over, and_self, ↓reduceIte]; (repeat (first | rw [if_neg (by omega)] | rw [if_pos (by omega)])))]) ?_
    refine (g_sipush C dX1_begin_170 (by decide)) ?_
    refine g_isub C dX1_begin_173 ?_
    exact hret _ _ _ _ dX1_begin_174 (by first | rfl | omega) (by first | rfl | (funext k_ j_; simp only [mu_app, mr_app]; (repeat' split) <;> first | rfl | omega | (exfalso; omega)))
  · refine g_iconst C dX1_begin_6 ?_
    exact hret _ _ _ _ dX1_begin_7 (by first | rfl | omega) (by first | rfl | (funext k_ j_; simp only [mu_app, mr_app]; (repeat' split) <;> first | rfl | omega | (exfalso; omega)))
set_option maxHeartbeats 4000000 in
set_option maxRecDepth 100000 in
theorem kX1_begin_24 {l : Launch} {K : Nat → ClassId} {D : va_G} {ad : Int → Nat} {E : gEnv} {σ : Mem} {d : Int} {P : cP} (hap : Apart ad 60) (hE : gEok E) (hcE : ∀ (A : Nat → Prop) (U : State) (H : Heap), E A U H → cE P A U H) (hd : 0 ≤ d ∧ d ≤ 6) (ht : 0 ≤ σ 18 0 ∧ σ 18 0 ≤ 13) : CtI l K D ad 60 (cfC ad K) E yX1_begin cX1_begin 4 (some .int) 4 [.ref (ad 18), .int (iI 24), .int (iI d)] σ (2 * (σ 18 2 + σ 18 5)) (mu (mu (mu (mu σ 19 (σ 18 0) 24) 19 (σ 18 0 + 1) 21) 19 (σ 18 0 + 2) 20) 18 0 (σ 18 0 + 3)) := by
  refine ctI_of hap hE (by decide) rfl .int (nar_i _) (fun M C hn hret => ?_)
  have C : Good l K D ad 60 E 4 cX1_begin RX1 M := C
  have hcS := hcE _ _ _ (gd_E C)
  show G M ad 60 (cfC ad K) 0 [(0, .ref (ad 18)), (1, .int (iI 24)), (2, .int (iI d))] [] σ
  refine g_iload_n C dX1_begin_0 (p := 2) (hi := rfl) (hv := rfl) ?_
  refine (g_bipush C dX1_begin_1 (by decide)) ?_
  refine g_icmp_le C (tgt := 8) dX1_begin_3 (by decide) (by omega) (by omega) (fun h_1 => ?_) (fun h_1 => ?_)
  · refine g_aload_n C dX1_begin_8 (p := 0) (hi := rfl) (hv := rfl) ?_
    refine g_iload_n C dX1_begin_9 (p := 1) (hi := rfl) (hv := rfl) ?_
    refine gc_callv_X1 C dX1_begin_10 (kX1_leave (σ := σ) (b := 24) hap hE (by first | assumption | omega | exact hd | exact ht)) mw_X1_leave wl_X1_65 (by decide) (by decide) rfl rfl (by simp [Value.category]) ?_
    refine g_iload_n C dX1_begin_13 (p := 2) (hi := rfl) (hv := rfl) ?_
    refine g_iconst C dX1_begin_14 ?_
    refine g_iadd C dX1_begin_15 ?_
    refine g_istore_n C hn dX1_begin_16 rfl rfl rfl ?_
    refine g_iload_n C dX1_begin_17 (p := 2) (hi := rfl) (hv := rfl) ?_
    refine g_swIn C 24 (tgt := 193) dX1_begin_18 (by omega) rfl (by decide) (by decide) rfl (by decide) ?_
    refine g_iconst C dX1_begin_193 ?_
    refine g_aload_n C dX1_begin_194 (p := 1) (hi := rfl) (hv := rfl) ?_
    refine (g_bipush C dX1_begin_195 (by decide)) ?_
    refine g_iload_n C dX1_begin_197 (p := 0) (hi := rfl) (hv := rfl) ?_
    refine gc_call_X1 C dX1_begin_198 (kX1_begin_21 (σ := (mu (mu σ 19 (σ 18 0) 24) 18 0 (σ 18 0 + 1))) (d := d + 1) (P := P) hap hE (by first | assumption | omega | exact hd | exact ht) (by first | assumption | omega | exact hd | exact ht) (by (try simp only [show (mu (mu σ 19 (σ 18 0) 24) 18 0 (σ 18 0 + 1)) 18 0 = (σ 18 0 + 1) from by first | rfl | (simp only [mu_app, mr_app, ru, over, and_self, ↓reduceIte]; (repeat (first | rw [if_neg (by omega)] | rw [if_pos (by omega)])))]); first | done | first | assumption | omega | exact hd | exact ht)) mw_X1_begin wl_X1_51 (by decide) (by decide) rfl rfl (by simp [Value.category]) ?_
    refine g_eq (σ' := (mu (mu (mu (mu (mu σ 19 (σ 18 0) 24) 18 0 (σ 18 0 + 1)) 19 (σ 18 0 + 1) 21) 19 ((σ 18 0 + 1) + 1) 20) 18 0 ((σ 18 0 + 1) + 2))) rfl rfl rfl (by simp only [show (mu (mu σ 19 (σ 18 0) 24) 18 0 (σ 18 0 + 1)) 18 0 = (σ 18 0 + 1) from by first | rfl | (simp only [mu_app, mr_app, ru, over, and_self, ↓reduceIte]; (repeat (first | rw [if_neg (by omega)] | rw [if_pos (by omega)])))]; first | done | rfl) ?_
    refine g_cI (b := (σ 18 2 + σ 18 5)) (by first | rw [show (mu (mu σ 19 (σ 18 0) 24) 18 0 (σ 18 0 + 1)) 18 2 = σ 18 2 from by first | rfl | (simp only [mu_app, mr_app, ru, over, and_self, ↓reduceIte]; (repeat (first | rw [if_neg (by omega)] | rw [if_pos (by omega)]))), show (mu (mu σ 19 (σ 18 0) 24) 18 0 (σ 18 0 + 1)) 18 5 = σ 18 5 from by first | rfl | (simp only [mu_app, mr_app, ru, over, and_self, ↓reduceIte]; (repeat (first | rw [if_neg (by omega)] | rw [if_pos (by omega)])))] | simp only [show (mu (mu σ 19 (σ 18 0) 24) 18 0 (σ 18 0 + 1)) 18 2 = σ 18 2 from by first | rfl | (simp only [mu_app, mr_app, ru, over, and_self, ↓reduceIte]; (repeat (first | rw [if_neg (by omega)] | rw [if_pos (by omega)]))), show (mu (mu σ 19 (σ 18 0) 24) 18 0 (σ 18 0 + 1)) 18 5 = σ 18 5 from by first | rfl | (simp only [mu_app, mr_app, ru, over, and_self, ↓reduceIte]; (repeat (first | rw [if_neg (by omega)] | rw [if_pos (by omega)])))]) ?_
    refine g_imul C dX1_begin_201 ?_
    exact hret _ _ _ _ dX1_begin_202 (by first | rfl | omega) (by first | rfl | (funext k_ j_; simp only [mu_app, mr_app]; (repeat' split) <;> first | rfl | omega | (exfalso; omega)))
  · refine g_iconst C dX1_begin_6 ?_
    exact hret _ _ _ _ dX1_begin_7 (by first | rfl | omega) (by first | rfl | (funext k_ j_; simp only [mu_app, mr_app]; (repeat' split) <;> first | rfl | omega | (exfalso; omega)))
set_option maxHeartbeats 4000000 in
set_option maxRecDepth 100000 in
theorem kX1_begin_13 {l : Launch} {K : Nat → ClassId} {D : va_G} {ad : Int → Nat} {E : gEnv} {σ : Mem} {d : Int} {P : cP} (hap : Apart ad 60) (hE : gEok E) (hcE : ∀ (A : Nat → Prop) (U : State) (H : Heap), E A U H → cE P A U H) (hd : 0 ≤ d ∧ d ≤ 7) (ht : 0 ≤ σ 18 0 ∧ σ 18 0 ≤ 14) : CtI l K D ad 60 (cfC ad K) E yX1_begin cX1_begin 4 (some .int) 3 [.ref (ad 18), .int (iI 13), .int (iI d)] σ (σ 18 4 - 100) (mu (mu (mu σ 19 (σ 18 0) 13) 19 (σ 18 0 + 1) 10) 18 0 (σ 18 0 + 2)) := by
  refine ctI_of hap hE (by decide) rfl .int (nar_i _) (fun M C hn hret => ?_)
  have C : Good l K D ad 60 E 3 cX1_begin RX1 M := C
  have hcS := hcE _ _ _ (gd_E C)
  show G M ad 60 (cfC ad K) 0 [(0, .ref (ad 18)), (1, .int (iI 13)), (2, .int (iI d))] [] σ
  refine g_iload_n C dX1_begin_0 (p := 2) (hi := rfl) (hv := rfl) ?_
  refine (g_bipush C dX1_begin_1 (by decide)) ?_
  refine g_icmp_le C (tgt := 8) dX1_begin_3 (by decide) (by omega) (by omega) (fun h_1 => ?_) (fun h_1 => ?_)
  · refine g_aload_n C dX1_begin_8 (p := 0) (hi := rfl) (hv := rfl) ?_
    refine g_iload_n C dX1_begin_9 (p := 1) (hi := rfl) (hv := rfl) ?_
    refine gc_callv_X1 C dX1_begin_10 (kX1_leave (σ := σ) (b := 13) hap hE (by first | assumption | omega | exact hd | exact ht)) mw_X1_leave wl_X1_65 (by decide) (by decide) rfl rfl (by simp [Value.category]) ?_
    refine g_iload_n C dX1_begin_13 (p := 2) (hi := rfl) (hv := rfl) ?_
    refine g_iconst C dX1_begin_14 ?_
    refine g_iadd C dX1_begin_15 ?_
    refine g_istore_n C hn dX1_begin_16 rfl rfl rfl ?_
    refine g_iload_n C dX1_begin_17 (p := 2) (hi := rfl) (hv := rfl) ?_
    refine g_swIn C 13 (tgt := 124) dX1_begin_18 (by omega) rfl (by decide) (by decide) rfl (by decide) ?_
    refine g_aload_n C dX1_begin_124 (p := 1) (hi := rfl) (hv := rfl) ?_
    refine (g_bipush C dX1_begin_125 (by decide)) ?_
    refine g_iload_n C dX1_begin_127 (p := 0) (hi := rfl) (hv := rfl) ?_
    refine gc_call_X1 C dX1_begin_128 (kX1_begin_10 (σ := (mu (mu σ 19 (σ 18 0) 13) 18 0 (σ 18 0 + 1))) (d := d + 1) (P := P) hap hE (by first | assumption | omega | exact hd | exact ht) (by first | assumption | omega | exact hd | exact ht) (by (try simp only [show (mu (mu σ 19 (σ 18 0) 13) 18 0 (σ 18 0 + 1)) 18 0 = (σ 18 0 + 1) from by first | rfl | (simp only [mu_app, mr_app, ru, over, and_self, ↓reduceIte]; (repeat (first | rw [if_neg (by omega)] | rw [if_pos (by omega)])))]); first | done | first | assumption | omega | exact hd | exact ht)) mw_X1_begin wl_X1_51 (by decide) (by decide) rfl rfl (by simp [Value.category]) ?_
    refine g_eq (σ' := (mu (mu (mu (mu σ 19 (σ 18 0) 13) 18 0 (σ 18 0 + 1)) 19 (σ 18 0 + 1) 10) 18 0 ((σ 18 0 + 1) + 1))) rfl rfl rfl (by simp only [show (mu (mu σ 19 (σ 18 0) 13) 18 0 (σ 18 0 + 1)) 18 0 = (σ 18 0 + 1) from by first | rfl | (simp only [mu_app, mr_app, ru, over, and_self, ↓reduceIte]; (repeat (first | rw [if_neg (by omega)] | rw [if_pos (by omega)])))]; first | done | rfl) ?_
    refine g_cI (b := (σ 18 4)) (by first | rw [show (mu (mu σ 19 (σ 18 0) 13) 18 0 (σ 18 0 + 1)) 18 4 = σ 18 4 from by first | rfl | (simp only [mu_app, mr_app, ru, over, and_self, ↓reduceIte]; (repeat (first | rw [if_neg (by omega)] | rw [if_pos (by omega)])))] | simp only [show (mu (mu σ 19 (σ 18 0) 13) 18 0 (σ 18 0 + 1)) 18 4 = σ 18 4 from by first | rfl | (simp only [mu_app, mr_app, ru, over, and_self, ↓reduceIte]; (repeat (first | rw [if_neg (by omega)] | rw [if_pos (by omega)])))]) ?_
    refine (g_bipush C dX1_begin_131 (by decide)) ?_
    refine g_isub C dX1_begin_133 ?_
    exact hret _ _ _ _ dX1_begin_134 (by first | rfl | omega) (by first | rfl | (funext k_ j_; simp only [mu_app, mr_app]; (repeat' split) <;> first | rfl | omega | (exfalso; omega)))
  · refine g_iconst C dX1_begin_6 ?_
    exact hret _ _ _ _ dX1_begin_7 (by first | rfl | omega) (by first | rfl | (funext k_ j_; simp only [mu_app, mr_app]; (repeat' split) <;> first | rfl | omega | (exfalso; omega)))
set_option maxHeartbeats 4000000 in
set_option maxRecDepth 100000 in
theorem kX1_begin_14 {l : Launch} {K : Nat → ClassId} {D : va_G} {ad : Int → Nat} {E : gEnv} {σ : Mem} {d : Int} {P : cP} (hap : Apart ad 60) (hE : gEok E) (hcE : ∀ (A : Nat → Prop) (U : State) (H : Heap), E A U H → cE P A U H) (hd : 0 ≤ d ∧ d ≤ 6) (ht : 0 ≤ σ 18 0 ∧ σ 18 0 ≤ 13) : CtI l K D ad 60 (cfC ad K) E yX1_begin cX1_begin 4 (some .int) 4 [.ref (ad 18), .int (iI 14), .int (iI d)] σ (2 * (σ 18 4 - 100)) (mu (mu (mu (mu σ 19 (σ 18 0) 14) 19 (σ 18 0 + 1) 13) 19 (σ 18 0 + 2) 10) 18 0 (σ 18 0 + 3)) := by
  refine ctI_of hap hE (by decide) rfl .int (nar_i _) (fun M C hn hret => ?_)
  have C : Good l K D ad 60 E 4 cX1_begin RX1 M := C
  have hcS := hcE _ _ _ (gd_E C)
  show G M ad 60 (cfC ad K) 0 [(0, .ref (ad 18)), (1, .int (iI 14)), (2, .int (iI d))] [] σ
  refine g_iload_n C dX1_begin_0 (p := 2) (hi := rfl) (hv := rfl) ?_
  refine (g_bipush C dX1_begin_1 (by decide)) ?_
  refine g_icmp_le C (tgt := 8) dX1_begin_3 (by decide) (by omega) (by omega) (fun h_1 => ?_) (fun h_1 => ?_)
  · refine g_aload_n C dX1_begin_8 (p := 0) (hi := rfl) (hv := rfl) ?_
    refine g_iload_n C dX1_begin_9 (p := 1) (hi := rfl) (hv := rfl) ?_
    refine gc_callv_X1 C dX1_begin_10 (kX1_leave (σ := σ) (b := 14) hap hE (by first | assumption | omega | exact hd | exact ht)) mw_X1_leave wl_X1_65 (by decide) (by decide) rfl rfl (by simp [Value.category]) ?_
    refine g_iload_n C dX1_begin_13 (p := 2) (hi := rfl) (hv := rfl) ?_
    refine g_iconst C dX1_begin_14 ?_
    refine g_iadd C dX1_begin_15 ?_
    refine g_istore_n C hn dX1_begin_16 rfl rfl rfl ?_
    refine g_iload_n C dX1_begin_17 (p := 2) (hi := rfl) (hv := rfl) ?_
    refine g_swIn C 14 (tgt := 135) dX1_begin_18 (by omega) rfl (by decide) (by decide) rfl (by decide) ?_
    refine g_iconst C dX1_begin_135 ?_
    refine g_aload_n C dX1_begin_136 (p := 1) (hi := rfl) (hv := rfl) ?_
    refine (g_bipush C dX1_begin_137 (by decide)) ?_
    refine g_iload_n C dX1_begin_139 (p := 0) (hi := rfl) (hv := rfl) ?_
    refine gc_call_X1 C dX1_begin_140 (kX1_begin_13 (σ := (mu (mu σ 19 (σ 18 0) 14) 18 0 (σ 18 0 + 1))) (d := d + 1) (P := P) hap hE (by first | assumption | omega | exact hd | exact ht) (by first | assumption | omega | exact hd | exact ht) (by (try simp only [show (mu (mu σ 19 (σ 18 0) 14) 18 0 (σ 18 0 + 1)) 18 0 = (σ 18 0 + 1) from by first | rfl | (simp only [mu_app, mr_app, ru, over, and_self, ↓reduceIte]; (repeat (first | rw [if_neg (by omega)] | rw [if_pos (by omega)])))]); first | done | first | assumption | omega | exact hd | exact ht)) mw_X1_begin wl_X1_51 (by decide) (by decide) rfl rfl (by simp [Value.category]) ?_
    refine g_eq (σ' := (mu (mu (mu (mu (mu σ 19 (σ 18 0) 14) 18 0 (σ 18 0 + 1)) 19 (σ 18 0 + 1) 13) 19 ((σ 18 0 + 1) + 1) 10) 18 0 ((σ 18 0 + 1) + 2))) rfl rfl rfl (by simp only [show (mu (mu σ 19 (σ 18 0) 14) 18 0 (σ 18 0 + 1)) 18 0 = (σ 18 0 + 1) from by first | rfl | (simp only [mu_app, mr_app, ru, over, and_self, ↓reduceIte]; (repeat (first | rw [if_neg (by omega)] | rw [if_pos (by omega)])))]; first | done | rfl) ?_
    refine g_cI (b := (σ 18 4 - 100)) (by first | rw [show (mu (mu σ 19 (σ 18 0) 14) 18 0 (σ 18 0 + 1)) 18 4 = σ 18 4 from by first | rfl | (simp only [mu_app, mr_app, ru, over, and_self, ↓reduceIte]; (repeat (first | rw [if_neg (by omega)] | rw [if_pos (by omega)])))] | simp only [show (mu (mu σ 19 (σ 18 0) 14) 18 0 (σ 18 0 + 1)) 18 4 = σ 18 4 from by first | rfl | (simp only [mu_app, mr_app, ru, over, and_self, ↓reduceIte]; (repeat (first | rw [if_neg (by omega)] | rw [if_pos (by omega)])))]) ?_
    refine g_imul C dX1_begin_143 ?_
    exact hret _ _ _ _ dX1_begin_144 (by first | rfl | omega) (by first | rfl | (funext k_ j_; simp only [mu_app, mr_app]; (repeat' split) <;> first | rfl | omega | (exfalso; omega)))
  · refine g_iconst C dX1_begin_6 ?_
    exact hret _ _ _ _ dX1_begin_7 (by first | rfl | omega) (by first | rfl | (funext k_ j_; simp only [mu_app, mr_app]; (repeat' split) <;> first | rfl | omega | (exfalso; omega)))
set_option maxHeartbeats 4000000 in
set_option maxRecDepth 100000 in
theorem kX1_begin_1_11 {l : Launch} {K : Nat → ClassId} {D : va_G} {ad : Int → Nat} {E : gEnv} {σ : Mem} {d : Int} {P : cP} (hap : Apart ad 60) (hE : gEok E) (hcE : ∀ (A : Nat → Prop) (U : State) (H : Heap), E A U H → cE P A U H) (hd : 0 ≤ d ∧ d ≤ 6) (ht : 0 ≤ σ 18 0 ∧ σ 18 0 ≤ 12) (hk : σ 18 3 = 1) : CtI l K D ad 60 (cfC ad K) E yX1_begin cX1_begin 4 (some .int) 4 [.ref (ad 18), .int (iI 11), .int (iI d)] σ (σ 18 4 + (σ 18 2 + σ 18 5)) (mu (mu (mu (mu (mu σ 19 (σ 18 0) 11) 19 (σ 18 0 + 1) 10) 19 (σ 18 0 + 2) 21) 19 (σ 18 0 + 3) 20) 18 0 (σ 18 0 + 4)) := by
  refine ctI_of hap hE (by decide) rfl .int (nar_i _) (fun M C hn hret => ?_)
  have C : Good l K D ad 60 E 4 cX1_begin RX1 M := C
  have hcS := hcE _ _ _ (gd_E C)
  show G M ad 60 (cfC ad K) 0 [(0, .ref (ad 18)), (1, .int (iI 11)), (2, .int (iI d))] [] σ
  refine g_iload_n C dX1_begin_0 (p := 2) (hi := rfl) (hv := rfl) ?_
  refine (g_bipush C dX1_begin_1 (by decide)) ?_
  refine g_icmp_le C (tgt := 8) dX1_begin_3 (by decide) (by omega) (by omega) (fun h_1 => ?_) (fun h_1 => ?_)
  · refine g_aload_n C dX1_begin_8 (p := 0) (hi := rfl) (hv := rfl) ?_
    refine g_iload_n C dX1_begin_9 (p := 1) (hi := rfl) (hv := rfl) ?_
    refine gc_callv_X1 C dX1_begin_10 (kX1_leave (σ := σ) (b := 11) hap hE (by first | assumption | omega | exact hd | exact ht | exact hk)) mw_X1_leave wl_X1_65 (by decide) (by decide) rfl rfl (by simp [Value.category]) ?_
    refine g_iload_n C dX1_begin_13 (p := 2) (hi := rfl) (hv := rfl) ?_
    refine g_iconst C dX1_begin_14 ?_
    refine g_iadd C dX1_begin_15 ?_
    refine g_istore_n C hn dX1_begin_16 rfl rfl rfl ?_
    refine g_iload_n C dX1_begin_17 (p := 2) (hi := rfl) (hv := rfl) ?_
    refine g_swIn C 11 (tgt := 97) dX1_begin_18 (by omega) rfl (by decide) (by decide) rfl (by decide) ?_
    refine g_aload_n C dX1_begin_97 (p := 1) (hi := rfl) (hv := rfl) ?_
    refine (g_bipush C dX1_begin_98 (by decide)) ?_
    refine g_iload_n C dX1_begin_100 (p := 0) (hi := rfl) (hv := rfl) ?_
    refine gc_call_X1 C dX1_begin_101 (kX1_begin_10 (σ := (mu (mu σ 19 (σ 18 0) 11) 18 0 (σ 18 0 + 1))) (d := d + 1) (P := P) hap hE (by first | assumption | omega | exact hd | exact ht | exact hk) (by first | assumption | omega | exact hd | exact ht | exact hk) (by (try simp only [show (mu (mu σ 19 (σ 18 0) 11) 18 0 (σ 18 0 + 1)) 18 0 = (σ 18 0 + 1) from by first | rfl | (simp only [mu_app, mr_app, ru, over, and_self, ↓reduceIte]; (repeat (first | rw [if_neg (by omega)] | rw [if_pos (by omega)])))]); first | done | first | assumption | omega | exact hd | exact ht | exact hk)) mw_X1_begin wl_X1_51 (by decide) (by decide) rfl rfl (by simp [Value.category]) ?_
    refine g_eq (σ' := (mu (mu (mu (mu σ 19 (σ 18 0) 11) 18 0 (σ 18 0 + 1)) 19 (σ 18 0 + 1) 10) 18 0 ((σ 18 0 + 1) + 1))) rfl rfl rfl (by simp only [show (mu (mu σ 19 (σ 18 0) 11) 18 0 (σ 18 0 + 1)) 18 0 = (σ 18 0 + 1) from by first | rfl | (simp only [mu_app, mr_app, ru, over, and_self, ↓reduceIte]; (repeat (first | rw [if_neg (by omega)] | rw [if_pos (by omega)])))]; first | done | rfl) ?_
    refine g_cI (b := (σ 18 4)) (by first | rw [show (mu (mu σ 19 (σ 18 0) 11) 18 0 (σ 18 0 + 1)) 18 4 = σ 18 4 from by first | rfl | (simp only [mu_app, mr_app, ru, over, and_self, ↓reduceIte]; (repeat (first | rw [if_neg (by omega)] | rw [if_pos (by omega)])))] | simp only [show (mu (mu σ 19 (σ 18 0) 11) 18 0 (σ 18 0 + 1)) 18 4 = σ 18 4 from by first | rfl | (simp only [mu_app, mr_app, ru, over, and_self, ↓reduceIte]; (repeat (first | rw [if_neg (by omega)] | rw [if_pos (by omega)])))]) ?_
    refine g_aload_n C dX1_begin_104 (p := 1) (hi := rfl) (hv := rfl) ?_
    refine g_aload_n C dX1_begin_105 (p := 1) (hi := rfl) (hv := rfl) ?_
    refine gc_call_X1 C dX1_begin_106 (kX1_markBody_1 (σ := (mu (mu (mu (mu σ 19 (σ 18 0) 11) 18 0 (σ 18 0 + 1)) 19 (σ 18 0 + 1) 10) 18 0 ((σ 18 0 + 1) + 1))) (P := P) hap hE (by first | assumption | omega | exact hd | exact ht | exact hk) (by (try simp only [show (mu (mu (mu (mu σ 19 (σ 18 0) 11) 18 0 (σ 18 0 + 1)) 19 (σ 18 0 + 1) 10) 18 0 ((σ 18 0 + 1) + 1)) 18 3 = σ 18 3 from by first | rfl | (simp only [mu_app, mr_app, ru, over, and_self, ↓reduceIte]; (repeat (first | rw [if_neg (by omega)] | rw [if_pos (by omega)])))]); first | done | first | assumption | omega | exact hd | exact ht | exact hk)) mw_X1_markBody wl_X1_48 (by decide) (by decide) rfl rfl (by simp [Value.category]) ?_
    refine g_iload_n C dX1_begin_109 (p := 0) (hi := rfl) (hv := rfl) ?_
    refine gc_call_X1 C dX1_begin_110 (kX1_begin_21 (σ := (mu (mu (mu (mu σ 19 (σ 18 0) 11) 18 0 (σ 18 0 + 1)) 19 (σ 18 0 + 1) 10) 18 0 ((σ 18 0 + 1) + 1))) (d := d + 1) (P := P) hap hE (by first | assumption | omega | exact hd | exact ht | exact hk) (by first | assumption | omega | exact hd | exact ht | exact hk) (by (try simp only [show (mu (mu (mu (mu σ 19 (σ 18 0) 11) 18 0 (σ 18 0 + 1)) 19 (σ 18 0 + 1) 10) 18 0 ((σ 18 0 + 1) + 1)) 18 0 = ((σ 18 0 + 1) + 1) from by first | rfl | (simp only [mu_app, mr_app, ru, over, and_self, ↓reduceIte]; (repeat (first | rw [if_neg (by omega)] | rw [if_pos (by omega)])))]); first | done | first | assumption | omega | exact hd | exact ht | exact hk)) mw_X1_begin wl_X1_51 (by decide) (by decide) rfl rfl (by simp [Value.category]) ?_
    refine g_eq (σ' := (mu (mu (mu (mu (mu (mu (mu σ 19 (σ 18 0) 11) 18 0 (σ 18 0 + 1)) 19 (σ 18 0 + 1) 10) 18 0 ((σ 18 0 + 1) + 1)) 19 ((σ 18 0 + 1) + 1) 21) 19 (((σ 18 0 + 1) + 1) + 1) 20) 18 0 (((σ 18 0 + 1) + 1) + 2))) rfl rfl rfl (by simp only [show (mu (mu (mu (mu σ 19 (σ 18 0) 11) 18 0 (σ 18 0 + 1)) 19 (σ 18 0 + 1) 10) 18 0 ((σ 18 0 + 1) + 1)) 18 0 = ((σ 18 0 + 1) + 1) from by first | rfl | (simp only [mu_app, mr_app, ru, over, and_self, ↓reduceIte]; (repeat (first | rw [if_neg (by omega)] | rw [if_pos (by omega)])))]; first | done | rfl) ?_
    refine g_cI (b := (σ 18 2 + σ 18 5)) (by first | rw [show (mu (mu (mu (mu σ 19 (σ 18 0) 11) 18 0 (σ 18 0 + 1)) 19 (σ 18 0 + 1) 10) 18 0 ((σ 18 0 + 1) + 1)) 18 2 = σ 18 2 from by first | rfl | (simp only [mu_app, mr_app, ru, over, and_self, ↓reduceIte]; (repeat (first | rw [if_neg (by omega)] | rw [if_pos (by omega)]))), show (mu (mu (mu (mu σ 19 (σ 18 0) 11) 18 0 (σ 18 0 + 1)) 19 (σ 18 0 + 1) 10) 18 0 ((σ 18 0 + 1) + 1)) 18 5 = σ 18 5 from by first | rfl | (simp only [mu_app, mr_app, ru, over, and_self, ↓reduceIte]; (repeat (first | rw [if_neg (by omega)] | rw [if_pos (by omega)])))] | simp only [show (mu (mu (mu (mu σ 19 (σ 18 0) 11) 18 0 (σ 18 0 + 1)) 19 (σ 18 0 + 1) 10) 18 0 ((σ 18 0 + 1) + 1)) 18 2 = σ 18 2 from by first | rfl | (simp only [mu_app, mr_app, ru, over, and_self, ↓reduceIte]; (repeat (first | rw [if_neg (by omega)] | rw [if_pos (by omega)]))), show (mu (mu (mu (mu σ 19 (σ 18 0) 11) 18 0 (σ 18 0 + 1)) 19 (σ 18 0 + 1) 10) 18 0 ((σ 18 0 + 1) + 1)) 18 5 = σ 18 5 from by first | rfl | (simp only [mu_app, mr_app, ru, over, and_self, ↓reduceIte]; (repeat (first | rw [if_neg (by omega)] | rw [if_pos (by omega)])))]) ?_
    refine g_iadd C dX1_begin_113 ?_
    exact hret _ _ _ _ dX1_begin_114 (by first | rfl | omega) (by first | rfl | (funext k_ j_; simp only [mu_app, mr_app]; (repeat' split) <;> first | rfl | omega | (exfalso; omega)))
  · refine g_iconst C dX1_begin_6 ?_
    exact hret _ _ _ _ dX1_begin_7 (by first | rfl | omega) (by first | rfl | (funext k_ j_; simp only [mu_app, mr_app]; (repeat' split) <;> first | rfl | omega | (exfalso; omega)))
set_option maxHeartbeats 4000000 in
set_option maxRecDepth 100000 in
theorem kX1_begin_2_11 {l : Launch} {K : Nat → ClassId} {D : va_G} {ad : Int → Nat} {E : gEnv} {σ : Mem} {d : Int} {P : cP} (hap : Apart ad 60) (hE : gEok E) (hcE : ∀ (A : Nat → Prop) (U : State) (H : Heap), E A U H → cE P A U H) (hd : 0 ≤ d ∧ d ≤ 5) (ht : 0 ≤ σ 18 0 ∧ σ 18 0 ≤ 11) (hk : σ 18 3 = 2) : CtI l K D ad 60 (cfC ad K) E yX1_begin cX1_begin 4 (some .int) 5 [.ref (ad 18), .int (iI 11), .int (iI d)] σ (σ 18 4 + (2 * (σ 18 2 + σ 18 5))) (mu (mu (mu (mu (mu (mu σ 19 (σ 18 0) 11) 19 (σ 18 0 + 1) 10) 19 (σ 18 0 + 2) 24) 19 (σ 18 0 + 3) 21) 19 (σ 18 0 + 4) 20) 18 0 (σ 18 0 + 5)) := by
  refine ctI_of hap hE (by decide) rfl .int (nar_i _) (fun M C hn hret => ?_)
  have C : Good l K D ad 60 E 5 cX1_begin RX1 M := C
  have hcS := hcE _ _ _ (gd_E C)
  show G M ad 60 (cfC ad K) 0 [(0, .ref (ad 18)), (1, .int (iI 11)), (2, .int (iI d))] [] σ
  refine g_iload_n C dX1_begin_0 (p := 2) (hi := rfl) (hv := rfl) ?_
  refine (g_bipush C dX1_begin_1 (by decide)) ?_
  refine g_icmp_le C (tgt := 8) dX1_begin_3 (by decide) (by omega) (by omega) (fun h_1 => ?_) (fun h_1 => ?_)
  · refine g_aload_n C dX1_begin_8 (p := 0) (hi := rfl) (hv := rfl) ?_
    refine g_iload_n C dX1_begin_9 (p := 1) (hi := rfl) (hv := rfl) ?_
    refine gc_callv_X1 C dX1_begin_10 (kX1_leave (σ := σ) (b := 11) hap hE (by first | assumption | omega | exact hd | exact ht | exact hk)) mw_X1_leave wl_X1_65 (by decide) (by decide) rfl rfl (by simp [Value.category]) ?_
    refine g_iload_n C dX1_begin_13 (p := 2) (hi := rfl) (hv := rfl) ?_
    refine g_iconst C dX1_begin_14 ?_
    refine g_iadd C dX1_begin_15 ?_
    refine g_istore_n C hn dX1_begin_16 rfl rfl rfl ?_
    refine g_iload_n C dX1_begin_17 (p := 2) (hi := rfl) (hv := rfl) ?_
    refine g_swIn C 11 (tgt := 97) dX1_begin_18 (by omega) rfl (by decide) (by decide) rfl (by decide) ?_
    refine g_aload_n C dX1_begin_97 (p := 1) (hi := rfl) (hv := rfl) ?_
    refine (g_bipush C dX1_begin_98 (by decide)) ?_
    refine g_iload_n C dX1_begin_100 (p := 0) (hi := rfl) (hv := rfl) ?_
    refine gc_call_X1 C dX1_begin_101 (kX1_begin_10 (σ := (mu (mu σ 19 (σ 18 0) 11) 18 0 (σ 18 0 + 1))) (d := d + 1) (P := P) hap hE (by first | assumption | omega | exact hd | exact ht | exact hk) (by first | assumption | omega | exact hd | exact ht | exact hk) (by (try simp only [show (mu (mu σ 19 (σ 18 0) 11) 18 0 (σ 18 0 + 1)) 18 0 = (σ 18 0 + 1) from by first | rfl | (simp only [mu_app, mr_app, ru, over, and_self, ↓reduceIte]; (repeat (first | rw [if_neg (by omega)] | rw [if_pos (by omega)])))]); first | done | first | assumption | omega | exact hd | exact ht | exact hk)) mw_X1_begin wl_X1_51 (by decide) (by decide) rfl rfl (by simp [Value.category]) ?_
    refine g_eq (σ' := (mu (mu (mu (mu σ 19 (σ 18 0) 11) 18 0 (σ 18 0 + 1)) 19 (σ 18 0 + 1) 10) 18 0 ((σ 18 0 + 1) + 1))) rfl rfl rfl (by simp only [show (mu (mu σ 19 (σ 18 0) 11) 18 0 (σ 18 0 + 1)) 18 0 = (σ 18 0 + 1) from by first | rfl | (simp only [mu_app, mr_app, ru, over, and_self, ↓reduceIte]; (repeat (first | rw [if_neg (by omega)] | rw [if_pos (by omega)])))]; first | done | rfl) ?_
    refine g_cI (b := (σ 18 4)) (by first | rw [show (mu (mu σ 19 (σ 18 0) 11) 18 0 (σ 18 0 + 1)) 18 4 = σ 18 4 from by first | rfl | (simp only [mu_app, mr_app, ru, over, and_self, ↓reduceIte]; (repeat (first | rw [if_neg (by omega)] | rw [if_pos (by omega)])))] | simp only [show (mu (mu σ 19 (σ 18 0) 11) 18 0 (σ 18 0 + 1)) 18 4 = σ 18 4 from by first | rfl | (simp only [mu_app, mr_app, ru, over, and_self, ↓reduceIte]; (repeat (first | rw [if_neg (by omega)] | rw [if_pos (by omega)])))]) ?_
    refine g_aload_n C dX1_begin_104 (p := 1) (hi := rfl) (hv := rfl) ?_
    refine g_aload_n C dX1_begin_105 (p := 1) (hi := rfl) (hv := rfl) ?_
    refine gc_call_X1 C dX1_begin_106 (kX1_markBody_2 (σ := (mu (mu (mu (mu σ 19 (σ 18 0) 11) 18 0 (σ 18 0 + 1)) 19 (σ 18 0 + 1) 10) 18 0 ((σ 18 0 + 1) + 1))) (P := P) hap hE (by first | assumption | omega | exact hd | exact ht | exact hk) (by (try simp only [show (mu (mu (mu (mu σ 19 (σ 18 0) 11) 18 0 (σ 18 0 + 1)) 19 (σ 18 0 + 1) 10) 18 0 ((σ 18 0 + 1) + 1)) 18 3 = σ 18 3 from by first | rfl | (simp only [mu_app, mr_app, ru, over, and_self, ↓reduceIte]; (repeat (first | rw [if_neg (by omega)] | rw [if_pos (by omega)])))]); first | done | first | assumption | omega | exact hd | exact ht | exact hk)) mw_X1_markBody wl_X1_48 (by decide) (by decide) rfl rfl (by simp [Value.category]) ?_
    refine g_iload_n C dX1_begin_109 (p := 0) (hi := rfl) (hv := rfl) ?_
    refine gc_call_X1 C dX1_begin_110 (kX1_begin_24 (σ := (mu (mu (mu (mu σ 19 (σ 18 0) 11) 18 0 (σ 18 0 + 1)) 19 (σ 18 0 + 1) 10) 18 0 ((σ 18 0 + 1) + 1))) (d := d + 1) (P := P) hap hE (by first | assumption | omega | exact hd | exact ht | exact hk) (by first | assumption | omega | exact hd | exact ht | exact hk) (by (try simp only [show (mu (mu (mu (mu σ 19 (σ 18 0) 11) 18 0 (σ 18 0 + 1)) 19 (σ 18 0 + 1) 10) 18 0 ((σ 18 0 + 1) + 1)) 18 0 = ((σ 18 0 + 1) + 1) from by first | rfl | (simp only [mu_app, mr_app, ru, over, and_self, ↓reduceIte]; (repeat (first | rw [if_neg (by omega)] | rw [if_pos (by omega)])))]); first | done | first | assumption | omega | exact hd | exact ht | exact hk)) mw_X1_begin wl_X1_51 (by decide) (by decide) rfl rfl (by simp [Value.category]) ?_
    refine g_eq (σ' := (mu (mu (mu (mu (mu (mu (mu (mu σ 19 (σ 18 0) 11) 18 0 (σ 18 0 + 1)) 19 (σ 18 0 + 1) 10) 18 0 ((σ 18 0 + 1) + 1)) 19 ((σ 18 0 + 1) + 1) 24) 19 (((σ 18 0 + 1) + 1) + 1) 21) 19 (((σ 18 0 + 1) + 1) + 2) 20) 18 0 (((σ 18 0 + 1) + 1) + 3))) rfl rfl rfl (by simp only [show (mu (mu (mu (mu σ 19 (σ 18 0) 11) 18 0 (σ 18 0 + 1)) 19 (σ 18 0 + 1) 10) 18 0 ((σ 18 0 + 1) + 1)) 18 0 = ((σ 18 0 + 1) + 1) from by first | rfl | (simp only [mu_app, mr_app, ru, over, and_self, ↓reduceIte]; (repeat (first | rw [if_neg (by omega)] | rw [if_pos (by omega)])))]; first | done | rfl) ?_
    refine g_cI (b := (2 * (σ 18 2 + σ 18 5))) (by first | rw [show (mu (mu (mu (mu σ 19 (σ 18 0) 11) 18 0 (σ 18 0 + 1)) 19 (σ 18 0 + 1) 10) 18 0 ((σ 18 0 + 1) + 1)) 18 2 = σ 18 2 from by first | rfl | (simp only [mu_app, mr_app, ru, over, and_self, ↓reduceIte]; (repeat (first | rw [if_neg (by omega)] | rw [if_pos (by omega)]))), show (mu (mu (mu (mu σ 19 (σ 18 0) 11) 18 0 (σ 18 0 + 1)) 19 (σ 18 0 + 1) 10) 18 0 ((σ 18 0 + 1) + 1)) 18 5 = σ 18 5 from by first | rfl | (simp only [mu_app, mr_app, ru, over, and_self, ↓reduceIte]; (repeat (first | rw [if_neg (by omega)] | rw [if_pos (by omega)])))] | simp only [show (mu (mu (mu (mu σ 19 (σ 18 0) 11) 18 0 (σ 18 0 + 1)) 19 (σ 18 0 + 1) 10) 18 0 ((σ 18 0 + 1) + 1)) 18 2 = σ 18 2 from by first | rfl | (simp only [mu_app, mr_app, ru, over, and_self, ↓reduceIte]; (repeat (first | rw [if_neg (by omega)] | rw [if_pos (by omega)]))), show (mu (mu (mu (mu σ 19 (σ 18 0) 11) 18 0 (σ 18 0 + 1)) 19 (σ 18 0 + 1) 10) 18 0 ((σ 18 0 + 1) + 1)) 18 5 = σ 18 5 from by first | rfl | (simp only [mu_app, mr_app, ru, over, and_self, ↓reduceIte]; (repeat (first | rw [if_neg (by omega)] | rw [if_pos (by omega)])))]) ?_
    refine g_iadd C dX1_begin_113 ?_
    exact hret _ _ _ _ dX1_begin_114 (by first | rfl | omega) (by first | rfl | (funext k_ j_; simp only [mu_app, mr_app]; (repeat' split) <;> first | rfl | omega | (exfalso; omega)))
  · refine g_iconst C dX1_begin_6 ?_
    exact hret _ _ _ _ dX1_begin_7 (by first | rfl | omega) (by first | rfl | (funext k_ j_; simp only [mu_app, mr_app]; (repeat' split) <;> first | rfl | omega | (exfalso; omega)))
set_option maxHeartbeats 4000000 in
set_option maxRecDepth 100000 in
theorem kX1_begin_3_11 {l : Launch} {K : Nat → ClassId} {D : va_G} {ad : Int → Nat} {E : gEnv} {σ : Mem} {d : Int} {P : cP} (hap : Apart ad 60) (hE : gEok E) (hcE : ∀ (A : Nat → Prop) (U : State) (H : Heap), E A U H → cE P A U H) (hd : 0 ≤ d ∧ d ≤ 5) (ht : 0 ≤ σ 18 0 ∧ σ 18 0 ≤ 11) (hk : σ 18 3 = 3) : CtI l K D ad 60 (cfC ad K) E yX1_begin cX1_begin 4 (some .int) 5 [.ref (ad 18), .int (iI 11), .int (iI d)] σ (σ 18 4 + (σ 18 2 + σ 18 5 - 1000)) (mu (mu (mu (mu (mu (mu σ 19 (σ 18 0) 11) 19 (σ 18 0 + 1) 10) 19 (σ 18 0 + 2) 22) 19 (σ 18 0 + 3) 21) 19 (σ 18 0 + 4) 20) 18 0 (σ 18 0 + 5)) := by
  refine ctI_of hap hE (by decide) rfl .int (nar_i _) (fun M C hn hret => ?_)
  have C : Good l K D ad 60 E 5 cX1_begin RX1 M := C
  have hcS := hcE _ _ _ (gd_E C)
  show G M ad 60 (cfC ad K) 0 [(0, .ref (ad 18)), (1, .int (iI 11)), (2, .int (iI d))] [] σ
  refine g_iload_n C dX1_begin_0 (p := 2) (hi := rfl) (hv := rfl) ?_
  refine (g_bipush C dX1_begin_1 (by decide)) ?_
  refine g_icmp_le C (tgt := 8) dX1_begin_3 (by decide) (by omega) (by omega) (fun h_1 => ?_) (fun h_1 => ?_)
  · refine g_aload_n C dX1_begin_8 (p := 0) (hi := rfl) (hv := rfl) ?_
    refine g_iload_n C dX1_begin_9 (p := 1) (hi := rfl) (hv := rfl) ?_
    refine gc_callv_X1 C dX1_begin_10 (kX1_leave (σ := σ) (b := 11) hap hE (by first | assumption | omega | exact hd | exact ht | exact hk)) mw_X1_leave wl_X1_65 (by decide) (by decide) rfl rfl (by simp [Value.category]) ?_
    refine g_iload_n C dX1_begin_13 (p := 2) (hi := rfl) (hv := rfl) ?_
    refine g_iconst C dX1_begin_14 ?_
    refine g_iadd C dX1_begin_15 ?_
    refine g_istore_n C hn dX1_begin_16 rfl rfl rfl ?_
    refine g_iload_n C dX1_begin_17 (p := 2) (hi := rfl) (hv := rfl) ?_
    refine g_swIn C 11 (tgt := 97) dX1_begin_18 (by omega) rfl (by decide) (by decide) rfl (by decide) ?_
    refine g_aload_n C dX1_begin_97 (p := 1) (hi := rfl) (hv := rfl) ?_
    refine (g_bipush C dX1_begin_98 (by decide)) ?_
    refine g_iload_n C dX1_begin_100 (p := 0) (hi := rfl) (hv := rfl) ?_
    refine gc_call_X1 C dX1_begin_101 (kX1_begin_10 (σ := (mu (mu σ 19 (σ 18 0) 11) 18 0 (σ 18 0 + 1))) (d := d + 1) (P := P) hap hE (by first | assumption | omega | exact hd | exact ht | exact hk) (by first | assumption | omega | exact hd | exact ht | exact hk) (by (try simp only [show (mu (mu σ 19 (σ 18 0) 11) 18 0 (σ 18 0 + 1)) 18 0 = (σ 18 0 + 1) from by first | rfl | (simp only [mu_app, mr_app, ru, over, and_self, ↓reduceIte]; (repeat (first | rw [if_neg (by omega)] | rw [if_pos (by omega)])))]); first | done | first | assumption | omega | exact hd | exact ht | exact hk)) mw_X1_begin wl_X1_51 (by decide) (by decide) rfl rfl (by simp [Value.category]) ?_
    refine g_eq (σ' := (mu (mu (mu (mu σ 19 (σ 18 0) 11) 18 0 (σ 18 0 + 1)) 19 (σ 18 0 + 1) 10) 18 0 ((σ 18 0 + 1) + 1))) rfl rfl rfl (by simp only [show (mu (mu σ 19 (σ 18 0) 11) 18 0 (σ 18 0 + 1)) 18 0 = (σ 18 0 + 1) from by first | rfl | (simp only [mu_app, mr_app, ru, over, and_self, ↓reduceIte]; (repeat (first | rw [if_neg (by omega)] | rw [if_pos (by omega)])))]; first | done | rfl) ?_
    refine g_cI (b := (σ 18 4)) (by first | rw [show (mu (mu σ 19 (σ 18 0) 11) 18 0 (σ 18 0 + 1)) 18 4 = σ 18 4 from by first | rfl | (simp only [mu_app, mr_app, ru, over, and_self, ↓reduceIte]; (repeat (first | rw [if_neg (by omega)] | rw [if_pos (by omega)])))] | simp only [show (mu (mu σ 19 (σ 18 0) 11) 18 0 (σ 18 0 + 1)) 18 4 = σ 18 4 from by first | rfl | (simp only [mu_app, mr_app, ru, over, and_self, ↓reduceIte]; (repeat (first | rw [if_neg (by omega)] | rw [if_pos (by omega)])))]) ?_
    refine g_aload_n C dX1_begin_104 (p := 1) (hi := rfl) (hv := rfl) ?_
    refine g_aload_n C dX1_begin_105 (p := 1) (hi := rfl) (hv := rfl) ?_
    refine gc_call_X1 C dX1_begin_106 (kX1_markBody_3 (σ := (mu (mu (mu (mu σ 19 (σ 18 0) 11) 18 0 (σ 18 0 + 1)) 19 (σ 18 0 + 1) 10) 18 0 ((σ 18 0 + 1) + 1))) (P := P) hap hE (by first | assumption | omega | exact hd | exact ht | exact hk) (by (try simp only [show (mu (mu (mu (mu σ 19 (σ 18 0) 11) 18 0 (σ 18 0 + 1)) 19 (σ 18 0 + 1) 10) 18 0 ((σ 18 0 + 1) + 1)) 18 3 = σ 18 3 from by first | rfl | (simp only [mu_app, mr_app, ru, over, and_self, ↓reduceIte]; (repeat (first | rw [if_neg (by omega)] | rw [if_pos (by omega)])))]); first | done | first | assumption | omega | exact hd | exact ht | exact hk)) mw_X1_markBody wl_X1_48 (by decide) (by decide) rfl rfl (by simp [Value.category]) ?_
    refine g_iload_n C dX1_begin_109 (p := 0) (hi := rfl) (hv := rfl) ?_
    refine gc_call_X1 C dX1_begin_110 (kX1_begin_22 (σ := (mu (mu (mu (mu σ 19 (σ 18 0) 11) 18 0 (σ 18 0 + 1)) 19 (σ 18 0 + 1) 10) 18 0 ((σ 18 0 + 1) + 1))) (d := d + 1) (P := P) hap hE (by first | assumption | omega | exact hd | exact ht | exact hk) (by first | assumption | omega | exact hd | exact ht | exact hk) (by (try simp only [show (mu (mu (mu (mu σ 19 (σ 18 0) 11) 18 0 (σ 18 0 + 1)) 19 (σ 18 0 + 1) 10) 18 0 ((σ 18 0 + 1) + 1)) 18 0 = ((σ 18 0 + 1) + 1) from by first | rfl | (simp only [mu_app, mr_app, ru, over, and_self, ↓reduceIte]; (repeat (first | rw [if_neg (by omega)] | rw [if_pos (by omega)])))]); first | done | first | assumption | omega | exact hd | exact ht | exact hk)) mw_X1_begin wl_X1_51 (by decide) (by decide) rfl rfl (by simp [Value.category]) ?_
    refine g_eq (σ' := (mu (mu (mu (mu (mu (mu (mu (mu σ 19 (σ 18 0) 11) 18 0 (σ 18 0 + 1)) 19 (σ 18 0 + 1) 10) 18 0 ((σ 18 0 + 1) + 1)) 19 ((σ 18 0 + 1) + 1) 22) 19 (((σ 18 0 + 1) + 1) + 1) 21) 19 (((σ 18 0 + 1) + 1) + 2) 20) 18 0 (((σ 18 0 + 1) + 1) + 3))) rfl rfl rfl (by simp only [show (mu (mu (mu (mu σ 19 (σ 18 0) 11) 18 0 (σ 18 0 + 1)) 19 (σ 18 0 + 1) 10) 18 0 ((σ 18 0 + 1) + 1)) 18 0 = ((σ 18 0 + 1) + 1) from by first | rfl | (simp only [mu_app, mr_app, ru, over, and_self, ↓reduceIte]; (repeat (first | rw [if_neg (by omega)] | rw [if_pos (by omega)])))]; first | done | rfl) ?_
    refine g_cI (b := (σ 18 2 + σ 18 5 - 1000)) (by first | rw [show (mu (mu (mu (mu σ 19 (σ 18 0) 11) 18 0 (σ 18 0 + 1)) 19 (σ 18 0 + 1) 10) 18 0 ((σ 18 0 + 1) + 1)) 18 2 = σ 18 2 from by first | rfl | (simp only [mu_app, mr_app, ru, over, and_self, ↓reduceIte]; (repeat (first | rw [if_neg (by omega)] | rw [if_pos (by omega)]))), show (mu (mu (mu (mu σ 19 (σ 18 0) 11) 18 0 (σ 18 0 + 1)) 19 (σ 18 0 + 1) 10) 18 0 ((σ 18 0 + 1) + 1)) 18 5 = σ 18 5 from by first | rfl | (simp only [mu_app, mr_app, ru, over, and_self, ↓reduceIte]; (repeat (first | rw [if_neg (by omega)] | rw [if_pos (by omega)])))] | simp only [show (mu (mu (mu (mu σ 19 (σ 18 0) 11) 18 0 (σ 18 0 + 1)) 19 (σ 18 0 + 1) 10) 18 0 ((σ 18 0 + 1) + 1)) 18 2 = σ 18 2 from by first | rfl | (simp only [mu_app, mr_app, ru, over, and_self, ↓reduceIte]; (repeat (first | rw [if_neg (by omega)] | rw [if_pos (by omega)]))), show (mu (mu (mu (mu σ 19 (σ 18 0) 11) 18 0 (σ 18 0 + 1)) 19 (σ 18 0 + 1) 10) 18 0 ((σ 18 0 + 1) + 1)) 18 5 = σ 18 5 from by first | rfl | (simp only [mu_app, mr_app, ru, over, and_self, ↓reduceIte]; (repeat (first | rw [if_neg (by omega)] | rw [if_pos (by omega)])))]) ?_
    refine g_iadd C dX1_begin_113 ?_
    exact hret _ _ _ _ dX1_begin_114 (by first | rfl | omega) (by first | rfl | (funext k_ j_; simp only [mu_app, mr_app]; (repeat' split) <;> first | rfl | omega | (exfalso; omega)))
  · refine g_iconst C dX1_begin_6 ?_
    exact hret _ _ _ _ dX1_begin_7 (by first | rfl | omega) (by first | rfl | (funext k_ j_; simp only [mu_app, mr_app]; (repeat' split) <;> first | rfl | omega | (exfalso; omega)))
set_option maxHeartbeats 4000000 in
set_option maxRecDepth 100000 in
theorem kX1_begin_2_12 {l : Launch} {K : Nat → ClassId} {D : va_G} {ad : Int → Nat} {E : gEnv} {σ : Mem} {d : Int} {P : cP} (hap : Apart ad 60) (hE : gEok E) (hcE : ∀ (A : Nat → Prop) (U : State) (H : Heap), E A U H → cE P A U H) (hd : 0 ≤ d ∧ d ≤ 4) (ht : 0 ≤ σ 18 0 ∧ σ 18 0 ≤ 10) (hk : σ 18 3 = 2) : CtI l K D ad 60 (cfC ad K) E yX1_begin cX1_begin 4 (some .int) 6 [.ref (ad 18), .int (iI 12), .int (iI d)] σ (-(σ 18 4 + (2 * (σ 18 2 + σ 18 5)))) (mu (mu (mu (mu (mu (mu (mu σ 19 (σ 18 0) 12) 19 (σ 18 0 + 1) 11) 19 (σ 18 0 + 2) 10) 19 (σ 18 0 + 3) 24) 19 (σ 18 0 + 4) 21) 19 (σ 18 0 + 5) 20) 18 0 (σ 18 0 + 6)) := by
  refine ctI_of hap hE (by decide) rfl .int (nar_i _) (fun M C hn hret => ?_)
  have C : Good l K D ad 60 E 6 cX1_begin RX1 M := C
  have hcS := hcE _ _ _ (gd_E C)
  show G M ad 60 (cfC ad K) 0 [(0, .ref (ad 18)), (1, .int (iI 12)), (2, .int (iI d))] [] σ
  refine g_iload_n C dX1_begin_0 (p := 2) (hi := rfl) (hv := rfl) ?_
  refine (g_bipush C dX1_begin_1 (by decide)) ?_
  refine g_icmp_le C (tgt := 8) dX1_begin_3 (by decide) (by omega) (by omega) (fun h_1 => ?_) (fun h_1 => ?_)
  · refine g_aload_n C dX1_begin_8 (p := 0) (hi := rfl) (hv := rfl) ?_
    refine g_iload_n C dX1_begin_9 (p := 1) (hi := rfl) (hv := rfl) ?_
    refine gc_callv_X1 C dX1_begin_10 (kX1_leave (σ := σ) (b := 12) hap hE (by first | assumption | omega | exact hd | exact ht | exact hk)) mw_X1_leave wl_X1_65 (by decide) (by decide) rfl rfl (by simp [Value.category]) ?_
    refine g_iload_n C dX1_begin_13 (p := 2) (hi := rfl) (hv := rfl) ?_
    refine g_iconst C dX1_begin_14 ?_
    refine g_iadd C dX1_begin_15 ?_
    refine g_istore_n C hn dX1_begin_16 rfl rfl rfl ?_
    refine g_iload_n C dX1_begin_17 (p := 2) (hi := rfl) (hv := rfl) ?_
    refine g_swIn C 12 (tgt := 115) dX1_begin_18 (by omega) rfl (by decide) (by decide) rfl (by decide) ?_
    refine g_aload_n C dX1_begin_115 (p := 1) (hi := rfl) (hv := rfl) ?_
    refine (g_bipush C dX1_begin_116 (by decide)) ?_
    refine g_iload_n C dX1_begin_118 (p := 0) (hi := rfl) (hv := rfl) ?_
    refine gc_call_X1 C dX1_begin_119 (kX1_begin_2_11 (σ := (mu (mu σ 19 (σ 18 0) 12) 18 0 (σ 18 0 + 1))) (d := d + 1) (P := P) hap hE (by first | assumption | omega | exact hd | exact ht | exact hk) (by first | assumption | omega | exact hd | exact ht | exact hk) (by (try simp only [show (mu (mu σ 19 (σ 18 0) 12) 18 0 (σ 18 0 + 1)) 18 0 = (σ 18 0 + 1) from by first | rfl | (simp only [mu_app, mr_app, ru, over, and_self, ↓reduceIte]; (repeat (first | rw [if_neg (by omega)] | rw [if_pos (by omega)])))]); first | done | first | assumption | omega | exact hd | exact ht | exact hk) (by (try simp only [show (mu (mu σ 19 (σ 18 0) 12) 18 0 (σ 18 0 + 1)) 18 3 = σ 18 3 from by first | rfl | (simp only [mu_app, mr_app, ru, over, and_self, ↓reduceIte]; (repeat (first | rw [if_neg (by omega)] | rw [if_pos (by omega)])))]); first | done | first | assumption | omega | exact hd | exact ht | exact hk)) mw_X1_begin wl_X1_51 (by decide) (by decide) rfl rfl (by simp [Value.category]) ?_
    refine g_eq (σ' := (mu (mu (mu (mu (mu (mu (mu (mu σ 19 (σ 18 0) 12) 18 0 (σ 18 0 + 1)) 19 (σ 18 0 + 1) 11) 19 ((σ 18 0 + 1) + 1) 10) 19 ((σ 18 0 + 1) + 2) 24) 19 ((σ 18 0 + 1) + 3) 21) 19 ((σ 18 0 + 1) + 4) 20) 18 0 ((σ 18 0 + 1) + 5))) rfl rfl rfl (by simp only [show (mu (mu σ 19 (σ 18 0) 12) 18 0 (σ 18 0 + 1)) 18 0 = (σ 18 0 + 1) from by first | rfl | (simp only [mu_app, mr_app, ru, over, and_self, ↓reduceIte]; (repeat (first | rw [if_neg (by omega)] | rw [if_pos (by omega)])))]; first | done | rfl) ?_
    refine g_cI (b := (σ 18 4 + (2 * (σ 18 2 + σ 18 5)))) (by first | rw [show (mu (mu σ 19 (σ 18 0) 12) 18 0 (σ 18 0 + 1)) 18 4 = σ 18 4 from by first | rfl | (simp only [mu_app, mr_app, ru, over, and_self, ↓reduceIte]; (repeat (first | rw [if_neg (by omega)] | rw [if_pos (by omega)]))), show (mu (mu σ 19 (σ 18 0) 12) 18 0 (σ 18 0 + 1)) 18 2 = σ 18 2 from by first | rfl | (simp only [mu_app, mr_app, ru, over, and_self, ↓reduceIte]; (repeat (first | rw [if_neg (by omega)] | rw [if_pos (by omega)]))), show (mu (mu σ 19 (σ 18 0) 12) 18 0 (σ 18 0 + 1)) 18 5 = σ 18 5 from by first | rfl | (simp only [mu_app, mr_app, ru, over, and_self, ↓reduceIte]; (repeat (first | rw [if_neg (by omega)] | rw [if_pos (by omega)])))] | simp only [show (mu (mu σ 19 (σ 18 0) 12) 18 0 (σ 18 0 + 1)) 18 4 = σ 18 4 from by first | rfl | (simp only [mu_app, mr_app, ru, over, and_self, ↓reduceIte]; (repeat (first | rw [if_neg (by omega)] | rw [if_pos (by omega)]))), show (mu (mu σ 19 (σ 18 0) 12) 18 0 (σ 18 0 + 1)) 18 2 = σ 18 2 from by first | rfl | (simp only [mu_app, mr_app, ru, over, and_self, ↓reduceIte]; (repeat (first | rw [if_neg (by omega)] | rw [if_pos (by omega)]))), show (mu (mu σ 19 (σ 18 0) 12) 18 0 (σ 18 0 + 1)) 18 5 = σ 18 5 from by first | rfl | (simp only [mu_app, mr_app, ru, over, and_self, ↓reduceIte]; (repeat (first | rw [if_neg (by omega)] | rw [if_pos (by omega)])))]) ?_
    refine g_ineg C dX1_begin_122 ?_
    exact hret _ _ _ _ dX1_begin_123 (by first | rfl | omega) (by first | rfl | (funext k_ j_; simp only [mu_app, mr_app]; (repeat' split) <;> first | rfl | omega | (exfalso; omega)))
  · refine g_iconst C dX1_begin_6 ?_
    exact hret _ _ _ _ dX1_begin_7 (by first | rfl | omega) (by first | rfl | (funext k_ j_; simp only [mu_app, mr_app]; (repeat' split) <;> first | rfl | omega | (exfalso; omega)))
set_option maxHeartbeats 4000000 in
set_option maxRecDepth 100000 in
theorem kX1_begin_4_23 {l : Launch} {K : Nat → ClassId} {D : va_G} {ad : Int → Nat} {E : gEnv} {σ : Mem} {d : Int} {P : cP} (hap : Apart ad 60) (hE : gEok E) (hcE : ∀ (A : Nat → Prop) (U : State) (H : Heap), E A U H → cE P A U H) (hd : 0 ≤ d ∧ d ≤ 6) (ht : 0 ≤ σ 18 0 ∧ σ 18 0 ≤ 12) (hk : σ 18 3 = 4) : CtI l K D ad 60 (cfC ad K) E yX1_begin cX1_begin 4 (some .int) 4 [.ref (ad 18), .int (iI 23), .int (iI d)] σ (σ 18 2 - (σ 18 4 - 100)) (mu (mu (mu (mu (mu σ 19 (σ 18 0) 23) 19 (σ 18 0 + 1) 20) 19 (σ 18 0 + 2) 13) 19 (σ 18 0 + 3) 10) 18 0 (σ 18 0 + 4)) := by
  refine ctI_of hap hE (by decide) rfl .int (nar_i _) (fun M C hn hret => ?_)
  have C : Good l K D ad 60 E 4 cX1_begin RX1 M := C
  have hcS := hcE _ _ _ (gd_E C)
  show G M ad 60 (cfC ad K) 0 [(0, .ref (ad 18)), (1, .int (iI 23)), (2, .int (iI d))] [] σ
  refine g_iload_n C dX1_begin_0 (p := 2) (hi := rfl) (hv := rfl) ?_
  refine (g_bipush C dX1_begin_1 (by decide)) ?_
  refine g_icmp_le C (tgt := 8) dX1_begin_3 (by decide) (by omega) (by omega) (fun h_1 => ?_) (fun h_1 => ?_)
  · refine g_aload_n C dX1_begin_8 (p := 0) (hi := rfl) (hv := rfl) ?_
    refine g_iload_n C dX1_begin_9 (p := 1) (hi := rfl) (hv := rfl) ?_
    refine gc_callv_X1 C dX1_begin_10 (kX1_leave (σ := σ) (b := 23) hap hE (by first | assumption | omega | exact hd | exact ht | exact hk)) mw_X1_leave wl_X1_65 (by decide) (by decide) rfl rfl (by simp [Value.category]) ?_
    refine g_iload_n C dX1_begin_13 (p := 2) (hi := rfl) (hv := rfl) ?_
    refine g_iconst C dX1_begin_14 ?_
    refine g_iadd C dX1_begin_15 ?_
    refine g_istore_n C hn dX1_begin_16 rfl rfl rfl ?_
    refine g_iload_n C dX1_begin_17 (p := 2) (hi := rfl) (hv := rfl) ?_
    refine g_swIn C 23 (tgt := 175) dX1_begin_18 (by omega) rfl (by decide) (by decide) rfl (by decide) ?_
    refine g_aload_n C dX1_begin_175 (p := 1) (hi := rfl) (hv := rfl) ?_
    refine (g_bipush C dX1_begin_176 (by decide)) ?_
    refine g_iload_n C dX1_begin_178 (p := 0) (hi := rfl) (hv := rfl) ?_
    refine gc_call_X1 C dX1_begin_179 (kX1_begin_20 (σ := (mu (mu σ 19 (σ 18 0) 23) 18 0 (σ 18 0 + 1))) (d := d + 1) (P := P) hap hE (by first | assumption | omega | exact hd | exact ht | exact hk) (by first | assumption | omega | exact hd | exact ht | exact hk) (by (try simp only [show (mu (mu σ 19 (σ 18 0) 23) 18 0 (σ 18 0 + 1)) 18 0 = (σ 18 0 + 1) from by first | rfl | (simp only [mu_app, mr_app, ru, over, and_self, ↓reduceIte]; (repeat (first | rw [if_neg (by omega)] | rw [if_pos (by omega)])))]); first | done | first | assumption | omega | exact hd | exact ht | exact hk)) mw_X1_begin wl_X1_51 (by decide) (by decide) rfl rfl (by simp [Value.category]) ?_
    refine g_eq (σ' := (mu (mu (mu (mu σ 19 (σ 18 0) 23) 18 0 (σ 18 0 + 1)) 19 (σ 18 0 + 1) 20) 18 0 ((σ 18 0 + 1) + 1))) rfl rfl rfl (by simp only [show (mu (mu σ 19 (σ 18 0) 23) 18 0 (σ 18 0 + 1)) 18 0 = (σ 18 0 + 1) from by first | rfl | (simp only [mu_app, mr_app, ru, over, and_self, ↓reduceIte]; (repeat (first | rw [if_neg (by omega)] | rw [if_pos (by omega)])))]; first | done | rfl) ?_
    refine g_cI (b := (σ 18 2)) (by first | rw [show (mu (mu σ 19 (σ 18 0) 23) 18 0 (σ 18 0 + 1)) 18 2 = σ 18 2 from by first | rfl | (simp only [mu_app, mr_app, ru, over, and_self, ↓reduceIte]; (repeat (first | rw [if_neg (by omega)] | rw [if_pos (by omega)])))] | simp only [show (mu (mu σ 19 (σ 18 0) 23) 18 0 (σ 18 0 + 1)) 18 2 = σ 18 2 from by first | rfl | (simp only [mu_app, mr_app, ru, over, and_self, ↓reduceIte]; (repeat (first | rw [if_neg (by omega)] | rw [if_pos (by omega)])))]) ?_
    refine g_aload_n C dX1_begin_182 (p := 1) (hi := rfl) (hv := rfl) ?_
    refine g_aload_n C dX1_begin_183 (p := 1) (hi := rfl) (hv := rfl) ?_
    refine gc_call_X1 C dX1_begin_184 (kX1_sizeBody_4 (σ := (mu (mu (mu (mu σ 19 (σ 18 0) 23) 18 0 (σ 18 0 + 1)) 19 (σ 18 0 + 1) 20) 18 0 ((σ 18 0 + 1) + 1))) (P := P) hap hE (by first | assumption | omega | exact hd | exact ht | exact hk) (by (try simp only [show (mu (mu (mu (mu σ 19 (σ 18 0) 23) 18 0 (σ 18 0 + 1)) 19 (σ 18 0 + 1) 20) 18 0 ((σ 18 0 + 1) + 1)) 18 3 = σ 18 3 from by first | rfl | (simp only [mu_app, mr_app, ru, over, and_self, ↓reduceIte]; (repeat (first | rw [if_neg (by omega)] | rw [if_pos (by omega)])))]); first | done | first | assumption | omega | exact hd | exact ht | exact hk)) mw_X1_sizeBody wl_X1_44 (by decide) (by decide) rfl rfl (by simp [Value.category]) ?_
    refine g_iload_n C dX1_begin_187 (p := 0) (hi := rfl) (hv := rfl) ?_
    refine gc_call_X1 C dX1_begin_188 (kX1_begin_13 (σ := (mu (mu (mu (mu σ 19 (σ 18 0) 23) 18 0 (σ 18 0 + 1)) 19 (σ 18 0 + 1) 20) 18 0 ((σ 18 0 + 1) + 1))) (d := d + 1) (P := P) hap hE (by first | assumption | omega | exact hd | exact ht | exact hk) (by first | assumption | omega | exact hd | exact ht | exact hk) (by (try simp only [show (mu (mu (mu (mu σ 19 (σ 18 0) 23) 18 0 (σ 18 0 + 1)) 19 (σ 18 0 + 1) 20) 18 0 ((σ 18 0 + 1) + 1)) 18 0 = ((σ 18 0 + 1) + 1) from by first | rfl | (simp only [mu_app, mr_app, ru, over, and_self, ↓reduceIte]; (repeat (first | rw [if_neg (by omega)] | rw [if_pos (by omega)])))]); first | done | first | assumption | omega | exact hd | exact ht | exact hk)) mw_X1_begin wl_X1_51 (by decide) (by decide) rfl rfl (by simp [Value.category]) ?_
    refine g_eq (σ' := (mu (mu (mu (mu (mu (mu (mu σ 19 (σ 18 0) 23) 18 0 (σ 18 0 + 1)) 19 (σ 18 0 + 1) 20) 18 0 ((σ 18 0 + 1) + 1)) 19 ((σ 18 0 + 1) + 1) 13) 19 (((σ 18 0 + 1) + 1) + 1) 10) 18 0 (((σ 18 0 + 1) + 1) + 2))) rfl rfl rfl (by simp only [show (mu (mu (mu (mu σ 19 (σ 18 0) 23) 18 0 (σ 18 0 + 1)) 19 (σ 18 0 + 1) 20) 18 0 ((σ 18 0 + 1) + 1)) 18 0 = ((σ 18 0 + 1) + 1) from by first | rfl | (simp only [mu_app, mr_app, ru, over, and_self, ↓reduceIte]; (repeat (first | rw [if_neg (by omega)] | rw [if_pos (by omega)])))]; first | done | rfl) ?_
    refine g_cI (b := (σ 18 4 - 100)) (by first | rw [show (mu (mu (mu (mu σ 19 (σ 18 0) 23) 18 0 (σ 18 0 + 1)) 19 (σ 18 0 + 1) 20) 18 0 ((σ 18 0 + 1) + 1)) 18 4 = σ 18 4 from by first | rfl | (simp only [mu_app, mr_app, ru, over, and_self, ↓reduceIte]; (repeat (first | rw [if_neg (by omega)] | rw [if_pos (by omega)])))] | simp only [show (mu (mu (mu (mu σ 19 (σ 18 0) 23) 18 0 (σ 18 0 + 1)) 19 (σ 18 0 + 1) 20) 18 0 ((σ 18 0 + 1) + 1)) 18 4 = σ 18 4 from by first | rfl | (simp only [mu_app, mr_app, ru, over, and_self, ↓reduceIte]; (repeat (first | rw [if_neg (by omega)] | rw [if_pos (by omega)])))]) ?_
    refine g_isub C dX1_begin_191 ?_
    exact hret _ _ _ _ dX1_begin_192 (by first | rfl | omega) (by first | rfl | (funext k_ j_; simp only [mu_app, mr_app]; (repeat' split) <;> first | rfl | omega | (exfalso; omega)))
  · refine g_iconst C dX1_begin_6 ?_
    exact hret _ _ _ _ dX1_begin_7 (by first | rfl | omega) (by first | rfl | (funext k_ j_; simp only [mu_app, mr_app]; (repeat' split) <;> first | rfl | omega | (exfalso; omega)))
set_option maxHeartbeats 4000000 in
set_option maxRecDepth 100000 in
theorem kX1_begin_5_23 {l : Launch} {K : Nat → ClassId} {D : va_G} {ad : Int → Nat} {E : gEnv} {σ : Mem} {d : Int} {P : cP} (hap : Apart ad 60) (hE : gEok E) (hcE : ∀ (A : Nat → Prop) (U : State) (H : Heap), E A U H → cE P A U H) (hd : 0 ≤ d ∧ d ≤ 5) (ht : 0 ≤ σ 18 0 ∧ σ 18 0 ≤ 11) (hk : σ 18 3 = 5) : CtI l K D ad 60 (cfC ad K) E yX1_begin cX1_begin 4 (some .int) 5 [.ref (ad 18), .int (iI 23), .int (iI d)] σ (σ 18 2 - (2 * (σ 18 4 - 100))) (mu (mu (mu (mu (mu (mu σ 19 (σ 18 0) 23) 19 (σ 18 0 + 1) 20) 19 (σ 18 0 + 2) 14) 19 (σ 18 0 + 3) 13) 19 (σ 18 0 + 4) 10) 18 0 (σ 18 0 + 5)) := by
  refine ctI_of hap hE (by decide) rfl .int (nar_i _) (fun M C hn hret => ?_)
  have C : Good l K D ad 60 E 5 cX1_begin RX1 M := C
  have hcS := hcE _ _ _ (gd_E C)
  show G M ad 60 (cfC ad K) 0 [(0, .ref (ad 18)), (1, .int (iI 23)), (2, .int (iI d))] [] σ
  refine g_iload_n C dX1_begin_0 (p := 2) (hi := rfl) (hv := rfl) ?_
  refine (g_bipush C dX1_begin_1 (by decide)) ?_
  refine g_icmp_le C (tgt := 8) dX1_begin_3 (by decide) (by omega) (by omega) (fun h_1 => ?_) (fun h_1 => ?_)
  · refine g_aload_n C dX1_begin_8 (p := 0) (hi := rfl) (hv := rfl) ?_
    refine g_iload_n C dX1_begin_9 (p := 1) (hi := rfl) (hv := rfl) ?_
    refine gc_callv_X1 C dX1_begin_10 (kX1_leave (σ := σ) (b := 23) hap hE (by first | assumption | omega | exact hd | exact ht | exact hk)) mw_X1_leave wl_X1_65 (by decide) (by decide) rfl rfl (by simp [Value.category]) ?_
    refine g_iload_n C dX1_begin_13 (p := 2) (hi := rfl) (hv := rfl) ?_
    refine g_iconst C dX1_begin_14 ?_
    refine g_iadd C dX1_begin_15 ?_
    refine g_istore_n C hn dX1_begin_16 rfl rfl rfl ?_
    refine g_iload_n C dX1_begin_17 (p := 2) (hi := rfl) (hv := rfl) ?_
    refine g_swIn C 23 (tgt := 175) dX1_begin_18 (by omega) rfl (by decide) (by decide) rfl (by decide) ?_
    refine g_aload_n C dX1_begin_175 (p := 1) (hi := rfl) (hv := rfl) ?_
    refine (g_bipush C dX1_begin_176 (by decide)) ?_
    refine g_iload_n C dX1_begin_178 (p := 0) (hi := rfl) (hv := rfl) ?_
    refine gc_call_X1 C dX1_begin_179 (kX1_begin_20 (σ := (mu (mu σ 19 (σ 18 0) 23) 18 0 (σ 18 0 + 1))) (d := d + 1) (P := P) hap hE (by first | assumption | omega | exact hd | exact ht | exact hk) (by first | assumption | omega | exact hd | exact ht | exact hk) (by (try simp only [show (mu (mu σ 19 (σ 18 0) 23) 18 0 (σ 18 0 + 1)) 18 0 = (σ 18 0 + 1) from by first | rfl | (simp only [mu_app, mr_app, ru, over, and_self, ↓reduceIte]; (repeat (first | rw [if_neg (by omega)] | rw [if_pos (by omega)])))]); first | done | first | assumption | omega | exact hd | exact ht | exact hk)) mw_X1_begin wl_X1_51 (by decide) (by decide) rfl rfl (by simp [Value.category]) ?_
    refine g_eq (σ' := (mu (mu (mu (mu σ 19 (σ 18 0) 23) 18 0 (σ 18 0 + 1)) 19 (σ 18 0 + 1) 20) 18 0 ((σ 18 0 + 1) + 1))) rfl rfl rfl (by simp only [show (mu (mu σ 19 (σ 18 0) 23) 18 0 (σ 18 0 + 1)) 18 0 = (σ 18 0 + 1) from by first | rfl | (simp only [mu_app, mr_app, ru, over, and_self, ↓reduceIte]; (repeat (first | rw [if_neg (by omega)] | rw [if_pos (by omega)])))]; first | done | rfl) ?_
    refine g_cI (b := (σ 18 2)) (by first | rw [show (mu (mu σ 19 (σ 18 0) 23) 18 0 (σ 18 0 + 1)) 18 2 = σ 18 2 from by first | rfl | (simp only [mu_app, mr_app, ru, over, and_self, ↓reduceIte]; (repeat (first | rw [if_neg (by omega)] | rw [if_pos (by omega)])))] | simp only [show (mu (mu σ 19 (σ 18 0) 23) 18 0 (σ 18 0 + 1)) 18 2 = σ 18 2 from by first | rfl | (simp only [mu_app, mr_app, ru, over, and_self, ↓reduceIte]; (repeat (first | rw [if_neg (by omega)] | rw [if_pos (by omega)])))]) ?_
    refine g_aload_n C dX1_begin_182 (p := 1) (hi := rfl) (hv := rfl) ?_
    refine g_aload_n C dX1_begin_183 (p := 1) (hi := rfl) (hv := rfl) ?_
    refine gc_call_X1 C dX1_begin_184 (kX1_sizeBody_5 (σ := (mu (mu (mu (mu σ 19 (σ 18 0) 23) 18 0 (σ 18 0 + 1)) 19 (σ 18 0 + 1) 20) 18 0 ((σ 18 0 + 1) + 1))) (P := P) hap hE (by first | assumption | omega | exact hd | exact ht | exact hk) (by (try simp only [show (mu (mu (mu (mu σ 19 (σ 18 0) 23) 18 0 (σ 18 0 + 1)) 19 (σ 18 0 + 1) 20) 18 0 ((σ 18 0 + 1) + 1)) 18 3 = σ 18 3 from by first | rfl | (simp only [mu_app, mr_app, ru, over, and_self, ↓reduceIte]; (repeat (first | rw [if_neg (by omega)] | rw [if_pos (by omega)])))]); first | done | first | assumption | omega | exact hd | exact ht | exact hk)) mw_X1_sizeBody wl_X1_44 (by decide) (by decide) rfl rfl (by simp [Value.category]) ?_
    refine g_iload_n C dX1_begin_187 (p := 0) (hi := rfl) (hv := rfl) ?_
    refine gc_call_X1 C dX1_begin_188 (kX1_begin_14 (σ := (mu (mu (mu (mu σ 19 (σ 18 0) 23) 18 0 (σ 18 0 + 1)) 19 (σ 18 0 + 1) 20) 18 0 ((σ 18 0 + 1) + 1))) (d := d + 1) (P := P) hap hE (by first | assumption | omega | exact hd | exact ht | exact hk) (by first | assumption | omega | exact hd | exact ht | exact hk) (by (try simp only [show (mu (mu (mu (mu σ 19 (σ 18 0) 23) 18 0 (σ 18 0 + 1)) 19 (σ 18 0 + 1) 20) 18 0 ((σ 18 0 + 1) + 1)) 18 0 = ((σ 18 0 + 1) + 1) from by first | rfl | (simp only [mu_app, mr_app, ru, over, and_self, ↓reduceIte]; (repeat (first | rw [if_neg (by omega)] | rw [if_pos (by omega)])))]); first | done | first | assumption | omega | exact hd | exact ht | exact hk)) mw_X1_begin wl_X1_51 (by decide) (by decide) rfl rfl (by simp [Value.category]) ?_
    refine g_eq (σ' := (mu (mu (mu (mu (mu (mu (mu (mu σ 19 (σ 18 0) 23) 18 0 (σ 18 0 + 1)) 19 (σ 18 0 + 1) 20) 18 0 ((σ 18 0 + 1) + 1)) 19 ((σ 18 0 + 1) + 1) 14) 19 (((σ 18 0 + 1) + 1) + 1) 13) 19 (((σ 18 0 + 1) + 1) + 2) 10) 18 0 (((σ 18 0 + 1) + 1) + 3))) rfl rfl rfl (by simp only [show (mu (mu (mu (mu σ 19 (σ 18 0) 23) 18 0 (σ 18 0 + 1)) 19 (σ 18 0 + 1) 20) 18 0 ((σ 18 0 + 1) + 1)) 18 0 = ((σ 18 0 + 1) + 1) from by first | rfl | (simp only [mu_app, mr_app, ru, over, and_self, ↓reduceIte]; (repeat (first | rw [if_neg (by omega)] | rw [if_pos (by omega)])))]; first | done | rfl) ?_
    refine g_cI (b := (2 * (σ 18 4 - 100))) (by first | rw [show (mu (mu (mu (mu σ 19 (σ 18 0) 23) 18 0 (σ 18 0 + 1)) 19 (σ 18 0 + 1) 20) 18 0 ((σ 18 0 + 1) + 1)) 18 4 = σ 18 4 from by first | rfl | (simp only [mu_app, mr_app, ru, over, and_self, ↓reduceIte]; (repeat (first | rw [if_neg (by omega)] | rw [if_pos (by omega)])))] | simp only [show (mu (mu (mu (mu σ 19 (σ 18 0) 23) 18 0 (σ 18 0 + 1)) 19 (σ 18 0 + 1) 20) 18 0 ((σ 18 0 + 1) + 1)) 18 4 = σ 18 4 from by first | rfl | (simp only [mu_app, mr_app, ru, over, and_self, ↓reduceIte]; (repeat (first | rw [if_neg (by omega)] | rw [if_pos (by omega)])))]) ?_
    refine g_isub C dX1_begin_191 ?_
    exact hret _ _ _ _ dX1_begin_192 (by first | rfl | omega) (by first | rfl | (funext k_ j_; simp only [mu_app, mr_app]; (repeat' split) <;> first | rfl | omega | (exfalso; omega)))
  · refine g_iconst C dX1_begin_6 ?_
    exact hret _ _ _ _ dX1_begin_7 (by first | rfl | omega) (by first | rfl | (funext k_ j_; simp only [mu_app, mr_app]; (repeat' split) <;> first | rfl | omega | (exfalso; omega)))

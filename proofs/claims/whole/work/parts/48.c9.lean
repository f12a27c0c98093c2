theorem kX8_isRow_y {l : Launch} {K : Nat → ClassId} {D : va_G} {ad : Int → Nat} {E : gEnv} {σ : Mem} {r : Int} (hap : Apart ad 60) (hE : gEok E) (rr : R3 r) (hcond : 0 ≤ r ∧ r < 8) : CtI l K D ad 60 (cfC ad K) E yX8_isRow cX8_isRow 2 (some .boolean) 0 [.ref (ad 0), .int (iI r)] σ 1 σ := by
  have h1 := kX8_isRow (l := l) (K := K) (D := D) (E := E) (σ := σ) (r := r) hap hE rr
  rw [if_pos hcond] at h1
  exact h1
theorem kX8_isRow_n {l : Launch} {K : Nat → ClassId} {D : va_G} {ad : Int → Nat} {E : gEnv} {σ : Mem} {r : Int} (hap : Apart ad 60) (hE : gEok E) (rr : R3 r) (hcond : ¬ (0 ≤ r ∧ r < 8)) : CtI l K D ad 60 (cfC ad K) E yX8_isRow cX8_isRow 2 (some .boolean) 0 [.ref (ad 0), .int (iI r)] σ 0 σ := by
  have h1 := kX8_isRow (l := l) (K := K) (D := D) (E := E) (σ := σ) (r := r) hap hE rr
  rw [if_neg hcond] at h1
  exact h1
theorem kX8_isSeed_y {l : Launch} {K : Nat → ClassId} {D : va_G} {ad : Int → Nat} {E : gEnv} {σ : Mem} {r : Int} (hap : Apart ad 60) (hE : gEok E) (rr : R3 r) (hcond : 1 ≤ r ∧ r ≤ 999999) : CtI l K D ad 60 (cfC ad K) E yX8_isSeed cX8_isSeed 1 (some .boolean) 0 [.int (iI r)] σ 1 σ := by
  have h1 := kX8_isSeed (l := l) (K := K) (D := D) (E := E) (σ := σ) (r := r) hap hE rr
  rw [if_pos hcond] at h1
  exact h1
theorem kX8_isSeed_n {l : Launch} {K : Nat → ClassId} {D : va_G} {ad : Int → Nat} {E : gEnv} {σ : Mem} {r : Int} (hap : Apart ad 60) (hE : gEok E) (rr : R3 r) (hcond : ¬ (1 ≤ r ∧ r ≤ 999999)) : CtI l K D ad 60 (cfC ad K) E yX8_isSeed cX8_isSeed 1 (some .boolean) 0 [.int (iI r)] σ 0 σ := by
  have h1 := kX8_isSeed (l := l) (K := K) (D := D) (E := E) (σ := σ) (r := r) hap hE rr
  rw [if_neg hcond] at h1
  exact h1
theorem kX8_isEither_y {l : Launch} {K : Nat → ClassId} {D : va_G} {ad : Int → Nat} {E : gEnv} {σ : Mem} {r : Int} (hap : Apart ad 60) (hE : gEok E) (rr : R3 r) (hcond : r = 0 ∨ r = 1) : CtI l K D ad 60 (cfC ad K) E yX8_isEither cX8_isEither 1 (some .boolean) 0 [.int (iI r)] σ 1 σ := by
  have h1 := kX8_isEither (l := l) (K := K) (D := D) (E := E) (σ := σ) (r := r) hap hE rr
  rw [if_pos hcond] at h1
  exact h1
theorem kX8_isEither_n {l : Launch} {K : Nat → ClassId} {D : va_G} {ad : Int → Nat} {E : gEnv} {σ : Mem} {r : Int} (hap : Apart ad 60) (hE : gEok E) (rr : R3 r) (hcond : ¬ (r = 0 ∨ r = 1)) : CtI l K D ad 60 (cfC ad K) E yX8_isEither cX8_isEither 1 (some .boolean) 0 [.int (iI r)] σ 0 σ := by
  have h1 := kX8_isEither (l := l) (K := K) (D := D) (E := E) (σ := σ) (r := r) hap hE rr
  rw [if_neg hcond] at h1
  exact h1
theorem kX8_isThing_y {l : Launch} {K : Nat → ClassId} {D : va_G} {ad : Int → Nat} {E : gEnv} {σ : Mem} {r : Int} (hap : Apart ad 60) (hE : gEok E) (hH : 20 ≤ σ 0 8 ∧ σ 0 8 < 24) (h3 : 0 ≤ σ (σ 0 8) 3 ∧ σ (σ 0 8) 3 ≤ 5) (rr : R3 r) (hcond : 0 ≤ r ∧ r < σ (σ 0 8) 3) : CtI l K D ad 60 (cfC ad K) E yX8_isThing cX8_isThing 2 (some .boolean) 0 [.ref (ad 0), .int (iI r)] σ 1 σ := by
  have h1 := kX8_isThing (l := l) (K := K) (D := D) (E := E) (σ := σ) (r := r) hap hE hH h3 rr
  rw [if_pos hcond] at h1
  exact h1
theorem kX8_isThing_n {l : Launch} {K : Nat → ClassId} {D : va_G} {ad : Int → Nat} {E : gEnv} {σ : Mem} {r : Int} (hap : Apart ad 60) (hE : gEok E) (hH : 20 ≤ σ 0 8 ∧ σ 0 8 < 24) (h3 : 0 ≤ σ (σ 0 8) 3 ∧ σ (σ 0 8) 3 ≤ 5) (rr : R3 r) (hcond : ¬ (0 ≤ r ∧ r < σ (σ 0 8) 3)) : CtI l K D ad 60 (cfC ad K) E yX8_isThing cX8_isThing 2 (some .boolean) 0 [.ref (ad 0), .int (iI r)] σ 0 σ := by
  have h1 := kX8_isThing (l := l) (K := K) (D := D) (E := E) (σ := σ) (r := r) hap hE hH h3 rr
  rw [if_neg hcond] at h1
  exact h1
theorem kX8_isPerson_y {l : Launch} {K : Nat → ClassId} {D : va_G} {ad : Int → Nat} {E : gEnv} {σ : Mem} {r : Int} (hap : Apart ad 60) (hE : gEok E) (hH : 20 ≤ σ 0 8 ∧ σ 0 8 < 24) (h2 : 0 ≤ σ (σ 0 8) 2 ∧ σ (σ 0 8) 2 ≤ 4) (rr : R3 r) (hcond : 0 ≤ r ∧ r < σ (σ 0 8) 2) : CtI l K D ad 60 (cfC ad K) E yX8_isPerson cX8_isPerson 2 (some .boolean) 0 [.ref (ad 0), .int (iI r)] σ 1 σ := by
  have h1 := kX8_isPerson (l := l) (K := K) (D := D) (E := E) (σ := σ) (r := r) hap hE hH h2 rr
  rw [if_pos hcond] at h1
  exact h1
theorem kX8_isPerson_n {l : Launch} {K : Nat → ClassId} {D : va_G} {ad : Int → Nat} {E : gEnv} {σ : Mem} {r : Int} (hap : Apart ad 60) (hE : gEok E) (hH : 20 ≤ σ 0 8 ∧ σ 0 8 < 24) (h2 : 0 ≤ σ (σ 0 8) 2 ∧ σ (σ 0 8) 2 ≤ 4) (rr : R3 r) (hcond : ¬ (0 ≤ r ∧ r < σ (σ 0 8) 2)) : CtI l K D ad 60 (cfC ad K) E yX8_isPerson cX8_isPerson 2 (some .boolean) 0 [.ref (ad 0), .int (iI r)] σ 0 σ := by
  have h1 := kX8_isPerson (l := l) (K := K) (D := D) (E := E) (σ := σ) (r := r) hap hE hH h2 rr
  rw [if_neg hcond] at h1
  exact h1
theorem kX5_has_y {l : Launch} {K : Nat → ClassId} {D : va_G} {ad : Int → Nat} {E : gEnv} {σ : Mem} {self a n : Int} (hap : Apart ad 60) (hE : gEok E) (hsl : 44 ≤ self ∧ self < 52) (ra : R3 a) (rn : R3 n) (hl : 0 ≤ σ self 3 ∧ σ self 3 ≤ 40) (hcond : 0 ≤ a ∧ 0 ≤ n ∧ a ≤ σ self 3 - n) : CtI l K D ad 60 (cfC ad K) E yX5_has cX5_has 3 (some .boolean) 0 [.ref (ad self), .int (iI a), .int (iI n)] σ 1 σ := by
  have h1 := kX5_has (l := l) (K := K) (D := D) (E := E) (σ := σ) (a := a) (n := n) (self := self) hap hE hsl ra rn hl
  rw [if_pos hcond] at h1
  exact h1
theorem kX5_has_n {l : Launch} {K : Nat → ClassId} {D : va_G} {ad : Int → Nat} {E : gEnv} {σ : Mem} {self a n : Int} (hap : Apart ad 60) (hE : gEok E) (hsl : 44 ≤ self ∧ self < 52) (ra : R3 a) (rn : R3 n) (hl : 0 ≤ σ self 3 ∧ σ self 3 ≤ 40) (hcond : ¬ (0 ≤ a ∧ 0 ≤ n ∧ a ≤ σ self 3 - n)) : CtI l K D ad 60 (cfC ad K) E yX5_has cX5_has 3 (some .boolean) 0 [.ref (ad self), .int (iI a), .int (iI n)] σ 0 σ := by
  have h1 := kX5_has (l := l) (K := K) (D := D) (E := E) (σ := σ) (a := a) (n := n) (self := self) hap hE hsl ra rn hl
  rw [if_neg hcond] at h1
  exact h1
set_option maxHeartbeats 4000000 in
set_option maxRecDepth 100000 in
theorem kX8_row {l : Launch} {K : Nat → ClassId} {D : va_G} {ad : Int → Nat} {E : gEnv} {σ : Mem} {r ln n : Int} (hap : Apart ad 60) (hE : gEok E) (rr : R3 r) (rl : R3 ln) (rn : R3 n) : CtI l K D ad 60 (cfC ad K) E yX8_row cX8_row 4 (some .int) 2 [.ref (ad 0), .int (iI r), .int (iI ln), .int (iI n)] σ (if ¬ (0 ≤ r ∧ r < 8) ∨ ln < 0 ∨ 3 ≤ ln ∨ 40 < n then -1000001 else if n < 0 then -1000014 else n) (if ¬ (0 ≤ r ∧ r < 8) ∨ ln < 0 ∨ 3 ≤ ln ∨ 40 < n then σ else if n < 0 then mu σ 0 11 4 else mu (mr (mu (mu (mu σ (44 + r) 1 0) (44 + r) 2 ln) (44 + r) 3 n) (44 + r + 8) (over (σ (44 + r + 8)) (fun _ => 0) 0 40)) 0 11 0) := by
  refine ctI_of hap hE (by decide) rfl .int (nar_i _) (fun M C hn hret => ?_)
  have C : Good l K D ad 60 E 2 cX8_row RX8 M := C
  show G M ad 60 (cfC ad K) 0 [(0, .ref (ad 0)), (1, .int (iI r)), (2, .int (iI ln)), (3, .int (iI n))] [] σ
  refine g_aload_n C dX8_row_0 (p := 0) (hi := rfl) (hv := rfl) ?_
  refine g_iload_n C dX8_row_1 (p := 1) (hi := rfl) (hv := rfl) ?_
  by_cases hb_1 : 0 ≤ r ∧ r < 8
  · refine gc_call_X8 C dX8_row_2 (kX8_isRow_y (σ := σ) (r := r) hap hE (by first | assumption | omega | exact rr | exact rl | exact rn) (by first | assumption | omega | exact rr | exact rl | exact rn)) mw_X8_isRow wl_X8_72 (by decide) (by decide) rfl rfl (by simp [Value.category]) ?_
    refine g_if_eq C (tgt := 23) dX8_row_5 (by decide) (by omega) (fun h_2 => ?_) (fun h_2 => ?_)
    · exact absurd h_2 (by decide)
    · refine g_iload_n C dX8_row_8 (p := 2) (hi := rfl) (hv := rfl) ?_
      refine g_if_lt C (tgt := 23) dX8_row_9 (by decide) (by omega) (fun h_3 => ?_) (fun h_3 => ?_)
      · refine g_ldc C (n := (-1000001)) wk_X8_76 (by decide +kernel) dX8_row_23 ?_
        exact hret _ _ _ _ dX8_row_25 (by first | rfl | omega | ((repeat' split) <;> first | (exfalso; omega) | rfl | exact mu_mu | omega)) (by first | rfl | omega | ((repeat' split) <;> first | (exfalso; omega) | rfl | exact mu_mu | omega))
      · refine g_iload_n C dX8_row_12 (p := 2) (hi := rfl) (hv := rfl) ?_
        refine g_iconst C dX8_row_13 ?_
        refine g_icmp_ge C (tgt := 23) dX8_row_14 (by decide) (by omega) (by omega) (fun h_4 => ?_) (fun h_4 => ?_)
        · refine g_ldc C (n := (-1000001)) wk_X8_76 (by decide +kernel) dX8_row_23 ?_
          exact hret _ _ _ _ dX8_row_25 (by first | rfl | omega | ((repeat' split) <;> first | (exfalso; omega) | rfl | exact mu_mu | omega)) (by first | rfl | omega | ((repeat' split) <;> first | (exfalso; omega) | rfl | exact mu_mu | omega))
        · refine g_iload_n C dX8_row_17 (p := 3) (hi := rfl) (hv := rfl) ?_
          refine (g_bipush C dX8_row_18 (by decide)) ?_
          refine g_icmp_le C (tgt := 26) dX8_row_20 (by decide) (by omega) (by omega) (fun h_5 => ?_) (fun h_5 => ?_)
          · refine g_iload_n C dX8_row_26 (p := 3) (hi := rfl) (hv := rfl) ?_
            refine g_if_ge C (tgt := 36) dX8_row_27 (by decide) (by omega) (fun h_6 => ?_) (fun h_6 => ?_)
            · refine g_aload_n C dX8_row_36 (p := 0) (hi := rfl) (hv := rfl) ?_
              refine gc_g_X8_rows C dX8_row_37 wf_X8_11 ?_
              refine g_iload_n C dX8_row_40 (p := 1) (hi := rfl) (hv := rfl) ?_
              refine gc_a_rows C dX8_row_41 (by omega) (by omega) ?_
              refine g_iload_n C dX8_row_42 (p := 2) (hi := rfl) (hv := rfl) ?_
              refine g_iload_n C dX8_row_43 (p := 3) (hi := rfl) (hv := rfl) ?_
              refine gc_callv_X5 C dX8_row_44 (kX5_lay (σ := σ) (ln := ln) (n := n) (self := 44 + r) hap hE (by first | assumption | omega | exact rr | exact rl | exact rn)) mw_X5_lay wl_X8_81 (by decide) (by decide) (by omega) rfl rfl (by simp [Value.category]) ?_
              refine g_aload_n C dX8_row_47 (p := 0) (hi := rfl) (hv := rfl) ?_
              refine g_iload_n C dX8_row_48 (p := 3) (hi := rfl) (hv := rfl) ?_
              refine gc_call_X8 C dX8_row_49 (kX8_fine (σ := (mr (mu (mu (mu σ (44 + r) 1 0) (44 + r) 2 ln) (44 + r) 3 n) ((44 + r) + 8) (over (σ ((44 + r) + 8)) (fun _ => 0) 0 40))) (k := n) hap hE) mw_X8_fine wl_X8_85 (by decide) (by decide) rfl rfl (by simp [Value.category]) ?_
              exact hret _ _ _ _ dX8_row_52 (by first | rfl | omega | ((repeat' split) <;> first | (exfalso; omega) | rfl | exact mu_mu | omega)) (by first | rfl | omega | ((repeat' split) <;> first | (exfalso; omega) | rfl | exact mu_mu | omega))
            · refine g_aload_n C dX8_row_30 (p := 0) (hi := rfl) (hv := rfl) ?_
              refine g_iconst C dX8_row_31 ?_
              refine gc_call_X8 C dX8_row_32 (kX8_found (σ := σ) (k := 4) hap hE) mw_X8_found wl_X8_77 (by decide) (by decide) rfl rfl (by simp [Value.category]) ?_
              exact hret _ _ _ _ dX8_row_35 (by first | rfl | omega | ((repeat' split) <;> first | (exfalso; omega) | rfl | exact mu_mu | omega)) (by first | rfl | omega | ((repeat' split) <;> first | (exfalso; omega) | rfl | exact mu_mu | omega))
          · refine g_ldc C (n := (-1000001)) wk_X8_76 (by decide +kernel) dX8_row_23 ?_
            exact hret _ _ _ _ dX8_row_25 (by first | rfl | omega | ((repeat' split) <;> first | (exfalso; omega) | rfl | exact mu_mu | omega)) (by first | rfl | omega | ((repeat' split) <;> first | (exfalso; omega) | rfl | exact mu_mu | omega))
  · refine gc_call_X8 C dX8_row_2 (kX8_isRow_n (σ := σ) (r := r) hap hE (by first | assumption | omega | exact rr | exact rl | exact rn) (by first | assumption | omega | exact rr | exact rl | exact rn)) mw_X8_isRow wl_X8_72 (by decide) (by decide) rfl rfl (by simp [Value.category]) ?_
    refine g_if_eq C (tgt := 23) dX8_row_5 (by decide) (by omega) (fun h_7 => ?_) (fun h_7 => ?_)
    · refine g_ldc C (n := (-1000001)) wk_X8_76 (by decide +kernel) dX8_row_23 ?_
      exact hret _ _ _ _ dX8_row_25 (by first | rfl | omega | ((repeat' split) <;> first | (exfalso; omega) | rfl | exact mu_mu | omega)) (by first | rfl | omega | ((repeat' split) <;> first | (exfalso; omega) | rfl | exact mu_mu | omega))
    · exact absurd h_7 (by decide)
set_option maxHeartbeats 4000000 in
set_option maxRecDepth 100000 in
theorem kX8_set {l : Launch} {K : Nat → ClassId} {D : va_G} {ad : Int → Nat} {E : gEnv} {σ : Mem} {r i v : Int} (hap : Apart ad 60) (hE : gEok E) (hrw : ∀ r, 0 ≤ r → r < 8 → (0 ≤ σ (44 + r) 1 ∧ σ (44 + r) 1 ≤ 1) ∧ (0 ≤ σ (44 + r) 2 ∧ σ (44 + r) 2 ≤ 2) ∧ (0 ≤ σ (44 + r) 3 ∧ σ (44 + r) 3 ≤ 40)) (rr : R3 r) (ri : R3 i) (rv : R3 v) : CtI l K D ad 60 (cfC ad K) E yX8_set cX8_set 5 (some .int) 2 [.ref (ad 0), .int (iI r), .int (iI i), .int (iI v)] σ (if ¬ (0 ≤ r ∧ r < 8) then -1000001 else if ¬ σ (44 + r) 1 = 0 then -1000011 else if i < 0 ∨ σ (44 + r) 3 ≤ i then -1000012 else (cutC (σ (44 + r) 2) v)) (if ¬ (0 ≤ r ∧ r < 8) then σ else if ¬ σ (44 + r) 1 = 0 then mu σ 0 11 1 else if i < 0 ∨ σ (44 + r) 3 ≤ i then mu σ 0 11 2 else mu (mu σ (44 + r + 8) i (cutC (σ (44 + r) 2) v)) 0 11 0) := by
  have hr_r := hrw r
  refine ctI_of hap hE (by decide) rfl .int (nar_i _) (fun M C hn hret => ?_)
  have C : Good l K D ad 60 E 2 cX8_set RX8 M := C
  show G M ad 60 (cfC ad K) 0 [(0, .ref (ad 0)), (1, .int (iI r)), (2, .int (iI i)), (3, .int (iI v))] [] σ
  refine g_aload_n C dX8_set_0 (p := 0) (hi := rfl) (hv := rfl) ?_
  refine g_iload_n C dX8_set_1 (p := 1) (hi := rfl) (hv := rfl) ?_
  by_cases hb_1 : 0 ≤ r ∧ r < 8
  · refine gc_call_X8 C dX8_set_2 (kX8_isRow_y (σ := σ) (r := r) hap hE (by first | assumption | omega | exact hrw | exact rr | exact ri | exact rv | (have := hr_r (by omega) (by omega); omega)) (by first | assumption | omega | exact hrw | exact rr | exact ri | exact rv | (have := hr_r (by omega) (by omega); omega))) mw_X8_isRow wl_X8_72 (by decide) (by decide) rfl rfl (by simp [Value.category]) ?_
    refine g_if_ne C (tgt := 11) dX8_set_5 (by decide) (by omega) (fun h_2 => ?_) (fun h_2 => ?_)
    · refine g_aload_n C dX8_set_11 (p := 0) (hi := rfl) (hv := rfl) ?_
      refine gc_g_X8_rows C dX8_set_12 wf_X8_11 ?_
      refine g_iload_n C dX8_set_15 (p := 1) (hi := rfl) (hv := rfl) ?_
      refine gc_a_rows C dX8_set_16 (by omega) (by omega) ?_
      refine g_astore C hn dX8_set_17 rfl rfl ?_
      refine g_aload C dX8_set_19 (p := 0) rfl ?_
      refine gc_g_X5_missing C (by omega) dX8_set_21 wf_X8_88 ?_
      refine g_if_eq C (tgt := 33) dX8_set_24 (by decide) (by have := hr_r (by omega) (by omega); omega) (fun h_3 => ?_) (fun h_3 => ?_)
      · refine g_iload_n C dX8_set_33 (p := 3) (hi := rfl) (hv := rfl) ?_
        refine g_if_lt C (tgt := 46) dX8_set_34 (by decide) (by omega) (fun h_4 => ?_) (fun h_4 => ?_)
        · refine g_aload_n C dX8_set_46 (p := 1) (hi := rfl) (hv := rfl) ?_
          refine g_iconst C dX8_set_47 ?_
          refine gc_call_X8 C dX8_set_48 (kX8_found (σ := σ) (k := 2) hap hE) mw_X8_found wl_X8_77 (by decide) (by decide) rfl rfl (by simp [Value.category]) ?_
          exact hret _ _ _ _ dX8_set_51 (by first | rfl | omega | ((repeat' split) <;> first | (exfalso; omega) | rfl | exact mu_mu | omega)) (by first | rfl | omega | ((repeat' split) <;> first | (exfalso; omega) | rfl | exact mu_mu | omega))
        · refine g_iload_n C dX8_set_37 (p := 3) (hi := rfl) (hv := rfl) ?_
          refine g_aload C dX8_set_38 (p := 0) rfl ?_
          refine gc_g_X5_length C (by omega) dX8_set_40 wf_X8_92 ?_
          refine g_icmp_lt C (tgt := 52) dX8_set_43 (by decide) (by omega) (by have := hr_r (by omega) (by omega); omega) (fun h_5 => ?_) (fun h_5 => ?_)
          · refine g_aload_n C dX8_set_52 (p := 1) (hi := rfl) (hv := rfl) ?_
            refine g_aload C dX8_set_53 (p := 0) rfl ?_
            refine g_iload_n C dX8_set_55 (p := 3) (hi := rfl) (hv := rfl) ?_
            refine g_iload_n C dX8_set_56 (p := 4) (hi := rfl) (hv := rfl) ?_
            refine gc_call_X5 C dX8_set_57 (kX5_put (σ := σ) (i := i) (v := v) (self := 44 + r) hap hE (by first | assumption | omega | exact hrw | exact rr | exact ri | exact rv | (have := hr_r (by omega) (by omega); omega)) (by first | assumption | omega | exact hrw | exact rr | exact ri | exact rv | (have := hr_r (by omega) (by omega); omega)) (by first | assumption | omega | exact hrw | exact rr | exact ri | exact rv | (have := hr_r (by omega) (by omega); omega)) (by first | assumption | omega | exact hrw | exact rr | exact ri | exact rv | (have := hr_r (by omega) (by omega); omega))) mw_X5_put wl_X8_96 (by decide) (by decide) (by omega) rfl rfl (by simp [Value.category]) ?_
            refine gc_call_X8 C dX8_set_60 (kX8_fine (σ := (mu σ ((44 + r) + 8) i (cutC (σ (44 + r) 2) v))) (k := cutC (σ (44 + r) 2) v) hap hE) mw_X8_fine wl_X8_85 (by decide) (by decide) rfl rfl (by simp [Value.category]) ?_
            exact hret _ _ _ _ dX8_set_63 (by first | rfl | omega | ((repeat' split) <;> first | (exfalso; omega) | rfl | exact mu_mu | omega)) (by first | rfl | omega | ((repeat' split) <;> first | (exfalso; omega) | rfl | exact mu_mu | omega))
          · refine g_aload_n C dX8_set_46 (p := 1) (hi := rfl) (hv := rfl) ?_
            refine g_iconst C dX8_set_47 ?_
            refine gc_call_X8 C dX8_set_48 (kX8_found (σ := σ) (k := 2) hap hE) mw_X8_found wl_X8_77 (by decide) (by decide) rfl rfl (by simp [Value.category]) ?_
            exact hret _ _ _ _ dX8_set_51 (by first | rfl | omega | ((repeat' split) <;> first | (exfalso; omega) | rfl | exact mu_mu | omega)) (by first | rfl | omega | ((repeat' split) <;> first | (exfalso; omega) | rfl | exact mu_mu | omega))
      · refine g_aload_n C dX8_set_27 (p := 1) (hi := rfl) (hv := rfl) ?_
        refine g_iconst C dX8_set_28 ?_
        refine gc_call_X8 C dX8_set_29 (kX8_found (σ := σ) (k := 1) hap hE) mw_X8_found wl_X8_77 (by decide) (by decide) rfl rfl (by simp [Value.category]) ?_
        exact hret _ _ _ _ dX8_set_32 (by first | rfl | omega | ((repeat' split) <;> first | (exfalso; omega) | rfl | exact mu_mu | omega)) (by first | rfl | omega | ((repeat' split) <;> first | (exfalso; omega) | rfl | exact mu_mu | omega))
    · exact absurd h_2 (by decide)
  · refine gc_call_X8 C dX8_set_2 (kX8_isRow_n (σ := σ) (r := r) hap hE (by first | assumption | omega | exact hrw | exact rr | exact ri | exact rv | (have := hr_r (by omega) (by omega); omega)) (by first | assumption | omega | exact hrw | exact rr | exact ri | exact rv | (have := hr_r (by omega) (by omega); omega))) mw_X8_isRow wl_X8_72 (by decide) (by decide) rfl rfl (by simp [Value.category]) ?_
    refine g_if_ne C (tgt := 11) dX8_set_5 (by decide) (by omega) (fun h_6 => ?_) (fun h_6 => ?_)
    · exact absurd h_6 (by decide)
    · refine g_ldc C (n := (-1000001)) wk_X8_76 (by decide +kernel) dX8_set_8 ?_
      exact hret _ _ _ _ dX8_set_10 (by first | rfl | omega | ((repeat' split) <;> first | (exfalso; omega) | rfl | exact mu_mu | omega)) (by first | rfl | omega | ((repeat' split) <;> first | (exfalso; omega) | rfl | exact mu_mu | omega))
set_option maxHeartbeats 4000000 in
set_option maxRecDepth 100000 in
theorem kX8_drop {l : Launch} {K : Nat → ClassId} {D : va_G} {ad : Int → Nat} {E : gEnv} {σ : Mem} {r : Int} (hap : Apart ad 60) (hE : gEok E) (hrw : ∀ r, 0 ≤ r → r < 8 → (0 ≤ σ (44 + r) 1 ∧ σ (44 + r) 1 ≤ 1) ∧ (0 ≤ σ (44 + r) 2 ∧ σ (44 + r) 2 ≤ 2) ∧ (0 ≤ σ (44 + r) 3 ∧ σ (44 + r) 3 ≤ 40)) (rr : R3 r) : CtI l K D ad 60 (cfC ad K) E yX8_drop cX8_drop 3 (some .int) 2 [.ref (ad 0), .int (iI r)] σ (if ¬ (0 ≤ r ∧ r < 8) then -1000001 else if ¬ σ (44 + r) 1 = 0 then -1000011 else σ (44 + r) 3) (if ¬ (0 ≤ r ∧ r < 8) then σ else if ¬ σ (44 + r) 1 = 0 then mu σ 0 11 1 else mu (mu σ (44 + r) 1 1) 0 11 0) := by
  have hr_r := hrw r
  refine ctI_of hap hE (by decide) rfl .int (nar_i _) (fun M C hn hret => ?_)
  have C : Good l K D ad 60 E 2 cX8_drop RX8 M := C
  show G M ad 60 (cfC ad K) 0 [(0, .ref (ad 0)), (1, .int (iI r))] [] σ
  refine g_aload_n C dX8_drop_0 (p := 0) (hi := rfl) (hv := rfl) ?_
  refine g_iload_n C dX8_drop_1 (p := 1) (hi := rfl) (hv := rfl) ?_
  by_cases hb_1 : 0 ≤ r ∧ r < 8
  · refine gc_call_X8 C dX8_drop_2 (kX8_isRow_y (σ := σ) (r := r) hap hE (by first | assumption | omega | exact hrw | exact rr) (by first | assumption | omega | exact hrw | exact rr)) mw_X8_isRow wl_X8_72 (by decide) (by decide) rfl rfl (by simp [Value.category]) ?_
    refine g_if_ne C (tgt := 11) dX8_drop_5 (by decide) (by omega) (fun h_2 => ?_) (fun h_2 => ?_)
    · refine g_aload_n C dX8_drop_11 (p := 0) (hi := rfl) (hv := rfl) ?_
      refine gc_g_X8_rows C dX8_drop_12 wf_X8_11 ?_
      refine g_iload_n C dX8_drop_15 (p := 1) (hi := rfl) (hv := rfl) ?_
      refine gc_a_rows C dX8_drop_16 (by omega) (by omega) ?_
      refine g_astore_n C hn dX8_drop_17 rfl rfl rfl ?_
      refine g_aload_n C dX8_drop_18 (p := 0) (hi := rfl) (hv := rfl) ?_
      refine gc_g_X5_missing C (by omega) dX8_drop_19 wf_X8_88 ?_
      refine g_if_eq C (tgt := 31) dX8_drop_22 (by decide) (by have := hr_r (by omega) (by omega); omega) (fun h_3 => ?_) (fun h_3 => ?_)
      · refine g_aload_n C dX8_drop_31 (p := 0) (hi := rfl) (hv := rfl) ?_
        refine g_iconst C dX8_drop_32 ?_
        refine gc_p_X5_missing C (by omega) (by omega) dX8_drop_33 wf_X8_88 ?_
        refine g_aload_n C dX8_drop_36 (p := 1) (hi := rfl) (hv := rfl) ?_
        refine g_aload_n C dX8_drop_37 (p := 0) (hi := rfl) (hv := rfl) ?_
        refine gc_g_X5_length C (by omega) dX8_drop_38 wf_X8_92 ?_
        refine g_cI (b := (σ (44 + r) 3)) (by first | rfl | (simp only [mu_app, mr_app, ru, over, and_self, ↓reduceIte]; (repeat (first | rw [if_neg (by omega)] | rw [if_pos (by omega)])))) ?_
        refine gc_call_X8 C dX8_drop_41 (kX8_fine (σ := (mu σ (44 + r) 1 1)) (k := σ (44 + r) 3) hap hE) mw_X8_fine wl_X8_85 (by decide) (by decide) rfl rfl (by simp [Value.category]) ?_
        exact hret _ _ _ _ dX8_drop_44 (by first | rfl | omega | ((repeat' split) <;> first | (exfalso; omega) | rfl | exact mu_mu | omega)) (by first | rfl | omega | ((repeat' split) <;> first | (exfalso; omega) | rfl | exact mu_mu | omega))
      · refine g_aload_n C dX8_drop_25 (p := 1) (hi := rfl) (hv := rfl) ?_
        refine g_iconst C dX8_drop_26 ?_
        refine gc_call_X8 C dX8_drop_27 (kX8_found (σ := σ) (k := 1) hap hE) mw_X8_found wl_X8_77 (by decide) (by decide) rfl rfl (by simp [Value.category]) ?_
        exact hret _ _ _ _ dX8_drop_30 (by first | rfl | omega | ((repeat' split) <;> first | (exfalso; omega) | rfl | exact mu_mu | omega)) (by first | rfl | omega | ((repeat' split) <;> first | (exfalso; omega) | rfl | exact mu_mu | omega))
    · exact absurd h_2 (by decide)
  · refine gc_call_X8 C dX8_drop_2 (kX8_isRow_n (σ := σ) (r := r) hap hE (by first | assumption | omega | exact hrw | exact rr) (by first | assumption | omega | exact hrw | exact rr)) mw_X8_isRow wl_X8_72 (by decide) (by decide) rfl rfl (by simp [Value.category]) ?_
    refine g_if_ne C (tgt := 11) dX8_drop_5 (by decide) (by omega) (fun h_4 => ?_) (fun h_4 => ?_)
    · exact absurd h_4 (by decide)
    · refine g_ldc C (n := (-1000001)) wk_X8_76 (by decide +kernel) dX8_drop_8 ?_
      exact hret _ _ _ _ dX8_drop_10 (by first | rfl | omega | ((repeat' split) <;> first | (exfalso; omega) | rfl | exact mu_mu | omega)) (by first | rfl | omega | ((repeat' split) <;> first | (exfalso; omega) | rfl | exact mu_mu | omega))
set_option maxHeartbeats 4000000 in
set_option maxRecDepth 100000 in
theorem kX8_copy {l : Launch} {K : Nat → ClassId} {D : va_G} {ad : Int → Nat} {E : gEnv} {σ : Mem} {a i b j n : Int} (hap : Apart ad 60) (hE : gEok E) (hrw : ∀ r, 0 ≤ r → r < 8 → (0 ≤ σ (44 + r) 1 ∧ σ (44 + r) 1 ≤ 1) ∧ (0 ≤ σ (44 + r) 2 ∧ σ (44 + r) 2 ≤ 2) ∧ (0 ≤ σ (44 + r) 3 ∧ σ (44 + r) 3 ≤ 40)) (ra : R3 a) (rb : R3 b) (ri : R3 i) (rj : R3 j) (rn : R3 n) : CtI l K D ad 60 (cfC ad K) E yX8_copy cX8_copy 8 (some .int) 2 [.ref (ad 0), .int (iI a), .int (iI i), .int (iI b), .int (iI j), .int (iI n)] σ (if ¬ (0 ≤ a ∧ a < 8) ∨ ¬ (0 ≤ b ∧ b < 8) then -1000001 else if ¬ σ (44 + a) 1 = 0 ∨ ¬ σ (44 + b) 1 = 0 then -1000011 else if ¬ σ (44 + a) 2 = σ (44 + b) 2 then -1000015 else if ¬ (0 ≤ i ∧ 0 ≤ n ∧ i ≤ σ (44 + a) 3 - n) ∨ ¬ (0 ≤ j ∧ 0 ≤ n ∧ j ≤ σ (44 + b) 3 - n) then -1000012 else n) (if ¬ (0 ≤ a ∧ a < 8) ∨ ¬ (0 ≤ b ∧ b < 8) then σ else if ¬ σ (44 + a) 1 = 0 ∨ ¬ σ (44 + b) 1 = 0 then mu σ 0 11 1 else if ¬ σ (44 + a) 2 = σ (44 + b) 2 then mu σ 0 11 5 else if ¬ (0 ≤ i ∧ 0 ≤ n ∧ i ≤ σ (44 + a) 3 - n) ∨ ¬ (0 ≤ j ∧ 0 ≤ n ∧ j ≤ σ (44 + b) 3 - n) then mu σ 0 11 2 else mu (mr σ (44 + b + 8) (cpy (σ (44 + a + 8)) (σ (44 + b + 8)) i j n)) 0 11 0) := by
  have hr_a := hrw a
  have hr_b := hrw b
  refine ctI_of hap hE (by decide) rfl .int (nar_i _) (fun M C hn hret => ?_)
  have C : Good l K D ad 60 E 2 cX8_copy RX8 M := C
  show G M ad 60 (cfC ad K) 0 [(0, .ref (ad 0)), (1, .int (iI a)), (2, .int (iI i)), (3, .int (iI b)), (4, .int (iI j)), (5, .int (iI n))] [] σ
  refine g_aload_n C dX8_copy_0 (p := 0) (hi := rfl) (hv := rfl) ?_
  refine g_iload_n C dX8_copy_1 (p := 1) (hi := rfl) (hv := rfl) ?_
  by_cases hb_1 : 0 ≤ a ∧ a < 8
  · refine gc_call_X8 C dX8_copy_2 (kX8_isRow_y (σ := σ) (r := a) hap hE (by first | assumption | omega | exact hrw | exact ra | exact rb | exact ri | exact rj | exact rn | (have := hr_a (by omega) (by omega); omega) | (have := hr_b (by omega) (by omega); omega)) (by first | assumption | omega | exact hrw | exact ra | exact rb | exact ri | exact rj | exact rn | (have := hr_a (by omega) (by omega); omega) | (have := hr_b (by omega) (by omega); omega))) mw_X8_isRow wl_X8_72 (by decide) (by decide) rfl rfl (by simp [Value.category]) ?_
    refine g_if_eq C (tgt := 16) dX8_copy_5 (by decide) (by omega) (fun h_2 => ?_) (fun h_2 => ?_)
    · exact absurd h_2 (by decide)
    · refine g_aload_n C dX8_copy_8 (p := 0) (hi := rfl) (hv := rfl) ?_
      refine g_iload_n C dX8_copy_9 (p := 3) (hi := rfl) (hv := rfl) ?_
      by_cases hb_3 : 0 ≤ b ∧ b < 8
      · refine gc_call_X8 C dX8_copy_10 (kX8_isRow_y (σ := σ) (r := b) hap hE (by first | assumption | omega | exact hrw | exact ra | exact rb | exact ri | exact rj | exact rn | (have := hr_a (by omega) (by omega); omega) | (have := hr_b (by omega) (by omega); omega)) (by first | assumption | omega | exact hrw | exact ra | exact rb | exact ri | exact rj | exact rn | (have := hr_a (by omega) (by omega); omega) | (have := hr_b (by omega) (by omega); omega))) mw_X8_isRow wl_X8_72 (by decide) (by decide) rfl rfl (by simp [Value.category]) ?_
        refine g_if_ne C (tgt := 19) dX8_copy_13 (by decide) (by omega) (fun h_4 => ?_) (fun h_4 => ?_)
        · refine g_aload_n C dX8_copy_19 (p := 0) (hi := rfl) (hv := rfl) ?_
          refine gc_g_X8_rows C dX8_copy_20 wf_X8_11 ?_
          refine g_iload_n C dX8_copy_23 (p := 1) (hi := rfl) (hv := rfl) ?_
          refine gc_a_rows C dX8_copy_24 (by first | omega | (have := hr_a (by omega) (by omega); have := hr_b (by omega) (by omega); omega)) (by first | omega | (have := hr_a (by omega) (by omega); have := hr_b (by omega) (by omega); omega)) ?_
          refine g_astore C hn dX8_copy_25 rfl rfl ?_
          refine g_aload_n C dX8_copy_27 (p := 1) (hi := rfl) (hv := rfl) ?_
          refine gc_g_X8_rows C dX8_copy_28 wf_X8_11 ?_
          refine g_iload_n C dX8_copy_31 (p := 4) (hi := rfl) (hv := rfl) ?_
          refine gc_a_rows C dX8_copy_32 (by first | omega | (have := hr_a (by omega) (by omega); have := hr_b (by omega) (by omega); omega)) (by first | omega | (have := hr_a (by omega) (by omega); have := hr_b (by omega) (by omega); omega)) ?_
          refine g_astore C hn dX8_copy_33 rfl rfl ?_
          refine g_aload C dX8_copy_35 (p := 1) rfl ?_
          refine gc_g_X5_missing C (by omega) dX8_copy_37 wf_X8_88 ?_
          refine g_if_ne C (tgt := 51) dX8_copy_40 (by decide) (by have := hr_a (by omega) (by omega); omega) (fun h_5 => ?_) (fun h_5 => ?_)
          · refine g_aload_n C dX8_copy_51 (p := 2) (hi := rfl) (hv := rfl) ?_
            refine g_iconst C dX8_copy_52 ?_
            refine gc_call_X8 C dX8_copy_53 (kX8_found (σ := σ) (k := 1) hap hE) mw_X8_found wl_X8_77 (by decide) (by decide) rfl rfl (by simp [Value.category]) ?_
            exact hret _ _ _ _ dX8_copy_56 (by first | rfl | omega | ((repeat' split) <;> first | (exfalso; omega) | rfl | exact mu_mu | omega)) (by first | rfl | omega | ((repeat' split) <;> first | (exfalso; omega) | rfl | exact mu_mu | omega))
          · refine g_aload C dX8_copy_43 (p := 0) rfl ?_
            refine gc_g_X5_missing C (by omega) dX8_copy_45 wf_X8_88 ?_
            refine g_if_eq C (tgt := 57) dX8_copy_48 (by decide) (by have := hr_b (by omega) (by omega); omega) (fun h_6 => ?_) (fun h_6 => ?_)
            · refine g_aload C dX8_copy_57 (p := 1) rfl ?_
              refine gc_g_X5_lane C (by omega) dX8_copy_59 wf_X8_100 ?_
              refine g_aload C dX8_copy_62 (p := 0) rfl ?_
              refine gc_g_X5_lane C (by omega) dX8_copy_64 wf_X8_100 ?_
              refine g_icmp_eq C (tgt := 76) dX8_copy_67 (by decide) (by have := hr_a (by omega) (by omega); omega) (by have := hr_b (by omega) (by omega); omega) (fun h_7 => ?_) (fun h_7 => ?_)
              · refine g_aload C dX8_copy_76 (p := 1) rfl ?_
                refine g_iload_n C dX8_copy_78 (p := 4) (hi := rfl) (hv := rfl) ?_
                refine g_iload C dX8_copy_79 (p := 7) rfl ?_
                by_cases hb_8 : 0 ≤ i ∧ 0 ≤ n ∧ i ≤ σ (44 + a) 3 - n
                · refine gc_call_X5 C dX8_copy_81 (kX5_has_y (σ := σ) (a := i) (n := n) (self := 44 + a) hap hE (by first | assumption | omega | exact hrw | exact ra | exact rb | exact ri | exact rj | exact rn | (have := hr_a (by omega) (by omega); omega) | (have := hr_b (by omega) (by omega); omega)) (by first | assumption | omega | exact hrw | exact ra | exact rb | exact ri | exact rj | exact rn | (have := hr_a (by omega) (by omega); omega) | (have := hr_b (by omega) (by omega); omega)) (by first | assumption | omega | exact hrw | exact ra | exact rb | exact ri | exact rj | exact rn | (have := hr_a (by omega) (by omega); omega) | (have := hr_b (by omega) (by omega); omega)) (by first | assumption | omega | exact hrw | exact ra | exact rb | exact ri | exact rj | exact rn | (have := hr_a (by omega) (by omega); omega) | (have := hr_b (by omega) (by omega); omega)) (by first | assumption | omega | exact hrw | exact ra | exact rb | exact ri | exact rj | exact rn | (have := hr_a (by omega) (by omega); omega) | (have := hr_b (by omega) (by omega); omega))) mw_X5_has wl_X8_103 (by decide) (by decide) (by omega) rfl rfl (by simp [Value.category]) ?_
                  refine g_if_eq C (tgt := 99) dX8_copy_84 (by decide) (by omega) (fun h_9 => ?_) (fun h_9 => ?_)
                  · exact absurd h_9 (by decide)
                  · refine g_aload C dX8_copy_87 (p := 0) rfl ?_
                    refine g_iload C dX8_copy_89 (p := 6) rfl ?_
                    refine g_iload C dX8_copy_91 (p := 7) rfl ?_
                    by_cases hb_10 : 0 ≤ j ∧ 0 ≤ n ∧ j ≤ σ (44 + b) 3 - n
                    · refine gc_call_X5 C dX8_copy_93 (kX5_has_y (σ := σ) (a := j) (n := n) (self := 44 + b) hap hE (by first | assumption | omega | exact hrw | exact ra | exact rb | exact ri | exact rj | exact rn | (have := hr_a (by omega) (by omega); omega) | (have := hr_b (by omega) (by omega); omega)) (by first | assumption | omega | exact hrw | exact ra | exact rb | exact ri | exact rj | exact rn | (have := hr_a (by omega) (by omega); omega) | (have := hr_b (by omega) (by omega); omega)) (by first | assumption | omega | exact hrw | exact ra | exact rb | exact ri | exact rj | exact rn | (have := hr_a (by omega) (by omega); omega) | (have := hr_b (by omega) (by omega); omega)) (by first | assumption | omega | exact hrw | exact ra | exact rb | exact ri | exact rj | exact rn | (have := hr_a (by omega) (by omega); omega) | (have := hr_b (by omega) (by omega); omega)) (by first | assumption | omega | exact hrw | exact ra | exact rb | exact ri | exact rj | exact rn | (have := hr_a (by omega) (by omega); omega) | (have := hr_b (by omega) (by omega); omega))) mw_X5_has wl_X8_103 (by decide) (by decide) (by omega) rfl rfl (by simp [Value.category]) ?_
                      refine g_if_ne C (tgt := 105) dX8_copy_96 (by decide) (by omega) (fun h_11 => ?_) (fun h_11 => ?_)
                      · refine g_aload C dX8_copy_105 (p := 1) rfl ?_
                        refine gc_g_X5_items C (by omega) dX8_copy_107 wf_X8_107 ?_
                        refine g_iload_n C dX8_copy_110 (p := 4) (hi := rfl) (hv := rfl) ?_
                        refine g_aload C dX8_copy_111 (p := 0) rfl ?_
                        refine gc_g_X5_items C (by omega) dX8_copy_113 wf_X8_107 ?_
                        refine g_iload C dX8_copy_116 (p := 6) rfl ?_
                        refine g_iload C dX8_copy_118 (p := 7) rfl ?_
                        refine g_copy C (q0 := ((44 + a) + 8)) (q1 := ((44 + b) + 8)) (sp := i) (dp := j) (n := n) wl_X8_111 dX8_copy_120 ⟨by omega, by omega⟩ ⟨by omega, by omega⟩ (fun _ => cfC_items (by omega)) (fun _ => cfC_items (by omega)) (by first | omega | (have := hr_a (by omega) (by omega); have := hr_b (by omega) (by omega); omega)) (by first | omega | (have := hr_a (by omega) (by omega); have := hr_b (by omega) (by omega); omega)) (by first | omega | (have := hr_a (by omega) (by omega); have := hr_b (by omega) (by omega); omega)) (by first | omega | (have := hr_a (by omega) (by omega); have := hr_b (by omega) (by omega); omega)) (by first | omega | (have := hr_a (by omega) (by omega); have := hr_b (by omega) (by omega); omega)) (by omega) (by omega) (by omega) (by simp [Value.category]) (by decide) ?_
                        refine g_aload_n C dX8_copy_123 (p := 2) (hi := rfl) (hv := rfl) ?_
                        refine g_iload C dX8_copy_124 (p := 7) rfl ?_
                        refine gc_call_X8 C dX8_copy_126 (kX8_fine (σ := (mr σ ((44 + b) + 8) (cpy (σ ((44 + a) + 8)) (σ ((44 + b) + 8)) i j n))) (k := n) hap hE) mw_X8_fine wl_X8_85 (by decide) (by decide) rfl rfl (by simp [Value.category]) ?_
                        exact hret _ _ _ _ dX8_copy_129 (by first | rfl | omega | ((repeat' split) <;> first | (exfalso; omega) | rfl | exact mu_mu | omega)) (by first | rfl | omega | ((repeat' split) <;> first | (exfalso; omega) | rfl | exact mu_mu | omega))
                      · exact absurd h_11 (by decide)
                    · refine gc_call_X5 C dX8_copy_93 (kX5_has_n (σ := σ) (a := j) (n := n) (self := 44 + b) hap hE (by first | assumption | omega | exact hrw | exact ra | exact rb | exact ri | exact rj | exact rn | (have := hr_a (by omega) (by omega); omega) | (have := hr_b (by omega) (by omega); omega)) (by first | assumption | omega | exact hrw | exact ra | exact rb | exact ri | exact rj | exact rn | (have := hr_a (by omega) (by omega); omega) | (have := hr_b (by omega) (by omega); omega)) (by first | assumption | omega | exact hrw | exact ra | exact rb | exact ri | exact rj | exact rn | (have := hr_a (by omega) (by omega); omega) | (have := hr_b (by omega) (by omega); omega)) (by first | assumption | omega | exact hrw | exact ra | exact rb | exact ri | exact rj | exact rn | (have := hr_a (by omega) (by omega); omega) | (have := hr_b (by omega) (by omega); omega)) (by first | assumption | omega | exact hrw | exact ra | exact rb | exact ri | exact rj | exact rn | (have := hr_a (by omega) (by omega); omega) | (have := hr_b (by omega) (by omega); omega))) mw_X5_has wl_X8_103 (by decide) (by decide) (by omega) rfl rfl (by simp [Value.category]) ?_
                      refine g_if_ne C (tgt := 105) dX8_copy_96 (by decide) (by omega) (fun h_12 => ?_) (fun h_12 => ?_)
                      · exact absurd h_12 (by decide)
                      · refine g_aload_n C dX8_copy_99 (p := 2) (hi := rfl) (hv := rfl) ?_
                        refine g_iconst C dX8_copy_100 ?_
                        refine gc_call_X8 C dX8_copy_101 (kX8_found (σ := σ) (k := 2) hap hE) mw_X8_found wl_X8_77 (by decide) (by decide) rfl rfl (by simp [Value.category]) ?_
                        exact hret _ _ _ _ dX8_copy_104 (by first | rfl | omega | ((repeat' split) <;> first | (exfalso; omega) | rfl | exact mu_mu | omega)) (by first | rfl | omega | ((repeat' split) <;> first | (exfalso; omega) | rfl | exact mu_mu | omega))
                · refine gc_call_X5 C dX8_copy_81 (kX5_has_n (σ := σ) (a := i) (n := n) (self := 44 + a) hap hE (by first | assumption | omega | exact hrw | exact ra | exact rb | exact ri | exact rj | exact rn | (have := hr_a (by omega) (by omega); omega) | (have := hr_b (by omega) (by omega); omega)) (by first | assumption | omega | exact hrw | exact ra | exact rb | exact ri | exact rj | exact rn | (have := hr_a (by omega) (by omega); omega) | (have := hr_b (by omega) (by omega); omega)) (by first | assumption | omega | exact hrw | exact ra | exact rb | exact ri | exact rj | exact rn | (have := hr_a (by omega) (by omega); omega) | (have := hr_b (by omega) (by omega); omega)) (by first | assumption | omega | exact hrw | exact ra | exact rb | exact ri | exact rj | exact rn | (have := hr_a (by omega) (by omega); omega) | (have := hr_b (by omega) (by omega); omega)) (by first | assumption | omega | exact hrw | exact ra | exact rb | exact ri | exact rj | exact rn | (have := hr_a (by omega) (by omega); omega) | (have := hr_b (by omega) (by omega); omega))) mw_X5_has wl_X8_103 (by decide) (by decide) (by omega) rfl rfl (by simp [Value.category]) ?_
                  refine g_if_eq C (tgt := 99) dX8_copy_84 (by decide) (by omega) (fun h_13 => ?_) (fun h_13 => ?_)
                  · refine g_aload_n C dX8_copy_99 (p := 2) (hi := rfl) (hv := rfl) ?_
                    refine g_iconst C dX8_copy_100 ?_
                    refine gc_call_X8 C dX8_copy_101 (kX8_found (σ := σ) (k := 2) hap hE) mw_X8_found wl_X8_77 (by decide) (by decide) rfl rfl (by simp [Value.category]) ?_
                    exact hret _ _ _ _ dX8_copy_104 (by first | rfl | omega | ((repeat' split) <;> first | (exfalso; omega) | rfl | exact mu_mu | omega)) (by first | rfl | omega | ((repeat' split) <;> first | (exfalso; omega) | rfl | exact mu_mu | omega))
                  · exact absurd h_13 (by decide)
              · refine g_aload_n C dX8_copy_70 (p := 2) (hi := rfl) (hv := rfl) ?_
                refine g_iconst C dX8_copy_71 ?_
                refine gc_call_X8 C dX8_copy_72 (kX8_found (σ := σ) (k := 5) hap hE) mw_X8_found wl_X8_77 (by decide) (by decide) rfl rfl (by simp [Value.category]) ?_
                exact hret _ _ _ _ dX8_copy_75 (by first | rfl | omega | ((repeat' split) <;> first | (exfalso; omega) | rfl | exact mu_mu | omega)) (by first | rfl | omega | ((repeat' split) <;> first | (exfalso; omega) | rfl | exact mu_mu | omega))
            · refine g_aload_n C dX8_copy_51 (p := 2) (hi := rfl) (hv := rfl) ?_
              refine g_iconst C dX8_copy_52 ?_
              refine gc_call_X8 C dX8_copy_53 (kX8_found (σ := σ) (k := 1) hap hE) mw_X8_found wl_X8_77 (by decide) (by decide) rfl rfl (by simp [Value.category]) ?_
              exact hret _ _ _ _ dX8_copy_56 (by first | rfl | omega | ((repeat' split) <;> first | (exfalso; omega) | rfl | exact mu_mu | omega)) (by first | rfl | omega | ((repeat' split) <;> first | (exfalso; omega) | rfl | exact mu_mu | omega))
        · exact absurd h_4 (by decide)
      · refine gc_call_X8 C dX8_copy_10 (kX8_isRow_n (σ := σ) (r := b) hap hE (by first | assumption | omega | exact hrw | exact ra | exact rb | exact ri | exact rj | exact rn | (have := hr_a (by omega) (by omega); omega) | (have := hr_b (by omega) (by omega); omega)) (by first | assumption | omega | exact hrw | exact ra | exact rb | exact ri | exact rj | exact rn | (have := hr_a (by omega) (by omega); omega) | (have := hr_b (by omega) (by omega); omega))) mw_X8_isRow wl_X8_72 (by decide) (by decide) rfl rfl (by simp [Value.category]) ?_
        refine g_if_ne C (tgt := 19) dX8_copy_13 (by decide) (by omega) (fun h_14 => ?_) (fun h_14 => ?_)
        · exact absurd h_14 (by decide)
        · refine g_ldc C (n := (-1000001)) wk_X8_76 (by decide +kernel) dX8_copy_16 ?_
          exact hret _ _ _ _ dX8_copy_18 (by first | rfl | omega | ((repeat' split) <;> first | (exfalso; omega) | rfl | exact mu_mu | omega)) (by first | rfl | omega | ((repeat' split) <;> first | (exfalso; omega) | rfl | exact mu_mu | omega))
  · refine gc_call_X8 C dX8_copy_2 (kX8_isRow_n (σ := σ) (r := a) hap hE (by first | assumption | omega | exact hrw | exact ra | exact rb | exact ri | exact rj | exact rn | (have := hr_a (by omega) (by omega); omega) | (have := hr_b (by omega) (by omega); omega)) (by first | assumption | omega | exact hrw | exact ra | exact rb | exact ri | exact rj | exact rn | (have := hr_a (by omega) (by omega); omega) | (have := hr_b (by omega) (by omega); omega))) mw_X8_isRow wl_X8_72 (by decide) (by decide) rfl rfl (by simp [Value.category]) ?_
    refine g_if_eq C (tgt := 16) dX8_copy_5 (by decide) (by omega) (fun h_15 => ?_) (fun h_15 => ?_)
    · refine g_ldc C (n := (-1000001)) wk_X8_76 (by decide +kernel) dX8_copy_16 ?_
      exact hret _ _ _ _ dX8_copy_18 (by first | rfl | omega | ((repeat' split) <;> first | (exfalso; omega) | rfl | exact mu_mu | omega)) (by first | rfl | omega | ((repeat' split) <;> first | (exfalso; omega) | rfl | exact mu_mu | omega))
    · exact absurd h_15 (by decide)
set_option maxHeartbeats 4000000 in
set_option maxRecDepth 100000 in
theorem kX8_fault {l : Launch} {K : Nat → ClassId} {D : va_G} {ad : Int → Nat} {E : gEnv} {σ : Mem} (hap : Apart ad 60) (hE : gEok E) : CtI l K D ad 60 (cfC ad K) E yX8_fault cX8_fault 1 (some .int) 0 [.ref (ad 0)] σ (σ 0 10) σ := by
  refine ctI_of hap hE (by decide) rfl .int (nar_i _) (fun M C hn hret => ?_)
  have C : Good l K D ad 60 E 0 cX8_fault RX8 M := C
  show G M ad 60 (cfC ad K) 0 [(0, .ref (ad 0))] [] σ
  refine g_aload_n C dX8_fault_0 (p := 0) (hi := rfl) (hv := rfl) ?_
  refine gc_g_X8_latestFault C dX8_fault_1 wf_X8_135 ?_
  exact hret _ _ _ _ dX8_fault_4 (by first | rfl | omega | ((repeat' split) <;> first | (exfalso; omega) | rfl | exact mu_mu | omega)) (by first | rfl | omega | ((repeat' split) <;> first | (exfalso; omega) | rfl | exact mu_mu | omega))
set_option maxHeartbeats 4000000 in
set_option maxRecDepth 100000 in
theorem kX8_status {l : Launch} {K : Nat → ClassId} {D : va_G} {ad : Int → Nat} {E : gEnv} {σ : Mem} (hap : Apart ad 60) (hE : gEok E) : CtI l K D ad 60 (cfC ad K) E yX8_status cX8_status 1 (some .int) 0 [.ref (ad 0)] σ (σ 0 11) σ := by
  refine ctI_of hap hE (by decide) rfl .int (nar_i _) (fun M C hn hret => ?_)
  have C : Good l K D ad 60 E 0 cX8_status RX8 M := C
  show G M ad 60 (cfC ad K) 0 [(0, .ref (ad 0))] [] σ
  refine g_aload_n C dX8_status_0 (p := 0) (hi := rfl) (hv := rfl) ?_
  refine gc_g_X8_latestFinding C dX8_status_1 wf_X8_278 ?_
  exact hret _ _ _ _ dX8_status_4 (by first | rfl | omega | ((repeat' split) <;> first | (exfalso; omega) | rfl | exact mu_mu | omega)) (by first | rfl | omega | ((repeat' split) <;> first | (exfalso; omega) | rfl | exact mu_mu | omega))
set_option maxHeartbeats 4000000 in
set_option maxRecDepth 100000 in
theorem kX8_coin {l : Launch} {K : Nat → ClassId} {D : va_G} {ad : Int → Nat} {E : gEnv} {σ : Mem} {p : Int} (hap : Apart ad 60) (hE : gEok E) (hH : 20 ≤ σ 0 8 ∧ σ 0 8 < 24) (h2 : 0 ≤ σ (σ 0 8) 2 ∧ σ (σ 0 8) 2 ≤ 4) (rp : R3 p) : CtI l K D ad 60 (cfC ad K) E yX8_coin cX8_coin 2 (some .int) 2 [.ref (ad 0), .int (iI p)] σ (if (0 ≤ p ∧ p < σ (σ 0 8) 2) then σ (σ 0 8 + 8) p else -1000001) σ := by
  refine ctI_of hap hE (by decide) rfl .int (nar_i _) (fun M C hn hret => ?_)
  have C : Good l K D ad 60 E 2 cX8_coin RX8 M := C
  show G M ad 60 (cfC ad K) 0 [(0, .ref (ad 0)), (1, .int (iI p))] [] σ
  refine g_aload_n C dX8_coin_0 (p := 0) (hi := rfl) (hv := rfl) ?_
  refine g_iload_n C dX8_coin_1 (p := 1) (hi := rfl) (hv := rfl) ?_
  by_cases hb_1 : 0 ≤ p ∧ p < σ (σ 0 8) 2
  · refine gc_call_X8 C dX8_coin_2 (kX8_isPerson_y (σ := σ) (r := p) hap hE (by first | assumption | omega | exact hH | exact h2 | exact rp) (by first | assumption | omega | exact hH | exact h2 | exact rp) (by first | assumption | omega | exact hH | exact h2 | exact rp) (by first | assumption | omega | exact hH | exact h2 | exact rp)) mw_X8_isPerson wl_X8_179 (by decide) (by decide) rfl rfl (by simp [Value.category]) ?_
    refine g_if_eq C (tgt := 20) dX8_coin_5 (by decide) (by omega) (fun h_2 => ?_) (fun h_2 => ?_)
    · exact absurd h_2 (by decide)
    · refine g_aload_n C dX8_coin_8 (p := 0) (hi := rfl) (hv := rfl) ?_
      refine gc_g_X8_here C dX8_coin_9 wf_X8_65 ?_
      refine gc_g_X7_coins C (by omega) dX8_coin_12 wf_X8_182 ?_
      refine g_iload_n C dX8_coin_15 (p := 1) (hi := rfl) (hv := rfl) ?_
      refine gc_l_coins C (by omega) dX8_coin_16 (by omega) (by omega) ?_
      refine g_goto C (tgt := 22) dX8_coin_17 (by decide) ?_
      exact hret _ _ _ _ dX8_coin_22 (by first | rfl | omega | ((repeat' split) <;> first | (exfalso; omega) | rfl | exact mu_mu | omega)) (by first | rfl | omega | ((repeat' split) <;> first | (exfalso; omega) | rfl | exact mu_mu | omega))
  · refine gc_call_X8 C dX8_coin_2 (kX8_isPerson_n (σ := σ) (r := p) hap hE (by first | assumption | omega | exact hH | exact h2 | exact rp) (by first | assumption | omega | exact hH | exact h2 | exact rp) (by first | assumption | omega | exact hH | exact h2 | exact rp) (by first | assumption | omega | exact hH | exact h2 | exact rp)) mw_X8_isPerson wl_X8_179 (by decide) (by decide) rfl rfl (by simp [Value.category]) ?_
    refine g_if_eq C (tgt := 20) dX8_coin_5 (by decide) (by omega) (fun h_3 => ?_) (fun h_3 => ?_)
    · refine g_ldc C (n := (-1000001)) wk_X8_76 (by decide +kernel) dX8_coin_20 ?_
      exact hret _ _ _ _ dX8_coin_22 (by first | rfl | omega | ((repeat' split) <;> first | (exfalso; omega) | rfl | exact mu_mu | omega)) (by first | rfl | omega | ((repeat' split) <;> first | (exfalso; omega) | rfl | exact mu_mu | omega))
    · exact absurd h_3 (by decide)
set_option maxHeartbeats 4000000 in
set_option maxRecDepth 100000 in
theorem kX8_kind {l : Launch} {K : Nat → ClassId} {D : va_G} {ad : Int → Nat} {E : gEnv} {σ : Mem} {p : Int} (hap : Apart ad 60) (hE : gEok E) (hH : 20 ≤ σ 0 8 ∧ σ 0 8 < 24) (h2 : 0 ≤ σ (σ 0 8) 2 ∧ σ (σ 0 8) 2 ≤ 4) (rp : R3 p) : CtI l K D ad 60 (cfC ad K) E yX8_kind cX8_kind 2 (some .int) 2 [.ref (ad 0), .int (iI p)] σ (if (0 ≤ p ∧ p < σ (σ 0 8) 2) then σ (σ 0 8 + 4) p else -1000001) σ := by
  refine ctI_of hap hE (by decide) rfl .int (nar_i _) (fun M C hn hret => ?_)
  have C : Good l K D ad 60 E 2 cX8_kind RX8 M := C
  show G M ad 60 (cfC ad K) 0 [(0, .ref (ad 0)), (1, .int (iI p))] [] σ
  refine g_aload_n C dX8_kind_0 (p := 0) (hi := rfl) (hv := rfl) ?_
  refine g_iload_n C dX8_kind_1 (p := 1) (hi := rfl) (hv := rfl) ?_
  by_cases hb_1 : 0 ≤ p ∧ p < σ (σ 0 8) 2
  · refine gc_call_X8 C dX8_kind_2 (kX8_isPerson_y (σ := σ) (r := p) hap hE (by first | assumption | omega | exact hH | exact h2 | exact rp) (by first | assumption | omega | exact hH | exact h2 | exact rp) (by first | assumption | omega | exact hH | exact h2 | exact rp) (by first | assumption | omega | exact hH | exact h2 | exact rp)) mw_X8_isPerson wl_X8_179 (by decide) (by decide) rfl rfl (by simp [Value.category]) ?_
    refine g_if_eq C (tgt := 20) dX8_kind_5 (by decide) (by omega) (fun h_2 => ?_) (fun h_2 => ?_)
    · exact absurd h_2 (by decide)
    · refine g_aload_n C dX8_kind_8 (p := 0) (hi := rfl) (hv := rfl) ?_
      refine gc_g_X8_here C dX8_kind_9 wf_X8_65 ?_
      refine gc_g_X7_kinds C (by omega) dX8_kind_12 wf_X8_250 ?_
      refine g_iload_n C dX8_kind_15 (p := 1) (hi := rfl) (hv := rfl) ?_
      refine gc_l_kinds C (by omega) dX8_kind_16 (by omega) (by omega) ?_
      refine g_goto C (tgt := 22) dX8_kind_17 (by decide) ?_
      exact hret _ _ _ _ dX8_kind_22 (by first | rfl | omega | ((repeat' split) <;> first | (exfalso; omega) | rfl | exact mu_mu | omega)) (by first | rfl | omega | ((repeat' split) <;> first | (exfalso; omega) | rfl | exact mu_mu | omega))
  · refine gc_call_X8 C dX8_kind_2 (kX8_isPerson_n (σ := σ) (r := p) hap hE (by first | assumption | omega | exact hH | exact h2 | exact rp) (by first | assumption | omega | exact hH | exact h2 | exact rp) (by first | assumption | omega | exact hH | exact h2 | exact rp) (by first | assumption | omega | exact hH | exact h2 | exact rp)) mw_X8_isPerson wl_X8_179 (by decide) (by decide) rfl rfl (by simp [Value.category]) ?_
    refine g_if_eq C (tgt := 20) dX8_kind_5 (by decide) (by omega) (fun h_3 => ?_) (fun h_3 => ?_)
    · refine g_ldc C (n := (-1000001)) wk_X8_76 (by decide +kernel) dX8_kind_20 ?_
      exact hret _ _ _ _ dX8_kind_22 (by first | rfl | omega | ((repeat' split) <;> first | (exfalso; omega) | rfl | exact mu_mu | omega)) (by first | rfl | omega | ((repeat' split) <;> first | (exfalso; omega) | rfl | exact mu_mu | omega))
    · exact absurd h_3 (by decide)
set_option maxHeartbeats 4000000 in
set_option maxRecDepth 100000 in
theorem kX8_thing {l : Launch} {K : Nat → ClassId} {D : va_G} {ad : Int → Nat} {E : gEnv} {σ : Mem} {t what : Int} (hap : Apart ad 60) (hE : gEok E) (hH : 20 ≤ σ 0 8 ∧ σ 0 8 < 24) (h3 : 0 ≤ σ (σ 0 8) 3 ∧ σ (σ 0 8) 3 ≤ 5) (rt : R3 t) (rw : R3 what) : CtI l K D ad 60 (cfC ad K) E yX8_thing cX8_thing 3 (some .int) 2 [.ref (ad 0), .int (iI t), .int (iI what)] σ (if (0 ≤ t ∧ t < σ (σ 0 8) 3) ∧ (what = 0 ∨ what = 1) then (if what = 0 then σ (σ 0 8 + 16) t else σ (σ 0 8 + 20) t) else -1000001) σ := by
  refine ctI_of hap hE (by decide) rfl .int (nar_i _) (fun M C hn hret => ?_)
  have C : Good l K D ad 60 E 2 cX8_thing RX8 M := C
  show G M ad 60 (cfC ad K) 0 [(0, .ref (ad 0)), (1, .int (iI t)), (2, .int (iI what))] [] σ
  refine g_aload_n C dX8_thing_0 (p := 0) (hi := rfl) (hv := rfl) ?_
  refine g_iload_n C dX8_thing_1 (p := 1) (hi := rfl) (hv := rfl) ?_
  by_cases hb_1 : 0 ≤ t ∧ t < σ (σ 0 8) 3
  · refine gc_call_X8 C dX8_thing_2 (kX8_isThing_y (σ := σ) (r := t) hap hE (by first | assumption | omega | exact hH | exact h3 | exact rt | exact rw) (by first | assumption | omega | exact hH | exact h3 | exact rt | exact rw) (by first | assumption | omega | exact hH | exact h3 | exact rt | exact rw) (by first | assumption | omega | exact hH | exact h3 | exact rt | exact rw)) mw_X8_isThing wl_X8_148 (by decide) (by decide) rfl rfl (by simp [Value.category]) ?_
    refine g_if_eq C (tgt := 15) dX8_thing_5 (by decide) (by omega) (fun h_2 => ?_) (fun h_2 => ?_)
    · exact absurd h_2 (by decide)
    · refine g_iload_n C dX8_thing_8 (p := 2) (hi := rfl) (hv := rfl) ?_
      by_cases hb_3 : what = 0 ∨ what = 1
      · refine g_callS C dX8_thing_9 (kX8_isEither_y (σ := σ) (r := what) hap hE (by first | assumption | omega | exact hH | exact h3 | exact rt | exact rw) (by first | assumption | omega | exact hH | exact h3 | exact rt | exact rw)) mw_X8_isEither wl_X8_185 (by decide) (by decide) rfl rfl (by simp [Value.category]) ?_
        refine g_if_ne C (tgt := 18) dX8_thing_12 (by decide) (by omega) (fun h_4 => ?_) (fun h_4 => ?_)
        · refine g_iload_n C dX8_thing_18 (p := 2) (hi := rfl) (hv := rfl) ?_
          refine g_if_ne C (tgt := 34) dX8_thing_19 (by decide) (by omega) (fun h_5 => ?_) (fun h_5 => ?_)
          · refine g_aload_n C dX8_thing_34 (p := 0) (hi := rfl) (hv := rfl) ?_
            refine gc_g_X8_here C dX8_thing_35 wf_X8_65 ?_
            refine gc_g_X7_worn C (by omega) dX8_thing_38 wf_X8_172 ?_
            refine g_iload_n C dX8_thing_41 (p := 1) (hi := rfl) (hv := rfl) ?_
            refine gc_l_worn C (by omega) dX8_thing_42 (by omega) (by omega) ?_
            exact hret _ _ _ _ dX8_thing_43 (by first | rfl | omega | ((repeat' split) <;> first | (exfalso; omega) | rfl | exact mu_mu | omega)) (by first | rfl | omega | ((repeat' split) <;> first | (exfalso; omega) | rfl | exact mu_mu | omega))
          · refine g_aload_n C dX8_thing_22 (p := 0) (hi := rfl) (hv := rfl) ?_
            refine gc_g_X8_here C dX8_thing_23 wf_X8_65 ?_
            refine gc_g_X7_holders C (by omega) dX8_thing_26 wf_X8_154 ?_
            refine g_iload_n C dX8_thing_29 (p := 1) (hi := rfl) (hv := rfl) ?_
            refine gc_l_holders C (by omega) dX8_thing_30 (by omega) (by omega) ?_
            refine g_goto C (tgt := 43) dX8_thing_31 (by decide) ?_
            exact hret _ _ _ _ dX8_thing_43 (by first | rfl | omega | ((repeat' split) <;> first | (exfalso; omega) | rfl | exact mu_mu | omega)) (by first | rfl | omega | ((repeat' split) <;> first | (exfalso; omega) | rfl | exact mu_mu | omega))
        · exact absurd h_4 (by decide)
      · refine g_callS C dX8_thing_9 (kX8_isEither_n (σ := σ) (r := what) hap hE (by first | assumption | omega | exact hH | exact h3 | exact rt | exact rw) (by first | assumption | omega | exact hH | exact h3 | exact rt | exact rw)) mw_X8_isEither wl_X8_185 (by decide) (by decide) rfl rfl (by simp [Value.category]) ?_
        refine g_if_ne C (tgt := 18) dX8_thing_12 (by decide) (by omega) (fun h_6 => ?_) (fun h_6 => ?_)
        · exact absurd h_6 (by decide)
        · refine g_ldc C (n := (-1000001)) wk_X8_76 (by decide +kernel) dX8_thing_15 ?_
          exact hret _ _ _ _ dX8_thing_17 (by first | rfl | omega | ((repeat' split) <;> first | (exfalso; omega) | rfl | exact mu_mu | omega)) (by first | rfl | omega | ((repeat' split) <;> first | (exfalso; omega) | rfl | exact mu_mu | omega))
  · refine gc_call_X8 C dX8_thing_2 (kX8_isThing_n (σ := σ) (r := t) hap hE (by first | assumption | omega | exact hH | exact h3 | exact rt | exact rw) (by first | assumption | omega | exact hH | exact h3 | exact rt | exact rw) (by first | assumption | omega | exact hH | exact h3 | exact rt | exact rw) (by first | assumption | omega | exact hH | exact h3 | exact rt | exact rw)) mw_X8_isThing wl_X8_148 (by decide) (by decide) rfl rfl (by simp [Value.category]) ?_
    refine g_if_eq C (tgt := 15) dX8_thing_5 (by decide) (by omega) (fun h_7 => ?_) (fun h_7 => ?_)
    · refine g_ldc C (n := (-1000001)) wk_X8_76 (by decide +kernel) dX8_thing_15 ?_
      exact hret _ _ _ _ dX8_thing_17 (by first | rfl | omega | ((repeat' split) <;> first | (exfalso; omega) | rfl | exact mu_mu | omega)) (by first | rfl | omega | ((repeat' split) <;> first | (exfalso; omega) | rfl | exact mu_mu | omega))
    · exact absurd h_7 (by decide)
set_option maxHeartbeats 4000000 in
set_option maxRecDepth 100000 in
theorem kX8_worth {l : Launch} {K : Nat → ClassId} {D : va_G} {ad : Int → Nat} {E : gEnv} {σ : Mem} {t p what : Int} (hap : Apart ad 60) (hE : gEok E) (hH : 20 ≤ σ 0 8 ∧ σ 0 8 < 24) (hT : TC σ (σ 0 8)) (rt : R3 t) (rp : R3 p) (rw : R3 what) : CtI l K D ad 60 (cfC ad K) E yX8_worth cX8_worth 4 (some .int) 3 [.ref (ad 0), .int (iI t), .int (iI p), .int (iI what)] σ (if (0 ≤ t ∧ t < σ (σ 0 8) 3) ∧ (0 ≤ p ∧ p < σ (σ 0 8) 2) ∧ (what = 0 ∨ what = 1) then (if what = 0 then woC (σ (σ 0 8 + 12)) (σ (σ 0 8 + 20)) t p else owC (σ (σ 0 8 + 4) p) (woC (σ (σ 0 8 + 12)) (σ (σ 0 8 + 20)) t p)) else -1000001) σ := by
  have h2 : 0 ≤ σ (σ 0 8) 2 ∧ σ (σ 0 8) 2 ≤ 4 := hT.2.2.1
  have h3 : 0 ≤ σ (σ 0 8) 3 ∧ σ (σ 0 8) 3 ≤ 5 := hT.2.2.2.1
  refine ctI_of hap hE (by decide) rfl .int (nar_i _) (fun M C hn hret => ?_)
  have C : Good l K D ad 60 E 3 cX8_worth RX8 M := C
  show G M ad 60 (cfC ad K) 0 [(0, .ref (ad 0)), (1, .int (iI t)), (2, .int (iI p)), (3, .int (iI what))] [] σ
  refine g_aload_n C dX8_worth_0 (p := 0) (hi := rfl) (hv := rfl) ?_
  refine g_iload_n C dX8_worth_1 (p := 1) (hi := rfl) (hv := rfl) ?_
  by_cases hb_1 : 0 ≤ t ∧ t < σ (σ 0 8) 3
  · refine gc_call_X8 C dX8_worth_2 (kX8_isThing_y (σ := σ) (r := t) hap hE (by first | assumption | omega | exact hH | exact hT | exact rt | exact rp | exact rw) (by first | assumption | omega | exact hH | exact hT | exact rt | exact rp | exact rw) (by first | assumption | omega | exact hH | exact hT | exact rt | exact rp | exact rw) (by first | assumption | omega | exact hH | exact hT | exact rt | exact rp | exact rw)) mw_X8_isThing wl_X8_148 (by decide) (by decide) rfl rfl (by simp [Value.category]) ?_
    refine g_if_eq C (tgt := 23) dX8_worth_5 (by decide) (by omega) (fun h_2 => ?_) (fun h_2 => ?_)
    · exact absurd h_2 (by decide)
    · refine g_aload_n C dX8_worth_8 (p := 0) (hi := rfl) (hv := rfl) ?_
      refine g_iload_n C dX8_worth_9 (p := 2) (hi := rfl) (hv := rfl) ?_
      by_cases hb_3 : 0 ≤ p ∧ p < σ (σ 0 8) 2
      · refine gc_call_X8 C dX8_worth_10 (kX8_isPerson_y (σ := σ) (r := p) hap hE (by first | assumption | omega | exact hH | exact hT | exact rt | exact rp | exact rw) (by first | assumption | omega | exact hH | exact hT | exact rt | exact rp | exact rw) (by first | assumption | omega | exact hH | exact hT | exact rt | exact rp | exact rw) (by first | assumption | omega | exact hH | exact hT | exact rt | exact rp | exact rw)) mw_X8_isPerson wl_X8_179 (by decide) (by decide) rfl rfl (by simp [Value.category]) ?_
        refine g_if_eq C (tgt := 23) dX8_worth_13 (by decide) (by omega) (fun h_4 => ?_) (fun h_4 => ?_)
        · exact absurd h_4 (by decide)
        · refine g_iload_n C dX8_worth_16 (p := 3) (hi := rfl) (hv := rfl) ?_
          by_cases hb_5 : what = 0 ∨ what = 1
          · refine g_callS C dX8_worth_17 (kX8_isEither_y (σ := σ) (r := what) hap hE (by first | assumption | omega | exact hH | exact hT | exact rt | exact rp | exact rw) (by first | assumption | omega | exact hH | exact hT | exact rt | exact rp | exact rw)) mw_X8_isEither wl_X8_185 (by decide) (by decide) rfl rfl (by simp [Value.category]) ?_
            refine g_if_ne C (tgt := 26) dX8_worth_20 (by decide) (by omega) (fun h_6 => ?_) (fun h_6 => ?_)
            · refine g_iload_n C dX8_worth_26 (p := 3) (hi := rfl) (hv := rfl) ?_
              refine g_if_ne C (tgt := 42) dX8_worth_27 (by decide) (by omega) (fun h_7 => ?_) (fun h_7 => ?_)
              · refine g_aload_n C dX8_worth_42 (p := 0) (hi := rfl) (hv := rfl) ?_
                refine gc_g_X8_here C dX8_worth_43 wf_X8_65 ?_
                refine g_iload_n C dX8_worth_46 (p := 1) (hi := rfl) (hv := rfl) ?_
                refine g_iload_n C dX8_worth_47 (p := 2) (hi := rfl) (hv := rfl) ?_
                refine gc_call_X7 C dX8_worth_48 (kX7_ownSaying (σ := σ) (t := t) (p := p) (self := σ 0 8) hap hE (by first | assumption | omega | exact hH | exact hT | exact rt | exact rp | exact rw) (by first | assumption | omega | exact hH | exact hT | exact rt | exact rp | exact rw) (by first | assumption | omega | exact hH | exact hT | exact rt | exact rp | exact rw) (by first | assumption | omega | exact hH | exact hT | exact rt | exact rp | exact rw)) mw_X7_ownSaying wl_X8_191 (by decide) (by decide) (by omega) rfl rfl (by simp [Value.category]) ?_
                refine g_cI (b := (owC ((σ ((σ 0 8) + 4)) p) (woC ((σ ((σ 0 8) + 12))) ((σ ((σ 0 8) + 20))) t p))) rfl ?_
                exact hret _ _ _ _ dX8_worth_51 (by first | rfl | omega | ((repeat' split) <;> first | (exfalso; omega) | rfl | exact mu_mu | omega)) (by first | rfl | omega | ((repeat' split) <;> first | (exfalso; omega) | rfl | exact mu_mu | omega))
              · refine g_aload_n C dX8_worth_30 (p := 0) (hi := rfl) (hv := rfl) ?_
                refine gc_g_X8_here C dX8_worth_31 wf_X8_65 ?_
                refine g_iload_n C dX8_worth_34 (p := 1) (hi := rfl) (hv := rfl) ?_
                refine g_iload_n C dX8_worth_35 (p := 2) (hi := rfl) (hv := rfl) ?_
                refine gc_call_X7 C dX8_worth_36 (kX7_worthOf (σ := σ) (t := t) (p := p) (self := σ 0 8) hap hE (by first | assumption | omega | exact hH | exact hT | exact rt | exact rp | exact rw) (by first | assumption | omega | exact hH | exact hT | exact rt | exact rp | exact rw) (by first | assumption | omega | exact hH | exact hT | exact rt | exact rp | exact rw)) mw_X7_worthOf wl_X8_188 (by decide) (by decide) (by omega) rfl rfl (by simp [Value.category]) ?_
                refine g_cI (b := (woC ((σ ((σ 0 8) + 12))) ((σ ((σ 0 8) + 20))) t p)) rfl ?_
                refine g_goto C (tgt := 51) dX8_worth_39 (by decide) ?_
                exact hret _ _ _ _ dX8_worth_51 (by first | rfl | omega | ((repeat' split) <;> first | (exfalso; omega) | rfl | exact mu_mu | omega)) (by first | rfl | omega | ((repeat' split) <;> first | (exfalso; omega) | rfl | exact mu_mu | omega))
            · exact absurd h_6 (by decide)
          · refine g_callS C dX8_worth_17 (kX8_isEither_n (σ := σ) (r := what) hap hE (by first | assumption | omega | exact hH | exact hT | exact rt | exact rp | exact rw) (by first | assumption | omega | exact hH | exact hT | exact rt | exact rp | exact rw)) mw_X8_isEither wl_X8_185 (by decide) (by decide) rfl rfl (by simp [Value.category]) ?_
            refine g_if_ne C (tgt := 26) dX8_worth_20 (by decide) (by omega) (fun h_8 => ?_) (fun h_8 => ?_)
            · exact absurd h_8 (by decide)
            · refine g_ldc C (n := (-1000001)) wk_X8_76 (by decide +kernel) dX8_worth_23 ?_
              exact hret _ _ _ _ dX8_worth_25 (by first | rfl | omega | ((repeat' split) <;> first | (exfalso; omega) | rfl | exact mu_mu | omega)) (by first | rfl | omega | ((repeat' split) <;> first | (exfalso; omega) | rfl | exact mu_mu | omega))
      · refine gc_call_X8 C dX8_worth_10 (kX8_isPerson_n (σ := σ) (r := p) hap hE (by first | assumption | omega | exact hH | exact hT | exact rt | exact rp | exact rw) (by first | assumption | omega | exact hH | exact hT | exact rt | exact rp | exact rw) (by first | assumption | omega | exact hH | exact hT | exact rt | exact rp | exact rw) (by first | assumption | omega | exact hH | exact hT | exact rt | exact rp | exact rw)) mw_X8_isPerson wl_X8_179 (by decide) (by decide) rfl rfl (by simp [Value.category]) ?_
        refine g_if_eq C (tgt := 23) dX8_worth_13 (by decide) (by omega) (fun h_9 => ?_) (fun h_9 => ?_)
        · refine g_ldc C (n := (-1000001)) wk_X8_76 (by decide +kernel) dX8_worth_23 ?_
          exact hret _ _ _ _ dX8_worth_25 (by first | rfl | omega | ((repeat' split) <;> first | (exfalso; omega) | rfl | exact mu_mu | omega)) (by first | rfl | omega | ((repeat' split) <;> first | (exfalso; omega) | rfl | exact mu_mu | omega))
        · exact absurd h_9 (by decide)
  · refine gc_call_X8 C dX8_worth_2 (kX8_isThing_n (σ := σ) (r := t) hap hE (by first | assumption | omega | exact hH | exact hT | exact rt | exact rp | exact rw) (by first | assumption | omega | exact hH | exact hT | exact rt | exact rp | exact rw) (by first | assumption | omega | exact hH | exact hT | exact rt | exact rp | exact rw) (by first | assumption | omega | exact hH | exact hT | exact rt | exact rp | exact rw)) mw_X8_isThing wl_X8_148 (by decide) (by decide) rfl rfl (by simp [Value.category]) ?_
    refine g_if_eq C (tgt := 23) dX8_worth_5 (by decide) (by omega) (fun h_10 => ?_) (fun h_10 => ?_)
    · refine g_ldc C (n := (-1000001)) wk_X8_76 (by decide +kernel) dX8_worth_23 ?_
      exact hret _ _ _ _ dX8_worth_25 (by first | rfl | omega | ((repeat' split) <;> first | (exfalso; omega) | rfl | exact mu_mu | omega)) (by first | rfl | omega | ((repeat' split) <;> first | (exfalso; omega) | rfl | exact mu_mu | omega))
    · exact absurd h_10 (by decide)
set_option maxHeartbeats 4000000 in
set_option maxRecDepth 100000 in
theorem kX8_trace {l : Launch} {K : Nat → ClassId} {D : va_G} {ad : Int → Nat} {E : gEnv} {σ : Mem} {i : Int} (hap : Apart ad 60) (hE : gEok E) (htr : 0 ≤ σ 18 0 ∧ σ 18 0 ≤ 16) (ri : R3 i) : CtI l K D ad 60 (cfC ad K) E yX8_trace cX8_trace 2 (some .int) 1 [.ref (ad 0), .int (iI i)] σ (if 0 ≤ i ∧ i < σ 18 0 then σ 19 i else -1000000) σ := by
  refine ctI_of hap hE (by decide) rfl .int (nar_i _) (fun M C hn hret => ?_)
  have C : Good l K D ad 60 E 1 cX8_trace RX8 M := C
  show G M ad 60 (cfC ad K) 0 [(0, .ref (ad 0)), (1, .int (iI i))] [] σ
  refine g_iload_n C dX8_trace_0 (p := 1) (hi := rfl) (hv := rfl) ?_
  refine g_if_lt C (tgt := 27) dX8_trace_1 (by decide) (by omega) (fun h_1 => ?_) (fun h_1 => ?_)
  · refine g_ldc C (n := (-1000000)) wk_X8_157 (by decide +kernel) dX8_trace_27 ?_
    exact hret _ _ _ _ dX8_trace_29 (by first | rfl | omega | ((repeat' split) <;> first | (exfalso; omega) | rfl | exact mu_mu | omega)) (by first | rfl | omega | ((repeat' split) <;> first | (exfalso; omega) | rfl | exact mu_mu | omega))
  · refine g_iload_n C dX8_trace_4 (p := 1) (hi := rfl) (hv := rfl) ?_
    refine g_aload_n C dX8_trace_5 (p := 0) (hi := rfl) (hv := rfl) ?_
    refine gc_g_X8_asking C dX8_trace_6 wf_X8_61 ?_
    refine gc_g_X1_traced C dX8_trace_9 wf_X8_260 ?_
    refine g_icmp_ge C (tgt := 27) dX8_trace_12 (by decide) (by omega) (by omega) (fun h_2 => ?_) (fun h_2 => ?_)
    · refine g_ldc C (n := (-1000000)) wk_X8_157 (by decide +kernel) dX8_trace_27 ?_
      exact hret _ _ _ _ dX8_trace_29 (by first | rfl | omega | ((repeat' split) <;> first | (exfalso; omega) | rfl | exact mu_mu | omega)) (by first | rfl | omega | ((repeat' split) <;> first | (exfalso; omega) | rfl | exact mu_mu | omega))
    · refine g_aload_n C dX8_trace_15 (p := 0) (hi := rfl) (hv := rfl) ?_
      refine gc_g_X8_asking C dX8_trace_16 wf_X8_61 ?_
      refine gc_g_X1_trail C dX8_trace_19 wf_X8_263 ?_
      refine g_iload_n C dX8_trace_22 (p := 1) (hi := rfl) (hv := rfl) ?_
      refine gc_l_trail C dX8_trace_23 (by omega) (by omega) ?_
      refine g_goto C (tgt := 29) dX8_trace_24 (by decide) ?_
      exact hret _ _ _ _ dX8_trace_29 (by first | rfl | omega | ((repeat' split) <;> first | (exfalso; omega) | rfl | exact mu_mu | omega)) (by first | rfl | omega | ((repeat' split) <;> first | (exfalso; omega) | rfl | exact mu_mu | omega))
set_option maxHeartbeats 4000000 in
set_option maxRecDepth 100000 in
theorem kX8_least {l : Launch} {K : Nat → ClassId} {D : va_G} {ad : Int → Nat} {E : gEnv} {σ : Mem} {t what : Int} (hap : Apart ad 60) (hE : gEok E) (hH : 20 ≤ σ 0 8 ∧ σ 0 8 < 24) (hT : TC σ (σ 0 8)) (hpe : σ (σ 0 8) 3 = 0 ∨ 1 ≤ σ (σ 0 8) 2) (rt : R3 t) (rw : R3 what) : CtI l K D ad 60 (cfC ad K) E yX8_least cX8_least 3 (some .int) 3 [.ref (ad 0), .int (iI t), .int (iI what)] σ (if (0 ≤ t ∧ t < σ (σ 0 8) 3) ∧ (what = 0 ∨ what = 1) then (if what = 0 then wlC (σ (σ 0 8 + 12)) (σ (σ 0 8 + 20)) t (σ (σ 0 8) 2).toNat else wmC (σ (σ 0 8 + 12)) (σ (σ 0 8 + 20)) t (σ (σ 0 8) 2).toNat) else -1000001) σ := by
  have h2 : 0 ≤ σ (σ 0 8) 2 ∧ σ (σ 0 8) 2 ≤ 4 := hT.2.2.1
  have h3 : 0 ≤ σ (σ 0 8) 3 ∧ σ (σ 0 8) 3 ≤ 5 := hT.2.2.2.1
  refine ctI_of hap hE (by decide) rfl .int (nar_i _) (fun M C hn hret => ?_)
  have C : Good l K D ad 60 E 3 cX8_least RX8 M := C
  show G M ad 60 (cfC ad K) 0 [(0, .ref (ad 0)), (1, .int (iI t)), (2, .int (iI what))] [] σ
  refine g_aload_n C dX8_least_0 (p := 0) (hi := rfl) (hv := rfl) ?_
  refine g_iload_n C dX8_least_1 (p := 1) (hi := rfl) (hv := rfl) ?_
  by_cases hb_1 : 0 ≤ t ∧ t < σ (σ 0 8) 3
  · refine gc_call_X8 C dX8_least_2 (kX8_isThing_y (σ := σ) (r := t) hap hE (by first | assumption | omega | exact hH | exact hT | exact hpe | exact rt | exact rw) (by first | assumption | omega | exact hH | exact hT | exact hpe | exact rt | exact rw) (by first | assumption | omega | exact hH | exact hT | exact hpe | exact rt | exact rw) (by first | assumption | omega | exact hH | exact hT | exact hpe | exact rt | exact rw)) mw_X8_isThing wl_X8_148 (by decide) (by decide) rfl rfl (by simp [Value.category]) ?_
    refine g_if_eq C (tgt := 15) dX8_least_5 (by decide) (by omega) (fun h_2 => ?_) (fun h_2 => ?_)
    · exact absurd h_2 (by decide)
    · refine g_iload_n C dX8_least_8 (p := 2) (hi := rfl) (hv := rfl) ?_
      by_cases hb_3 : what = 0 ∨ what = 1
      · refine g_callS C dX8_least_9 (kX8_isEither_y (σ := σ) (r := what) hap hE (by first | assumption | omega | exact hH | exact hT | exact hpe | exact rt | exact rw) (by first | assumption | omega | exact hH | exact hT | exact hpe | exact rt | exact rw)) mw_X8_isEither wl_X8_185 (by decide) (by decide) rfl rfl (by simp [Value.category]) ?_
        refine g_if_ne C (tgt := 18) dX8_least_12 (by decide) (by omega) (fun h_4 => ?_) (fun h_4 => ?_)
        · refine g_iload_n C dX8_least_18 (p := 2) (hi := rfl) (hv := rfl) ?_
          refine g_if_ne C (tgt := 33) dX8_least_19 (by decide) (by omega) (fun h_5 => ?_) (fun h_5 => ?_)
          · refine g_aload_n C dX8_least_33 (p := 0) (hi := rfl) (hv := rfl) ?_
            refine gc_g_X8_here C dX8_least_34 wf_X8_65 ?_
            refine g_iload_n C dX8_least_37 (p := 1) (hi := rfl) (hv := rfl) ?_
            refine gc_call_X7 C dX8_least_38 (kX7_wantsMost (σ := σ) (t := t) (self := σ 0 8) hap hE (by first | assumption | omega | exact hH | exact hT | exact hpe | exact rt | exact rw) (by first | assumption | omega | exact hH | exact hT | exact hpe | exact rt | exact rw) (by first | assumption | omega | exact hH | exact hT | exact hpe | exact rt | exact rw) (by first | assumption | omega | exact hH | exact hT | exact hpe | exact rt | exact rw)) mw_X7_wantsMost wl_X8_234 (by decide) (by decide) (by omega) rfl rfl (by simp [Value.category]) ?_
            refine g_cI (b := (wmC ((σ ((σ 0 8) + 12))) ((σ ((σ 0 8) + 20))) t (σ (σ 0 8) 2).toNat)) rfl ?_
            exact hret _ _ _ _ dX8_least_41 (by first | rfl | omega | ((repeat' split) <;> first | (exfalso; omega) | rfl | exact mu_mu | omega)) (by first | rfl | omega | ((repeat' split) <;> first | (exfalso; omega) | rfl | exact mu_mu | omega))
          · refine g_aload_n C dX8_least_22 (p := 0) (hi := rfl) (hv := rfl) ?_
            refine gc_g_X8_here C dX8_least_23 wf_X8_65 ?_
            refine g_iload_n C dX8_least_26 (p := 1) (hi := rfl) (hv := rfl) ?_
            refine gc_call_X7 C dX8_least_27 (kX7_wantsLeast (σ := σ) (t := t) (self := σ 0 8) hap hE (by first | assumption | omega | exact hH | exact hT | exact hpe | exact rt | exact rw) (by first | assumption | omega | exact hH | exact hT | exact hpe | exact rt | exact rw) (by first | assumption | omega | exact hH | exact hT | exact hpe | exact rt | exact rw) (by first | assumption | omega | exact hH | exact hT | exact hpe | exact rt | exact rw)) mw_X7_wantsLeast wl_X8_231 (by decide) (by decide) (by omega) rfl rfl (by simp [Value.category]) ?_
            refine g_cI (b := (wlC ((σ ((σ 0 8) + 12))) ((σ ((σ 0 8) + 20))) t (σ (σ 0 8) 2).toNat)) rfl ?_
            refine g_goto C (tgt := 41) dX8_least_30 (by decide) ?_
            exact hret _ _ _ _ dX8_least_41 (by first | rfl | omega | ((repeat' split) <;> first | (exfalso; omega) | rfl | exact mu_mu | omega)) (by first | rfl | omega | ((repeat' split) <;> first | (exfalso; omega) | rfl | exact mu_mu | omega))
        · exact absurd h_4 (by decide)
      · refine g_callS C dX8_least_9 (kX8_isEither_n (σ := σ) (r := what) hap hE (by first | assumption | omega | exact hH | exact hT | exact hpe | exact rt | exact rw) (by first | assumption | omega | exact hH | exact hT | exact hpe | exact rt | exact rw)) mw_X8_isEither wl_X8_185 (by decide) (by decide) rfl rfl (by simp [Value.category]) ?_
        refine g_if_ne C (tgt := 18) dX8_least_12 (by decide) (by omega) (fun h_6 => ?_) (fun h_6 => ?_)
        · exact absurd h_6 (by decide)
        · refine g_ldc C (n := (-1000001)) wk_X8_76 (by decide +kernel) dX8_least_15 ?_
          exact hret _ _ _ _ dX8_least_17 (by first | rfl | omega | ((repeat' split) <;> first | (exfalso; omega) | rfl | exact mu_mu | omega)) (by first | rfl | omega | ((repeat' split) <;> first | (exfalso; omega) | rfl | exact mu_mu | omega))
  · refine gc_call_X8 C dX8_least_2 (kX8_isThing_n (σ := σ) (r := t) hap hE (by first | assumption | omega | exact hH | exact hT | exact hpe | exact rt | exact rw) (by first | assumption | omega | exact hH | exact hT | exact hpe | exact rt | exact rw) (by first | assumption | omega | exact hH | exact hT | exact hpe | exact rt | exact rw) (by first | assumption | omega | exact hH | exact hT | exact hpe | exact rt | exact rw)) mw_X8_isThing wl_X8_148 (by decide) (by decide) rfl rfl (by simp [Value.category]) ?_
    refine g_if_eq C (tgt := 15) dX8_least_5 (by decide) (by omega) (fun h_7 => ?_) (fun h_7 => ?_)
    · refine g_ldc C (n := (-1000001)) wk_X8_76 (by decide +kernel) dX8_least_15 ?_
      exact hret _ _ _ _ dX8_least_17 (by first | rfl | omega | ((repeat' split) <;> first | (exfalso; omega) | rfl | exact mu_mu | omega)) (by first | rfl | omega | ((repeat' split) <;> first | (exfalso; omega) | rfl | exact mu_mu | omega))
    · exact absurd h_7 (by decide)
set_option maxHeartbeats 4000000 in
set_option maxRecDepth 100000 in
theorem kX8_back {l : Launch} {K : Nat → ClassId} {D : va_G} {ad : Int → Nat} {E : gEnv} {σ : Mem} {t : Int} (hap : Apart ad 60) (hE : gEok E) (hH : 20 ≤ σ 0 8 ∧ σ 0 8 < 24) (hT : TC σ (σ 0 8)) (hho : ∀ t, R3 (σ (σ 0 8 + 16) t)) (hl : 0 ≤ σ 5 1 ∧ σ 5 1 < 24) (hm : 0 ≤ σ 5 0 ∧ σ 5 0 ≤ 24) (rt : R3 t) : CtI l K D ad 60 (cfC ad K) E yX8_back cX8_back 3 (some .int) 3 [.ref (ad 0), .int (iI t)] σ (if (0 ≤ t ∧ t < σ (σ 0 8) 3) then (if σ (σ 0 8 + 16) t = -1000000 then -1000002 else σ (σ 0 8 + 16) t) else -1000001) (if (0 ≤ t ∧ t < σ (σ 0 8) 3) then (if σ (σ 0 8 + 16) t = -1000000 then σ else (mu (mu (mr (mu (mu (mu (mu (mu σ 5 1 ((σ 5 1 + 1).tmod 24)) 5 0 (if σ 5 0 + 1 < 24 then σ 5 0 + 1 else 24)) 6 ((σ 5 1 + 1).tmod 24) t) 7 ((σ 5 1 + 1).tmod 24) (σ (σ 0 8 + 16) t)) 8 ((σ 5 1 + 1).tmod 24) (σ (σ 0 8 + 20) t)) 9 (cpy (σ (σ 0 8 + 8)) (σ 9) 0 (((σ 5 1 + 1).tmod 24) * 4) 4)) (σ 0 8 + 16) t (-1000000)) (σ 0 8 + 20) t (σ (σ 0 8 + 20) t + 1))) else σ) := by
  have h2 : 0 ≤ σ (σ 0 8) 2 ∧ σ (σ 0 8) 2 ≤ 4 := hT.2.2.1
  have h3 : 0 ≤ σ (σ 0 8) 3 ∧ σ (σ 0 8) 3 ≤ 5 := hT.2.2.2.1
  refine ctI_of hap hE (by decide) rfl .int (nar_i _) (fun M C hn hret => ?_)
  have C : Good l K D ad 60 E 3 cX8_back RX8 M := C
  show G M ad 60 (cfC ad K) 0 [(0, .ref (ad 0)), (1, .int (iI t))] [] σ
  refine g_aload_n C dX8_back_0 (p := 0) (hi := rfl) (hv := rfl) ?_
  refine g_iload_n C dX8_back_1 (p := 1) (hi := rfl) (hv := rfl) ?_
  by_cases hb_1 : 0 ≤ t ∧ t < σ (σ 0 8) 3
  · refine gc_call_X8 C dX8_back_2 (kX8_isThing_y (σ := σ) (r := t) hap hE (by first | assumption | omega | exact hH | exact hT | exact hho | exact hl | exact hm | exact rt) (by first | assumption | omega | exact hH | exact hT | exact hho | exact hl | exact hm | exact rt) (by first | assumption | omega | exact hH | exact hT | exact hho | exact hl | exact hm | exact rt) (by first | assumption | omega | exact hH | exact hT | exact hho | exact hl | exact hm | exact rt)) mw_X8_isThing wl_X8_148 (by decide) (by decide) rfl rfl (by simp [Value.category]) ?_
    refine g_if_ne C (tgt := 11) dX8_back_5 (by decide) (by omega) (fun h_2 => ?_) (fun h_2 => ?_)
    · refine g_aload_n C dX8_back_11 (p := 0) (hi := rfl) (hv := rfl) ?_
      refine gc_g_X8_here C dX8_back_12 wf_X8_65 ?_
      refine gc_g_X7_holders C (by omega) dX8_back_15 wf_X8_154 ?_
      refine g_iload_n C dX8_back_18 (p := 1) (hi := rfl) (hv := rfl) ?_
      refine gc_l_holders C (by omega) dX8_back_19 (by omega) (by omega) ?_
      refine g_istore_n C hn dX8_back_20 rfl rfl rfl ?_
      refine g_iload_n C dX8_back_21 (p := 0) (hi := rfl) (hv := rfl) ?_
      refine g_ldc C (n := (-1000000)) wk_X8_157 (by decide +kernel) dX8_back_22 ?_
      refine g_icmp_ne C (tgt := 30) dX8_back_24 (by decide) (hho t) (by omega) (fun h_3 => ?_) (fun h_3 => ?_)
      · refine g_aload_n C dX8_back_30 (p := 1) (hi := rfl) (hv := rfl) ?_
        refine gc_g_X8_acts C dX8_back_31 wf_X8_33 ?_
        refine g_aload_n C dX8_back_34 (p := 1) (hi := rfl) (hv := rfl) ?_
        refine gc_g_X8_here C dX8_back_35 wf_X8_65 ?_
        refine g_iload_n C dX8_back_38 (p := 2) (hi := rfl) (hv := rfl) ?_
        refine gc_callv_X0 C dX8_back_39 (kX0_keep (σ := σ) (a := σ 0 8) (t := t) hap hE (by first | assumption | omega | exact hH | exact hT | exact hho | exact hl | exact hm | exact rt) (by first | assumption | omega | exact hH | exact hT | exact hho | exact hl | exact hm | exact rt) (by first | assumption | omega | exact hH | exact hT | exact hho | exact hl | exact hm | exact rt) (by first | assumption | omega | exact hH | exact hT | exact hho | exact hl | exact hm | exact rt)) mw_X0_keep wl_X8_169 (by decide) (by decide) rfl rfl (by simp [Value.category]) ?_
        refine g_aload_n C dX8_back_42 (p := 1) (hi := rfl) (hv := rfl) ?_
        refine gc_g_X8_here C dX8_back_43 wf_X8_65 ?_
        refine g_cR (b := (σ 0 8)) (by first | rfl | (simp only [mu_app, mr_app, ru, over, and_self, ↓reduceIte]; (repeat (first | rw [if_neg (by omega)] | rw [if_pos (by omega)])))) ?_
        refine gc_g_X7_holders C (by omega) dX8_back_46 wf_X8_154 ?_
        refine g_iload_n C dX8_back_49 (p := 2) (hi := rfl) (hv := rfl) ?_
        refine g_ldc C (n := (-1000000)) wk_X8_157 (by decide +kernel) dX8_back_50 ?_
        refine gc_s_holders C (by omega) dX8_back_52 (by omega) (by omega) ?_
        refine g_aload_n C dX8_back_53 (p := 1) (hi := rfl) (hv := rfl) ?_
        refine gc_g_X8_here C dX8_back_54 wf_X8_65 ?_
        refine g_cR (b := (σ 0 8)) (by first | rfl | (simp only [mu_app, mr_app, ru, over, and_self, ↓reduceIte]; (repeat (first | rw [if_neg (by omega)] | rw [if_pos (by omega)])))) ?_
        refine gc_g_X7_worn C (by omega) dX8_back_57 wf_X8_172 ?_
        refine g_iload_n C dX8_back_60 (p := 2) (hi := rfl) (hv := rfl) ?_
        refine g_dup2 C dX8_back_61 rfl rfl ?_
        refine gc_l_worn C (by omega) dX8_back_62 (by omega) (by omega) ?_
        refine g_cI (b := (σ ((σ 0 8) + 20) t)) (by first | rfl | (simp only [mu_app, mr_app, ru, over, and_self, ↓reduceIte]; (repeat (first | rw [if_neg (by omega)] | rw [if_pos (by omega)])))) ?_
        refine g_iconst C dX8_back_63 ?_
        refine g_iadd C dX8_back_64 ?_
        refine gc_s_worn C (by omega) dX8_back_65 (by omega) (by omega) ?_
        refine g_iload_n C dX8_back_66 (p := 0) (hi := rfl) (hv := rfl) ?_
        exact hret _ _ _ _ dX8_back_67 (by first | rfl | omega | ((repeat' split) <;> first | (exfalso; omega) | rfl | exact mu_mu | omega)) (by first | rfl | omega | ((repeat' split) <;> first | (exfalso; omega) | rfl | exact mu_mu | omega))
      · refine g_ldc C (n := (-1000002)) wk_X8_158 (by decide +kernel) dX8_back_27 ?_
        exact hret _ _ _ _ dX8_back_29 (by first | rfl | omega | ((repeat' split) <;> first | (exfalso; omega) | rfl | exact mu_mu | omega)) (by first | rfl | omega | ((repeat' split) <;> first | (exfalso; omega) | rfl | exact mu_mu | omega))
    · exact absurd h_2 (by decide)
  · refine gc_call_X8 C dX8_back_2 (kX8_isThing_n (σ := σ) (r := t) hap hE (by first | assumption | omega | exact hH | exact hT | exact hho | exact hl | exact hm | exact rt) (by first | assumption | omega | exact hH | exact hT | exact hho | exact hl | exact hm | exact rt) (by first | assumption | omega | exact hH | exact hT | exact hho | exact hl | exact hm | exact rt) (by first | assumption | omega | exact hH | exact hT | exact hho | exact hl | exact hm | exact rt)) mw_X8_isThing wl_X8_148 (by decide) (by decide) rfl rfl (by simp [Value.category]) ?_
    refine g_if_ne C (tgt := 11) dX8_back_5 (by decide) (by omega) (fun h_4 => ?_) (fun h_4 => ?_)
    · exact absurd h_4 (by decide)
    · refine g_ldc C (n := (-1000001)) wk_X8_76 (by decide +kernel) dX8_back_8 ?_
      exact hret _ _ _ _ dX8_back_10 (by first | rfl | omega | ((repeat' split) <;> first | (exfalso; omega) | rfl | exact mu_mu | omega)) (by first | rfl | omega | ((repeat' split) <;> first | (exfalso; omega) | rfl | exact mu_mu | omega))
set_option maxHeartbeats 4000000 in
set_option maxRecDepth 100000 in
theorem kX8_undo {l : Launch} {K : Nat → ClassId} {D : va_G} {ad : Int → Nat} {E : gEnv} {σ : Mem} (hap : Apart ad 60) (hE : gEok E) (hH : 20 ≤ σ 0 8 ∧ σ 0 8 < 24) (hl : 0 ≤ σ 5 1 ∧ σ 5 1 < 24) (hm : 0 ≤ σ 5 0 ∧ σ 5 0 ≤ 24) (hts : ∀ j, 0 ≤ j → j < 24 → 0 ≤ σ 6 j ∧ σ 6 j < 5) : CtI l K D ad 60 (cfC ad K) E yX8_undo cX8_undo 1 (some .int) 3 [.ref (ad 0)] σ (if σ 5 0 = 0 then -1000002 else σ 5 0 - 1) (if σ 5 0 = 0 then σ else (mu (mu (mr (mu (mu σ (σ 0 8 + 16) (σ 6 (σ 5 1)) (σ 7 (σ 5 1))) (σ 0 8 + 20) (σ 6 (σ 5 1)) (σ 8 (σ 5 1))) (σ 0 8 + 8) (cpy (σ 9) (σ (σ 0 8 + 8)) (σ 5 1 * 4) 0 4)) 5 1 ((σ 5 1 + 24 - 1).tmod 24)) 5 0 (σ 5 0 - 1))) := by
  have hts5 := hts (σ 5 1) hl.1 hl.2
  refine ctI_of hap hE (by decide) rfl .int (nar_i _) (fun M C hn hret => ?_)
  have C : Good l K D ad 60 E 3 cX8_undo RX8 M := C
  show G M ad 60 (cfC ad K) 0 [(0, .ref (ad 0))] [] σ
  refine g_aload_n C dX8_undo_0 (p := 0) (hi := rfl) (hv := rfl) ?_
  refine gc_g_X8_acts C dX8_undo_1 wf_X8_33 ?_
  refine gc_g_X0_many C dX8_undo_4 wf_X8_142 ?_
  refine g_if_ne C (tgt := 13) dX8_undo_7 (by decide) (by omega) (fun h_1 => ?_) (fun h_1 => ?_)
  · refine g_aload_n C dX8_undo_13 (p := 0) (hi := rfl) (hv := rfl) ?_
    refine gc_g_X8_acts C dX8_undo_14 wf_X8_33 ?_
    refine g_aload_n C dX8_undo_17 (p := 0) (hi := rfl) (hv := rfl) ?_
    refine gc_g_X8_here C dX8_undo_18 wf_X8_65 ?_
    refine gc_callv_X0 C dX8_undo_21 (kX0_takeBack (σ := σ) (a := σ 0 8) hap hE (by first | assumption | omega | exact hH | exact hl | exact hm | exact hts) (by first | assumption | omega | exact hH | exact hl | exact hm | exact hts) (by first | assumption | omega | exact hH | exact hl | exact hm | exact hts)) mw_X0_takeBack wl_X8_175 (by decide) (by decide) rfl rfl (by simp [Value.category]) ?_
    refine g_aload_n C dX8_undo_24 (p := 0) (hi := rfl) (hv := rfl) ?_
    refine gc_g_X8_acts C dX8_undo_25 wf_X8_33 ?_
    refine gc_g_X0_many C dX8_undo_28 wf_X8_142 ?_
    refine g_cI (b := (σ 5 0 - 1)) (by first | rfl | (simp only [mu_app, mr_app, ru, over, and_self, ↓reduceIte]; (repeat (first | rw [if_neg (by omega)] | rw [if_pos (by omega)])))) ?_
    exact hret _ _ _ _ dX8_undo_31 (by first | rfl | omega | ((repeat' split) <;> first | (exfalso; omega) | rfl | exact mu_mu | omega)) (by first | rfl | omega | ((repeat' split) <;> first | (exfalso; omega) | rfl | exact mu_mu | omega))
  · refine g_ldc C (n := (-1000002)) wk_X8_158 (by decide +kernel) dX8_undo_10 ?_
    exact hret _ _ _ _ dX8_undo_12 (by first | rfl | omega | ((repeat' split) <;> first | (exfalso; omega) | rfl | exact mu_mu | omega)) (by first | rfl | omega | ((repeat' split) <;> first | (exfalso; omega) | rfl | exact mu_mu | omega))
set_option maxHeartbeats 4000000 in
set_option maxRecDepth 100000 in
theorem kX8_image {l : Launch} {K : Nat → ClassId} {D : va_G} {ad : Int → Nat} {E : gEnv} {σ : Mem} {k : Int} (hap : Apart ad 60) (hE : gEok E) (hH : 22 ≤ σ 0 8 ∧ σ 0 8 < 24) (h2 : 0 ≤ σ (σ 0 8) 2 ∧ σ (σ 0 8) 2 ≤ 4) (rk : R3 k) : CtI l K D ad 60 (cfC ad K) E yX8_image cX8_image 2 (some .int) 3 [.ref (ad 0), .int (iI k)] σ (if ¬ (0 ≤ k ∧ k < 2) then -1000001 else if σ (σ 0 8) 2 = 0 then -1000002 else 1) (if ¬ (0 ≤ k ∧ k < 2) then σ else if σ (σ 0 8) 2 = 0 then σ else (mr (mr (mr (mr (mr (mu (mu (mu (mu σ (20 + k) 0 (σ (σ 0 8) 0)) (20 + k) 1 (σ (σ 0 8) 1)) (20 + k) 2 (σ (σ 0 8) 2)) (20 + k) 3 (σ (σ 0 8) 3)) (20 + k + 4) (cpy (σ (σ 0 8 + 4)) (σ (20 + k + 4)) 0 0 4)) (20 + k + 8) (cpy (σ (σ 0 8 + 8)) (σ (20 + k + 8)) 0 0 4)) (20 + k + 12) (cpy (σ (σ 0 8 + 12)) (σ (20 + k + 12)) 0 0 20)) (20 + k + 16) (cpy (σ (σ 0 8 + 16)) (σ (20 + k + 16)) 0 0 5)) (20 + k + 20) (cpy (σ (σ 0 8 + 20)) (σ (20 + k + 20)) 0 0 5))) := by
  refine ctI_of hap hE (by decide) rfl .int (nar_i _) (fun M C hn hret => ?_)
  have C : Good l K D ad 60 E 3 cX8_image RX8 M := C
  show G M ad 60 (cfC ad K) 0 [(0, .ref (ad 0)), (1, .int (iI k))] [] σ
  refine g_iload_n C dX8_image_0 (p := 1) (hi := rfl) (hv := rfl) ?_
  refine g_if_lt C (tgt := 9) dX8_image_1 (by decide) (by omega) (fun h_1 => ?_) (fun h_1 => ?_)
  · refine g_ldc C (n := (-1000001)) wk_X8_76 (by decide +kernel) dX8_image_9 ?_
    exact hret _ _ _ _ dX8_image_11 (by first | rfl | omega | ((repeat' split) <;> first | (exfalso; omega) | rfl | exact mu_mu | omega)) (by first | rfl | omega | ((repeat' split) <;> first | (exfalso; omega) | rfl | exact mu_mu | omega))
  · refine g_iload_n C dX8_image_4 (p := 1) (hi := rfl) (hv := rfl) ?_
    refine g_iconst C dX8_image_5 ?_
    refine g_icmp_lt C (tgt := 12) dX8_image_6 (by decide) (by omega) (by omega) (fun h_2 => ?_) (fun h_2 => ?_)
    · refine g_aload_n C dX8_image_12 (p := 0) (hi := rfl) (hv := rfl) ?_
      refine gc_g_X8_here C dX8_image_13 wf_X8_65 ?_
      refine gc_g_X7_people C (by omega) dX8_image_16 wf_X8_145 ?_
      refine g_if_ne C (tgt := 25) dX8_image_19 (by decide) (by omega) (fun h_3 => ?_) (fun h_3 => ?_)
      · refine g_aload_n C dX8_image_25 (p := 0) (hi := rfl) (hv := rfl) ?_
        refine gc_g_X8_images C dX8_image_26 wf_X8_18 ?_
        refine g_iload_n C dX8_image_29 (p := 1) (hi := rfl) (hv := rfl) ?_
        refine gc_a_images C dX8_image_30 (by omega) (by omega) ?_
        refine g_aload_n C dX8_image_31 (p := 0) (hi := rfl) (hv := rfl) ?_
        refine gc_g_X8_here C dX8_image_32 wf_X8_65 ?_
        refine gc_callv_X7 C dX8_image_35 (kX7_becomeLike (σ := σ) (b := σ 0 8) (self := 20 + k) hap hE (by first | assumption | omega | exact hH | exact h2 | exact rk) (by first | assumption | omega | exact hH | exact h2 | exact rk) (by first | assumption | omega | exact hH | exact h2 | exact rk)) mw_X7_becomeLike wl_X8_247 (by decide) (by decide) (by omega) rfl rfl (by simp [Value.category]) ?_
        refine g_iconst C dX8_image_38 ?_
        exact hret _ _ _ _ dX8_image_39 (by first | rfl | omega | ((repeat' split) <;> first | (exfalso; omega) | rfl | exact mu_mu | omega)) (by first | rfl | omega | ((repeat' split) <;> first | (exfalso; omega) | rfl | exact mu_mu | omega))
      · refine g_ldc C (n := (-1000002)) wk_X8_158 (by decide +kernel) dX8_image_22 ?_
        exact hret _ _ _ _ dX8_image_24 (by first | rfl | omega | ((repeat' split) <;> first | (exfalso; omega) | rfl | exact mu_mu | omega)) (by first | rfl | omega | ((repeat' split) <;> first | (exfalso; omega) | rfl | exact mu_mu | omega))
    · refine g_ldc C (n := (-1000001)) wk_X8_76 (by decide +kernel) dX8_image_9 ?_
      exact hret _ _ _ _ dX8_image_11 (by first | rfl | omega | ((repeat' split) <;> first | (exfalso; omega) | rfl | exact mu_mu | omega)) (by first | rfl | omega | ((repeat' split) <;> first | (exfalso; omega) | rfl | exact mu_mu | omega))
set_option maxHeartbeats 4000000 in
set_option maxRecDepth 100000 in
theorem kX8_restore {l : Launch} {K : Nat → ClassId} {D : va_G} {ad : Int → Nat} {E : gEnv} {σ : Mem} {k : Int} (hap : Apart ad 60) (hE : gEok E) (hH : 22 ≤ σ 0 8 ∧ σ 0 8 < 24) (him : ∀ k, 0 ≤ k → k < 2 → 0 ≤ σ (20 + k) 2 ∧ σ (20 + k) 2 ≤ 4) (rk : R3 k) : CtI l K D ad 60 (cfC ad K) E yX8_restore cX8_restore 2 (some .int) 3 [.ref (ad 0), .int (iI k)] σ (if ¬ (0 ≤ k ∧ k < 2) then -1000001 else if σ (20 + k) 2 = 0 then -1000002 else 1) (if ¬ (0 ≤ k ∧ k < 2) then σ else if σ (20 + k) 2 = 0 then σ else (mu (mr (mr (mr (mr (mr (mu (mu (mu (mu σ (σ 0 8) 0 (σ (20 + k) 0)) (σ 0 8) 1 (σ (20 + k) 1)) (σ 0 8) 2 (σ (20 + k) 2)) (σ 0 8) 3 (σ (20 + k) 3)) (σ 0 8 + 4) (cpy (σ (20 + k + 4)) (σ ((σ 0 8) + 4)) 0 0 4)) (σ 0 8 + 8) (cpy (σ (20 + k + 8)) (σ ((σ 0 8) + 8)) 0 0 4)) (σ 0 8 + 12) (cpy (σ (20 + k + 12)) (σ ((σ 0 8) + 12)) 0 0 20)) (σ 0 8 + 16) (cpy (σ (20 + k + 16)) (σ ((σ 0 8) + 16)) 0 0 5)) (σ 0 8 + 20) (cpy (σ (20 + k + 20)) (σ ((σ 0 8) + 20)) 0 0 5)) 5 0 0)) := by
  refine ctI_of hap hE (by decide) rfl .int (nar_i _) (fun M C hn hret => ?_)
  have C : Good l K D ad 60 E 3 cX8_restore RX8 M := C
  show G M ad 60 (cfC ad K) 0 [(0, .ref (ad 0)), (1, .int (iI k))] [] σ
  refine g_iload_n C dX8_restore_0 (p := 1) (hi := rfl) (hv := rfl) ?_
  refine g_if_lt C (tgt := 9) dX8_restore_1 (by decide) (by omega) (fun h_1 => ?_) (fun h_1 => ?_)
  · refine g_ldc C (n := (-1000001)) wk_X8_76 (by decide +kernel) dX8_restore_9 ?_
    exact hret _ _ _ _ dX8_restore_11 (by first | rfl | omega | ((repeat' split) <;> first | (exfalso; omega) | rfl | exact mu_mu | omega)) (by first | rfl | omega | ((repeat' split) <;> first | (exfalso; omega) | rfl | exact mu_mu | omega))
  · refine g_iload_n C dX8_restore_4 (p := 1) (hi := rfl) (hv := rfl) ?_
    refine g_iconst C dX8_restore_5 ?_
    refine g_icmp_lt C (tgt := 12) dX8_restore_6 (by decide) (by omega) (by omega) (fun h_2 => ?_) (fun h_2 => ?_)
    · refine g_aload_n C dX8_restore_12 (p := 0) (hi := rfl) (hv := rfl) ?_
      refine gc_g_X8_images C dX8_restore_13 wf_X8_18 ?_
      refine g_iload_n C dX8_restore_16 (p := 1) (hi := rfl) (hv := rfl) ?_
      refine gc_a_images C dX8_restore_17 (by omega) (by omega) ?_
      refine gc_g_X7_people C (by omega) dX8_restore_18 wf_X8_145 ?_
      refine g_if_ne C (tgt := 27) dX8_restore_21 (by decide) (by have := him k (by omega) (by omega); omega) (fun h_3 => ?_) (fun h_3 => ?_)
      · refine g_aload_n C dX8_restore_27 (p := 0) (hi := rfl) (hv := rfl) ?_
        refine gc_g_X8_here C dX8_restore_28 wf_X8_65 ?_
        refine g_aload_n C dX8_restore_31 (p := 0) (hi := rfl) (hv := rfl) ?_
        refine gc_g_X8_images C dX8_restore_32 wf_X8_18 ?_
        refine g_iload_n C dX8_restore_35 (p := 1) (hi := rfl) (hv := rfl) ?_
        refine gc_a_images C dX8_restore_36 (by omega) (by omega) ?_
        refine gc_callv_X7 C dX8_restore_37 (kX7_becomeLike (σ := σ) (b := 20 + k) (self := σ 0 8) hap hE (by first | assumption | omega | exact hH | exact him | exact rk) (by first | assumption | omega | exact hH | exact him | exact rk) (by first | assumption | omega | exact hH | exact him | exact rk)) mw_X7_becomeLike wl_X8_247 (by decide) (by decide) (by omega) rfl rfl (by simp [Value.category]) ?_
        refine g_aload_n C dX8_restore_40 (p := 0) (hi := rfl) (hv := rfl) ?_
        refine gc_g_X8_acts C dX8_restore_41 wf_X8_33 ?_
        refine g_iconst C dX8_restore_44 ?_
        refine gc_p_X0_many C dX8_restore_45 wf_X8_142 ?_
        refine g_iconst C dX8_restore_48 ?_
        exact hret _ _ _ _ dX8_restore_49 (by first | rfl | omega | ((repeat' split) <;> first | (exfalso; omega) | rfl | exact mu_mu | omega)) (by first | rfl | omega | ((repeat' split) <;> first | (exfalso; omega) | rfl | exact mu_mu | omega))
      · refine g_ldc C (n := (-1000002)) wk_X8_158 (by decide +kernel) dX8_restore_24 ?_
        exact hret _ _ _ _ dX8_restore_26 (by first | rfl | omega | ((repeat' split) <;> first | (exfalso; omega) | rfl | exact mu_mu | omega)) (by first | rfl | omega | ((repeat' split) <;> first | (exfalso; omega) | rfl | exact mu_mu | omega))
    · refine g_ldc C (n := (-1000001)) wk_X8_76 (by decide +kernel) dX8_restore_9 ?_
      exact hret _ _ _ _ dX8_restore_11 (by first | rfl | omega | ((repeat' split) <;> first | (exfalso; omega) | rfl | exact mu_mu | omega)) (by first | rfl | omega | ((repeat' split) <;> first | (exfalso; omega) | rfl | exact mu_mu | omega))

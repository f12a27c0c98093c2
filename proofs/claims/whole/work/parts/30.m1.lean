def mRowL (σ : Mem) (r : Int) : Nat → Mem | 0 => σ | i + 1 => mu (mRowL σ r i) 3 (40 * r + i) 0
def mRow (σ : Mem) (r ln n : Int) : Mem := if ¬ (0 ≤ r ∧ r ≤ 7) ∨ ¬ (0 ≤ ln ∧ ln ≤ 2) ∨ 40 < n then mu σ 0 0 0 else if n < 0 then mu (mu (mu σ 0 0 0) 0 1 0) 0 1 4 else mRowL (mu (mu (mu (mu σ 0 0 0) 0 1 0) 1 r ln) 2 r n) r 40
set_option maxHeartbeats 4000000 in
set_option maxRecDepth 100000 in
theorem kX9_in {l : Launch} {K : Nat → ClassId} {D : va_G} {ad : Int → Nat} {E : gEnv} {σ : Mem} {v lo hi : Int} (hap : Apart ad 12) (hE : gEok E) (rv : R6 v) (rl : R6 lo) (rh : R6 hi) : CtI l K D ad 12 (cfM ad K) E yX9_in cX9_in 6 (some .boolean) 0 [.long (lI v), .long (lI lo), .long (lI hi)] σ (if lo ≤ v ∧ v ≤ hi then 1 else 0) σ := by
  refine ctI_of hap hE (by decide) rfl .boolean (nar_z (by split <;> simp)) (fun M C hn hret => ?_)
  have C : Good l K D ad 12 E 0 cX9_in RX9 M := C
  show G M ad 12 (cfM ad K) 0 [(0, .long (lI v)), (2, .long (lI lo)), (4, .long (lI hi))] [] σ
  refine g_lload_n C dX9_in_0 (p := 0) (hi := rfl) (hv := rfl) ?_
  refine g_lload_n C dX9_in_1 (p := 1) (hi := rfl) (hv := rfl) ?_
  refine g_lcmp C (by omega) (by omega) dX9_in_2 ?_
  refine g_if_lt C (tgt := 17) dX9_in_3 (by decide) (oCmp_R _ _) (fun h_1 => ?_) (fun h_1 => ?_)
  · replace h_1 := oCmp_lt.mp h_1
    refine g_iconst C dX9_in_17 ?_
    exact hret _ _ _ _ dX9_in_18 (by first | rfl | omega) (by rfl)
  · replace h_1 := oCmp_nlt.mp h_1
    refine g_lload_n C dX9_in_6 (p := 0) (hi := rfl) (hv := rfl) ?_
    refine g_lload C dX9_in_7 (p := 2) rfl ?_
    refine g_lcmp C (by omega) (by omega) dX9_in_9 ?_
    refine g_if_gt C (tgt := 17) dX9_in_10 (by decide) (oCmp_R _ _) (fun h_2 => ?_) (fun h_2 => ?_)
    · replace h_2 := oCmp_gt.mp h_2
      refine g_iconst C dX9_in_17 ?_
      exact hret _ _ _ _ dX9_in_18 (by first | rfl | omega) (by rfl)
    · replace h_2 := oCmp_ngt.mp h_2
      refine g_iconst C dX9_in_13 ?_
      refine g_goto C (tgt := 18) dX9_in_14 (by decide) ?_
      exact hret _ _ _ _ dX9_in_18 (by first | rfl | omega) (by rfl)
set_option maxHeartbeats 4000000 in
set_option maxRecDepth 100000 in
theorem kX9_finding {l : Launch} {K : Nat → ClassId} {D : va_G} {ad : Int → Nat} {E : gEnv} {σ : Mem} {k : Int} (hap : Apart ad 12) (hE : gEok E) : CtI l K D ad 12 (cfM ad K) E yX9_finding cX9_finding 2 (some .int) 0 [.ref (ad 0), .int (iI k)] σ (-1000010 - k) (mu σ 0 1 k) := by
  refine ctI_of hap hE (by decide) rfl .int (nar_i _) (fun M C hn hret => ?_)
  have C : Good l K D ad 12 E 0 cX9_finding RX9 M := C
  show G M ad 12 (cfM ad K) 0 [(0, .ref (ad 0)), (1, .int (iI k))] [] σ
  refine g_aload_n C dX9_finding_0 (p := 0) (hi := rfl) (hv := rfl) ?_
  refine g_iload_n C dX9_finding_1 (p := 1) (hi := rfl) (hv := rfl) ?_
  refine gm_p_status C dX9_finding_2 wf_X9_48 ?_
  refine g_ldc C (n := (-1000010)) wk_X9_51 (by decide +kernel) dX9_finding_5 ?_
  refine g_iload_n C dX9_finding_7 (p := 1) (hi := rfl) (hv := rfl) ?_
  refine g_isub C dX9_finding_8 ?_
  exact hret _ _ _ _ dX9_finding_9 (by first | rfl | omega) (by rfl)
set_option maxHeartbeats 4000000 in
set_option maxRecDepth 100000 in
theorem kX9_isRow {l : Launch} {K : Nat → ClassId} {D : va_G} {ad : Int → Nat} {E : gEnv} {σ : Mem} {r : Int} (hap : Apart ad 12) (hE : gEok E) (hr : R3 r) : CtI l K D ad 12 (cfM ad K) E yX9_isRow cX9_isRow 1 (some .boolean) 1 [.int (iI r)] σ (if 0 ≤ r ∧ r ≤ 7 then 1 else 0) σ := by
  refine ctI_of hap hE (by decide) rfl .boolean (nar_z (by split <;> simp)) (fun M C hn hret => ?_)
  have C : Good l K D ad 12 E 1 cX9_isRow RX9 M := C
  show G M ad 12 (cfM ad K) 0 [(0, .int (iI r))] [] σ
  refine g_iload_n C dX9_isRow_0 (p := 0) (hi := rfl) (hv := rfl) ?_
  refine g_i2l C (by omega) dX9_isRow_1 ?_
  refine g_lconst C (z := 0) dX9_isRow_2 rfl ?_
  refine g_ldc2 C (n := 7) wk_X9_52 (by decide +kernel) dX9_isRow_3 ?_
  refine g_callS C dX9_isRow_6 (kX9_in (σ := σ) (v := r) (lo := 0) (hi := 7) hap hE (by first | assumption | omega) (by first | assumption | omega) (by first | assumption | omega)) mw_X9_in wl_X9_54 (by decide) (by decide) rfl rfl (by simp [Value.category]) ?_
  exact hret _ _ _ _ dX9_isRow_9 (by first | rfl | omega) (by rfl)
set_option maxHeartbeats 4000000 in
set_option maxRecDepth 100000 in
theorem kX9_row {l : Launch} {K : Nat → ClassId} {D : va_G} {ad : Int → Nat} {E : gEnv} {σ : Mem} {r ln n : Int} (hap : Apart ad 12) (hE : gEok E) (hr : R3 r) (hln : R3 ln) (hnn : R3 n) : CtI l K D ad 12 (cfM ad K) E yX9_row cX9_row 5 (some .int) 2 [.ref (ad 0), .int (iI r), .int (iI ln), .int (iI n)] σ (if ¬ (0 ≤ r ∧ r ≤ 7) ∨ ¬ (0 ≤ ln ∧ ln ≤ 2) ∨ 40 < n then -1000001 else if n < 0 then -1000014 else n) (mRow σ r ln n) := by
  refine ctI_of hap hE (by decide) rfl .int (nar_i _) (fun M C hn hret => ?_)
  have C : Good l K D ad 12 E 2 cX9_row RX9 M := C
  show G M ad 12 (cfM ad K) 0 [(0, .ref (ad 0)), (1, .int (iI r)), (2, .int (iI ln)), (3, .int (iI n))] [] σ
  refine g_aload_n C dX9_row_0 (p := 0) (hi := rfl) (hv := rfl) ?_
  refine g_iconst C dX9_row_1 ?_
  refine gm_p_thrown C dX9_row_2 wf_X9_44 ?_
  refine g_iload_n C dX9_row_5 (p := 1) (hi := rfl) (hv := rfl) ?_
  refine g_callS C dX9_row_6 (kX9_isRow (σ := (mu σ 0 0 0)) (r := r) hap hE (by first | assumption | omega)) mw_X9_isRow wl_X9_58 (by decide) (by decide) rfl rfl (by simp [Value.category]) ?_
  refine g_if_eq C (tgt := 30) dX9_row_9 (by decide) (by omega) (fun h_1 => ?_) (fun h_1 => ?_)
  · refine g_ldc C (n := (-1000001)) wk_X9_64 (by decide +kernel) dX9_row_30 ?_
    exact hret _ _ _ _ dX9_row_32 (by first | rfl | omega) (by simp [mRow, *])
  · refine g_iload_n C dX9_row_12 (p := 2) (hi := rfl) (hv := rfl) ?_
    refine g_i2l C (by omega) dX9_row_13 ?_
    refine g_lconst C (z := 0) dX9_row_14 rfl ?_
    refine g_ldc2 C (n := 2) wk_X9_62 (by decide +kernel) dX9_row_15 ?_
    refine g_callS C dX9_row_18 (kX9_in (σ := (mu σ 0 0 0)) (v := ln) (lo := 0) (hi := 2) hap hE (by first | assumption | omega) (by first | assumption | omega) (by first | assumption | omega)) mw_X9_in wl_X9_54 (by decide) (by decide) rfl rfl (by simp [Value.category]) ?_
    refine g_if_eq C (tgt := 30) dX9_row_21 (by decide) (by omega) (fun h_2 => ?_) (fun h_2 => ?_)
    · refine g_ldc C (n := (-1000001)) wk_X9_64 (by decide +kernel) dX9_row_30 ?_
      exact hret _ _ _ _ dX9_row_32 (by first | rfl | omega) (by simp [mRow, *])
    · refine g_iload_n C dX9_row_24 (p := 3) (hi := rfl) (hv := rfl) ?_
      refine (g_bipush C dX9_row_25 (by decide)) ?_
      refine g_icmp_le C (tgt := 33) dX9_row_27 (by decide) (by omega) (by omega) (fun h_3 => ?_) (fun h_3 => ?_)
      · refine g_aload_n C dX9_row_33 (p := 0) (hi := rfl) (hv := rfl) ?_
        refine g_iconst C dX9_row_34 ?_
        refine gm_p_status C dX9_row_35 wf_X9_48 ?_
        refine g_iload_n C dX9_row_38 (p := 3) (hi := rfl) (hv := rfl) ?_
        refine g_if_ge C (tgt := 48) dX9_row_39 (by decide) (by omega) (fun h_4 => ?_) (fun h_4 => ?_)
        · refine g_aload_n C dX9_row_48 (p := 0) (hi := rfl) (hv := rfl) ?_
          refine gm_g_lane C dX9_row_49 wf_X9_7 ?_
          refine g_iload_n C dX9_row_52 (p := 1) (hi := rfl) (hv := rfl) ?_
          refine g_iload_n C dX9_row_53 (p := 2) (hi := rfl) (hv := rfl) ?_
          refine gm_s_lane C dX9_row_54 (by omega) (by omega) ?_
          refine g_aload_n C dX9_row_55 (p := 0) (hi := rfl) (hv := rfl) ?_
          refine gm_g_many C dX9_row_56 wf_X9_13 ?_
          refine g_iload_n C dX9_row_59 (p := 1) (hi := rfl) (hv := rfl) ?_
          refine g_iload_n C dX9_row_60 (p := 3) (hi := rfl) (hv := rfl) ?_
          refine gm_s_many C dX9_row_61 (by omega) (by omega) ?_
          refine g_iconst C dX9_row_62 ?_
          refine g_istore C hn dX9_row_63 rfl rfl ?_
          have L65 : ∀ i : Nat, i ≤ 40 → ∀ (x4 : Int), ∀ (τ65 : Mem), x4 = (i : Int) → τ65 = mRowL (mu (mu (mu (mu σ 0 0 0) 0 1 0) 1 r ln) 2 r n) r i → G M ad 12 (cfM ad K) 65 [(0, .ref (ad 0)), (1, .int (iI r)), (2, .int (iI ln)), (3, .int (iI n)), (4, .int (iI x4))] [] τ65 := by
            refine loopUp 40 ?_
            rintro i hi ihi x4 τ65 rfl rfl
            refine g_iload C dX9_row_65 (p := 4) rfl ?_
            refine (g_bipush C dX9_row_67 (by decide)) ?_
            refine g_icmp_ge C (tgt := 91) dX9_row_69 (by decide) (by omega) (by omega) (fun h_5 => ?_) (fun h_5 => ?_)
            · refine g_iload_n C dX9_row_91 (p := 3) (hi := rfl) (hv := rfl) ?_
              exact hret _ _ _ _ dX9_row_92 (by first | rfl | omega) (by simp [mRow, *])
            · refine g_aload_n C dX9_row_72 (p := 0) (hi := rfl) (hv := rfl) ?_
              refine gm_g_item C dX9_row_73 wf_X9_16 ?_
              refine (g_bipush C dX9_row_76 (by decide)) ?_
              refine g_iload_n C dX9_row_78 (p := 1) (hi := rfl) (hv := rfl) ?_
              refine g_imul C dX9_row_79 ?_
              refine g_iload C dX9_row_80 (p := 4) rfl ?_
              refine g_iadd C dX9_row_82 ?_
              refine g_iconst C dX9_row_83 ?_
              refine gm_s_item C dX9_row_84 (by omega) (by omega) ?_
              refine g_iinc C hn dX9_row_85 (p := 4) rfl rfl rfl ?_
              refine g_goto C (tgt := 65) dX9_row_88 (by decide) ?_
              refine g_sub [1, 2, 3, 4, 0] rfl ?_
              exact ihi (by omega) _ _ (by first | rfl | omega) (by rfl)
          refine g_sub [1, 2, 3, 4, 0] rfl ?_
          exact L65 0 (Nat.zero_le _) _ _ (by first | rfl | omega | simp) (by rfl)
        · refine g_aload_n C dX9_row_42 (p := 0) (hi := rfl) (hv := rfl) ?_
          refine g_iconst C dX9_row_43 ?_
          refine gm_call C dX9_row_44 (kX9_finding (σ := (mu (mu σ 0 0 0) 0 1 0)) (k := 4) hap hE) mw_X9_finding wl_X9_65 (by decide) (by decide) rfl rfl (by simp [Value.category]) ?_
          exact hret _ _ _ _ dX9_row_47 (by first | rfl | omega) (by simp [mRow, *])
      · refine g_ldc C (n := (-1000001)) wk_X9_64 (by decide +kernel) dX9_row_30 ?_
        exact hret _ _ _ _ dX9_row_32 (by first | rfl | omega) (by simp [mRow, *])

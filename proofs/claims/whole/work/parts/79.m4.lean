set_option maxHeartbeats 4000000 in
set_option maxRecDepth 100000 in
theorem kX9_fault {l : Launch} {K : Nat → ClassId} {D : va_G} {ad : Int → Nat} {E : gEnv} {σ : Mem} (hap : Apart ad 12) (hE : gEok E) : CtI l K D ad 12 (cfM ad K) E yX9_fault cX9_fault 1 (some .int) 0 [.ref (ad 0)] σ (σ 0 11) (mu σ 0 0 0) := by
  refine ctI_of hap hE (by decide) rfl .int (nar_i _) (fun M C hn hret => ?_)
  have C : Good l K D ad 12 E 0 cX9_fault RX9 M := C
  show G M ad 12 (cfM ad K) 0 [(0, .ref (ad 0))] [] σ
  refine g_aload_n C dX9_fault_0 (p := 0) (hi := rfl) (hv := rfl) ?_
  refine g_iconst C dX9_fault_1 ?_
  refine gm_p_thrown C dX9_fault_2 wf_X9_44 ?_
  refine g_aload_n C dX9_fault_5 (p := 0) (hi := rfl) (hv := rfl) ?_
  refine gm_g_latest C dX9_fault_6 wf_X9_167 ?_
  refine g_cI (b := (σ 0 11)) (by first | rfl | (rw [mr_app, if_pos rfl]; exact over_out (by omega)) | simp [mu_app, mr_app]) ?_
  exact hret _ _ _ _ dX9_fault_9 (by first | rfl | omega | ((repeat' split) <;> first | (exfalso; omega) | rfl | exact mu_mu | omega)) (by first | rfl | omega | ((repeat' split) <;> first | (exfalso; omega) | rfl | exact mu_mu | omega))
set_option maxHeartbeats 4000000 in
set_option maxRecDepth 100000 in
theorem kX9_status {l : Launch} {K : Nat → ClassId} {D : va_G} {ad : Int → Nat} {E : gEnv} {σ : Mem} (hap : Apart ad 12) (hE : gEok E) : CtI l K D ad 12 (cfM ad K) E yX9_status cX9_status 1 (some .int) 0 [.ref (ad 0)] σ (σ 0 1) (mu σ 0 0 0) := by
  refine ctI_of hap hE (by decide) rfl .int (nar_i _) (fun M C hn hret => ?_)
  have C : Good l K D ad 12 E 0 cX9_status RX9 M := C
  show G M ad 12 (cfM ad K) 0 [(0, .ref (ad 0))] [] σ
  refine g_aload_n C dX9_status_0 (p := 0) (hi := rfl) (hv := rfl) ?_
  refine g_iconst C dX9_status_1 ?_
  refine gm_p_thrown C dX9_status_2 wf_X9_44 ?_
  refine g_aload_n C dX9_status_5 (p := 0) (hi := rfl) (hv := rfl) ?_
  refine gm_g_status C dX9_status_6 wf_X9_48 ?_
  refine g_cI (b := (σ 0 1)) (by first | rfl | (rw [mr_app, if_pos rfl]; exact over_out (by omega)) | simp [mu_app, mr_app]) ?_
  exact hret _ _ _ _ dX9_status_9 (by first | rfl | omega | ((repeat' split) <;> first | (exfalso; omega) | rfl | exact mu_mu | omega)) (by first | rfl | omega | ((repeat' split) <;> first | (exfalso; omega) | rfl | exact mu_mu | omega))
set_option maxHeartbeats 4000000 in
set_option maxRecDepth 100000 in
theorem kX9_coin {l : Launch} {K : Nat → ClassId} {D : va_G} {ad : Int → Nat} {E : gEnv} {σ : Mem} {p : Int} (hap : Apart ad 12) (hE : gEok E) (hp : 0 ≤ σ 4 2 ∧ σ 4 2 ≤ 4) (rp : R3 p) : CtI l K D ad 12 (cfM ad K) E yX9_coin cX9_coin 2 (some .int) 2 [.ref (ad 0), .int (iI p)] σ (if (0 ≤ p ∧ p ≤ σ 4 2 - 1) then σ 4 (8 + p) else -1000001) (mu σ 0 0 0) := by
  refine ctI_of hap hE (by decide) rfl .int (nar_i _) (fun M C hn hret => ?_)
  have C : Good l K D ad 12 E 2 cX9_coin RX9 M := C
  show G M ad 12 (cfM ad K) 0 [(0, .ref (ad 0)), (1, .int (iI p))] [] σ
  refine g_aload_n C dX9_coin_0 (p := 0) (hi := rfl) (hv := rfl) ?_
  refine g_iconst C dX9_coin_1 ?_
  refine gm_p_thrown C dX9_coin_2 wf_X9_44 ?_
  refine g_aload_n C dX9_coin_5 (p := 0) (hi := rfl) (hv := rfl) ?_
  refine g_iload_n C dX9_coin_6 (p := 1) (hi := rfl) (hv := rfl) ?_
  refine gm_call C dX9_coin_7 (kX9_isPerson (σ := (mu σ 0 0 0)) (p := p) hap hE (by show 0 ≤ σ 4 2 ∧ σ 4 2 ≤ 4; first | assumption | omega | exact hp | exact rp) (by first | assumption | omega | exact hp | exact rp)) mw_X9_isPerson wl_X9_226 (by decide) (by decide) rfl rfl (by simp [Value.category]) ?_
  refine g_cI (b := (if 0 ≤ p ∧ p ≤ σ 4 2 - 1 then 1 else 0)) (by first | rfl | (congr 1 <;> first | rfl | exact over_out (by omega)) | (congr 2 <;> first | rfl | exact over_out (by omega)) | simp [mu_app, mr_app]) ?_
  refine g_if_eq C (tgt := 25) dX9_coin_10 (by decide) (by omega) (fun h_1 => ?_) (fun h_1 => ?_)
  · refine g_ldc C (n := (-1000001)) wk_X9_64 (by decide +kernel) dX9_coin_25 ?_
    exact hret _ _ _ _ dX9_coin_27 (by first | rfl | omega | ((repeat' split) <;> first | (exfalso; omega) | rfl | exact mu_mu | omega)) (by first | rfl | omega | ((repeat' split) <;> first | (exfalso; omega) | rfl | exact mu_mu | omega))
  · refine g_aload_n C dX9_coin_13 (p := 0) (hi := rfl) (hv := rfl) ?_
    refine gm_g_town C dX9_coin_14 wf_X9_19 ?_
    refine (g_bipush C dX9_coin_17 (by decide)) ?_
    refine g_iload_n C dX9_coin_19 (p := 1) (hi := rfl) (hv := rfl) ?_
    refine g_iadd C dX9_coin_20 ?_
    refine gm_l_town C dX9_coin_21 (by omega) (by omega) ?_
    refine g_cI (b := (σ 4 (8 + p))) (by first | rfl | (rw [mr_app, if_pos rfl]; exact over_out (by omega)) | simp [mu_app, mr_app]) ?_
    refine g_goto C (tgt := 27) dX9_coin_22 (by decide) ?_
    exact hret _ _ _ _ dX9_coin_27 (by first | rfl | omega | ((repeat' split) <;> first | (exfalso; omega) | rfl | exact mu_mu | omega)) (by first | rfl | omega | ((repeat' split) <;> first | (exfalso; omega) | rfl | exact mu_mu | omega))
set_option maxHeartbeats 4000000 in
set_option maxRecDepth 100000 in
theorem kX9_kind {l : Launch} {K : Nat → ClassId} {D : va_G} {ad : Int → Nat} {E : gEnv} {σ : Mem} {p : Int} (hap : Apart ad 12) (hE : gEok E) (hp : 0 ≤ σ 4 2 ∧ σ 4 2 ≤ 4) (rp : R3 p) : CtI l K D ad 12 (cfM ad K) E yX9_kind cX9_kind 2 (some .int) 2 [.ref (ad 0), .int (iI p)] σ (if (0 ≤ p ∧ p ≤ σ 4 2 - 1) then σ 4 (4 + p) else -1000001) (mu σ 0 0 0) := by
  refine ctI_of hap hE (by decide) rfl .int (nar_i _) (fun M C hn hret => ?_)
  have C : Good l K D ad 12 E 2 cX9_kind RX9 M := C
  show G M ad 12 (cfM ad K) 0 [(0, .ref (ad 0)), (1, .int (iI p))] [] σ
  refine g_aload_n C dX9_kind_0 (p := 0) (hi := rfl) (hv := rfl) ?_
  refine g_iconst C dX9_kind_1 ?_
  refine gm_p_thrown C dX9_kind_2 wf_X9_44 ?_
  refine g_aload_n C dX9_kind_5 (p := 0) (hi := rfl) (hv := rfl) ?_
  refine g_iload_n C dX9_kind_6 (p := 1) (hi := rfl) (hv := rfl) ?_
  refine gm_call C dX9_kind_7 (kX9_isPerson (σ := (mu σ 0 0 0)) (p := p) hap hE (by show 0 ≤ σ 4 2 ∧ σ 4 2 ≤ 4; first | assumption | omega | exact hp | exact rp) (by first | assumption | omega | exact hp | exact rp)) mw_X9_isPerson wl_X9_226 (by decide) (by decide) rfl rfl (by simp [Value.category]) ?_
  refine g_cI (b := (if 0 ≤ p ∧ p ≤ σ 4 2 - 1 then 1 else 0)) (by first | rfl | (congr 1 <;> first | rfl | exact over_out (by omega)) | (congr 2 <;> first | rfl | exact over_out (by omega)) | simp [mu_app, mr_app]) ?_
  refine g_if_eq C (tgt := 24) dX9_kind_10 (by decide) (by omega) (fun h_1 => ?_) (fun h_1 => ?_)
  · refine g_ldc C (n := (-1000001)) wk_X9_64 (by decide +kernel) dX9_kind_24 ?_
    exact hret _ _ _ _ dX9_kind_26 (by first | rfl | omega | ((repeat' split) <;> first | (exfalso; omega) | rfl | exact mu_mu | omega)) (by first | rfl | omega | ((repeat' split) <;> first | (exfalso; omega) | rfl | exact mu_mu | omega))
  · refine g_aload_n C dX9_kind_13 (p := 0) (hi := rfl) (hv := rfl) ?_
    refine gm_g_town C dX9_kind_14 wf_X9_19 ?_
    refine g_iconst C dX9_kind_17 ?_
    refine g_iload_n C dX9_kind_18 (p := 1) (hi := rfl) (hv := rfl) ?_
    refine g_iadd C dX9_kind_19 ?_
    refine gm_l_town C dX9_kind_20 (by omega) (by omega) ?_
    refine g_cI (b := (σ 4 (4 + p))) (by first | rfl | (rw [mr_app, if_pos rfl]; exact over_out (by omega)) | simp [mu_app, mr_app]) ?_
    refine g_goto C (tgt := 26) dX9_kind_21 (by decide) ?_
    exact hret _ _ _ _ dX9_kind_26 (by first | rfl | omega | ((repeat' split) <;> first | (exfalso; omega) | rfl | exact mu_mu | omega)) (by first | rfl | omega | ((repeat' split) <;> first | (exfalso; omega) | rfl | exact mu_mu | omega))
set_option maxHeartbeats 4000000 in
set_option maxRecDepth 100000 in
theorem kX9_thing {l : Launch} {K : Nat → ClassId} {D : va_G} {ad : Int → Nat} {E : gEnv} {σ : Mem} {t what : Int} (hap : Apart ad 12) (hE : gEok E) (ht3 : 0 ≤ σ 4 3 ∧ σ 4 3 ≤ 5) (rt : R3 t) (rw : R3 what) : CtI l K D ad 12 (cfM ad K) E yX9_thing cX9_thing 3 (some .int) 2 [.ref (ad 0), .int (iI t), .int (iI what)] σ (if (0 ≤ t ∧ t ≤ σ 4 3 - 1) ∧ (0 ≤ what ∧ what ≤ 1) then σ 4 (12 + 6 * t + (4 + what)) else -1000001) (mu σ 0 0 0) := by
  refine ctI_of hap hE (by decide) rfl .int (nar_i _) (fun M C hn hret => ?_)
  have C : Good l K D ad 12 E 2 cX9_thing RX9 M := C
  show G M ad 12 (cfM ad K) 0 [(0, .ref (ad 0)), (1, .int (iI t)), (2, .int (iI what))] [] σ
  refine g_aload_n C dX9_thing_0 (p := 0) (hi := rfl) (hv := rfl) ?_
  refine g_iconst C dX9_thing_1 ?_
  refine gm_p_thrown C dX9_thing_2 wf_X9_44 ?_
  refine g_aload_n C dX9_thing_5 (p := 0) (hi := rfl) (hv := rfl) ?_
  refine g_iload_n C dX9_thing_6 (p := 1) (hi := rfl) (hv := rfl) ?_
  refine gm_call C dX9_thing_7 (kX9_isThing (σ := (mu σ 0 0 0)) (t := t) hap hE (by show 0 ≤ σ 4 3 ∧ σ 4 3 ≤ 5; first | assumption | omega | exact ht3 | exact rt | exact rw) (by first | assumption | omega | exact ht3 | exact rt | exact rw)) mw_X9_isThing wl_X9_210 (by decide) (by decide) rfl rfl (by simp [Value.category]) ?_
  refine g_cI (b := (if 0 ≤ t ∧ t ≤ σ 4 3 - 1 then 1 else 0)) (by first | rfl | (congr 1 <;> first | rfl | exact over_out (by omega)) | (congr 2 <;> first | rfl | exact over_out (by omega)) | simp [mu_app, mr_app]) ?_
  refine g_if_eq C (tgt := 34) dX9_thing_10 (by decide) (by omega) (fun h_1 => ?_) (fun h_1 => ?_)
  · refine g_ldc C (n := (-1000001)) wk_X9_64 (by decide +kernel) dX9_thing_34 ?_
    exact hret _ _ _ _ dX9_thing_36 (by first | rfl | omega | ((repeat' split) <;> first | (exfalso; omega) | rfl | exact mu_mu | omega)) (by first | rfl | omega | ((repeat' split) <;> first | (exfalso; omega) | rfl | exact mu_mu | omega))
  · refine g_iload_n C dX9_thing_13 (p := 2) (hi := rfl) (hv := rfl) ?_
    refine g_i2l C (by omega) dX9_thing_14 ?_
    refine g_lconst C (z := 0) dX9_thing_15 rfl ?_
    refine g_lconst C (z := 1) dX9_thing_16 rfl ?_
    refine g_callS C dX9_thing_17 (kX9_in (σ := (mu σ 0 0 0)) (v := what) (lo := 0) (hi := 1) hap hE (by first | assumption | omega | exact ht3 | exact rt | exact rw) (by first | assumption | omega | exact ht3 | exact rt | exact rw) (by first | assumption | omega | exact ht3 | exact rt | exact rw)) mw_X9_in wl_X9_54 (by decide) (by decide) rfl rfl (by simp [Value.category]) ?_
    refine g_if_eq C (tgt := 34) dX9_thing_20 (by decide) (by omega) (fun h_2 => ?_) (fun h_2 => ?_)
    · refine g_ldc C (n := (-1000001)) wk_X9_64 (by decide +kernel) dX9_thing_34 ?_
      exact hret _ _ _ _ dX9_thing_36 (by first | rfl | omega | ((repeat' split) <;> first | (exfalso; omega) | rfl | exact mu_mu | omega)) (by first | rfl | omega | ((repeat' split) <;> first | (exfalso; omega) | rfl | exact mu_mu | omega))
    · refine g_aload_n C dX9_thing_23 (p := 0) (hi := rfl) (hv := rfl) ?_
      refine g_iload_n C dX9_thing_24 (p := 1) (hi := rfl) (hv := rfl) ?_
      refine g_iconst C dX9_thing_25 ?_
      refine g_iload_n C dX9_thing_26 (p := 2) (hi := rfl) (hv := rfl) ?_
      refine g_iadd C dX9_thing_27 ?_
      refine gm_call C dX9_thing_28 (kX9_of (σ := (mu σ 0 0 0)) (t := t) (w := 4 + what) hap hE (by first | assumption | omega | exact ht3 | exact rt | exact rw) (by first | assumption | omega | exact ht3 | exact rt | exact rw)) mw_X9_of wl_X9_176 (by decide) (by decide) rfl rfl (by simp [Value.category]) ?_
      refine g_cI (b := ((σ 4) (12 + 6 * t + (4 + what)))) (by first | rfl | (congr 1 <;> first | rfl | exact over_out (by omega)) | (congr 2 <;> first | rfl | exact over_out (by omega)) | simp [mu_app, mr_app]) ?_
      refine g_goto C (tgt := 36) dX9_thing_31 (by decide) ?_
      exact hret _ _ _ _ dX9_thing_36 (by first | rfl | omega | ((repeat' split) <;> first | (exfalso; omega) | rfl | exact mu_mu | omega)) (by first | rfl | omega | ((repeat' split) <;> first | (exfalso; omega) | rfl | exact mu_mu | omega))
set_option maxHeartbeats 4000000 in
set_option maxRecDepth 100000 in
theorem kX9_worth {l : Launch} {K : Nat → ClassId} {D : va_G} {ad : Int → Nat} {E : gEnv} {σ : Mem} {t p what : Int} (hap : Apart ad 12) (hE : gEok E) (hT : TW (σ 4)) (rt : R3 t) (rp : R3 p) (rw : R3 what) : CtI l K D ad 12 (cfM ad K) E yX9_worth cX9_worth 4 (some .int) 3 [.ref (ad 0), .int (iI t), .int (iI p), .int (iI what)] σ (if (0 ≤ t ∧ t ≤ σ 4 3 - 1) ∧ (0 ≤ p ∧ p ≤ σ 4 2 - 1) ∧ (0 ≤ what ∧ what ≤ 1) then (if what = 0 then woF (σ 4) t p else owF (σ 4) t p) else -1000001) (mu σ 0 0 0) := by
  have hp : 0 ≤ σ 4 2 ∧ σ 4 2 ≤ 4 := hT.2.2.1
  have ht3 : 0 ≤ σ 4 3 ∧ σ 4 3 ≤ 5 := hT.2.2.2.1
  refine ctI_of hap hE (by decide) rfl .int (nar_i _) (fun M C hn hret => ?_)
  have C : Good l K D ad 12 E 3 cX9_worth RX9 M := C
  show G M ad 12 (cfM ad K) 0 [(0, .ref (ad 0)), (1, .int (iI t)), (2, .int (iI p)), (3, .int (iI what))] [] σ
  refine g_aload_n C dX9_worth_0 (p := 0) (hi := rfl) (hv := rfl) ?_
  refine g_iconst C dX9_worth_1 ?_
  refine gm_p_thrown C dX9_worth_2 wf_X9_44 ?_
  refine g_aload_n C dX9_worth_5 (p := 0) (hi := rfl) (hv := rfl) ?_
  refine g_iload_n C dX9_worth_6 (p := 1) (hi := rfl) (hv := rfl) ?_
  refine gm_call C dX9_worth_7 (kX9_isThing (σ := (mu σ 0 0 0)) (t := t) hap hE (by show 0 ≤ σ 4 3 ∧ σ 4 3 ≤ 5; first | assumption | omega | exact hT | exact rt | exact rp | exact rw) (by first | assumption | omega | exact hT | exact rt | exact rp | exact rw)) mw_X9_isThing wl_X9_210 (by decide) (by decide) rfl rfl (by simp [Value.category]) ?_
  refine g_cI (b := (if 0 ≤ t ∧ t ≤ σ 4 3 - 1 then 1 else 0)) (by first | rfl | (congr 1 <;> first | rfl | exact over_out (by omega)) | (congr 2 <;> first | rfl | exact over_out (by omega)) | simp [mu_app, mr_app]) ?_
  refine g_if_eq C (tgt := 31) dX9_worth_10 (by decide) (by omega) (fun h_1 => ?_) (fun h_1 => ?_)
  · refine g_ldc C (n := (-1000001)) wk_X9_64 (by decide +kernel) dX9_worth_31 ?_
    exact hret _ _ _ _ dX9_worth_33 (by first | rfl | omega | ((repeat' split) <;> first | (exfalso; omega) | rfl | exact mu_mu | omega)) (by first | rfl | omega | ((repeat' split) <;> first | (exfalso; omega) | rfl | exact mu_mu | omega))
  · refine g_aload_n C dX9_worth_13 (p := 0) (hi := rfl) (hv := rfl) ?_
    refine g_iload_n C dX9_worth_14 (p := 2) (hi := rfl) (hv := rfl) ?_
    refine gm_call C dX9_worth_15 (kX9_isPerson (σ := (mu σ 0 0 0)) (p := p) hap hE (by show 0 ≤ σ 4 2 ∧ σ 4 2 ≤ 4; first | assumption | omega | exact hT | exact rt | exact rp | exact rw) (by first | assumption | omega | exact hT | exact rt | exact rp | exact rw)) mw_X9_isPerson wl_X9_226 (by decide) (by decide) rfl rfl (by simp [Value.category]) ?_
    refine g_cI (b := (if 0 ≤ p ∧ p ≤ σ 4 2 - 1 then 1 else 0)) (by first | rfl | (congr 1 <;> first | rfl | exact over_out (by omega)) | (congr 2 <;> first | rfl | exact over_out (by omega)) | simp [mu_app, mr_app]) ?_
    refine g_if_eq C (tgt := 31) dX9_worth_18 (by decide) (by omega) (fun h_2 => ?_) (fun h_2 => ?_)
    · refine g_ldc C (n := (-1000001)) wk_X9_64 (by decide +kernel) dX9_worth_31 ?_
      exact hret _ _ _ _ dX9_worth_33 (by first | rfl | omega | ((repeat' split) <;> first | (exfalso; omega) | rfl | exact mu_mu | omega)) (by first | rfl | omega | ((repeat' split) <;> first | (exfalso; omega) | rfl | exact mu_mu | omega))
    · refine g_iload_n C dX9_worth_21 (p := 3) (hi := rfl) (hv := rfl) ?_
      refine g_i2l C (by omega) dX9_worth_22 ?_
      refine g_lconst C (z := 0) dX9_worth_23 rfl ?_
      refine g_lconst C (z := 1) dX9_worth_24 rfl ?_
      refine g_callS C dX9_worth_25 (kX9_in (σ := (mu σ 0 0 0)) (v := what) (lo := 0) (hi := 1) hap hE (by first | assumption | omega | exact hT | exact rt | exact rp | exact rw) (by first | assumption | omega | exact hT | exact rt | exact rp | exact rw) (by first | assumption | omega | exact hT | exact rt | exact rp | exact rw)) mw_X9_in wl_X9_54 (by decide) (by decide) rfl rfl (by simp [Value.category]) ?_
      refine g_if_ne C (tgt := 34) dX9_worth_28 (by decide) (by omega) (fun h_3 => ?_) (fun h_3 => ?_)
      · refine g_iload_n C dX9_worth_34 (p := 3) (hi := rfl) (hv := rfl) ?_
        refine g_if_ne C (tgt := 47) dX9_worth_35 (by decide) (by omega) (fun h_4 => ?_) (fun h_4 => ?_)
        · refine g_aload_n C dX9_worth_47 (p := 0) (hi := rfl) (hv := rfl) ?_
          refine g_iload_n C dX9_worth_48 (p := 1) (hi := rfl) (hv := rfl) ?_
          refine g_iload_n C dX9_worth_49 (p := 2) (hi := rfl) (hv := rfl) ?_
          refine gm_call C dX9_worth_50 (kX9_ownOf (σ := (mu σ 0 0 0)) (t := t) (p := p) hap hE (by show TW (σ 4); first | assumption | omega | exact hT | exact rt | exact rp | exact rw) (by first | assumption | omega | exact hT | exact rt | exact rp | exact rw) (by first | assumption | omega | exact hT | exact rt | exact rp | exact rw)) mw_X9_ownOf wl_X9_182 (by decide) (by decide) rfl rfl (by simp [Value.category]) ?_
          refine g_cI (b := (owF (σ 4) t p)) (by first | rfl | (congr 1 <;> first | rfl | exact over_out (by omega)) | (congr 2 <;> first | rfl | exact over_out (by omega)) | simp [mu_app, mr_app]) ?_
          exact hret _ _ _ _ dX9_worth_53 (by first | rfl | omega | ((repeat' split) <;> first | (exfalso; omega) | rfl | exact mu_mu | omega)) (by first | rfl | omega | ((repeat' split) <;> first | (exfalso; omega) | rfl | exact mu_mu | omega))
        · refine g_aload_n C dX9_worth_38 (p := 0) (hi := rfl) (hv := rfl) ?_
          refine g_iload_n C dX9_worth_39 (p := 1) (hi := rfl) (hv := rfl) ?_
          refine g_iload_n C dX9_worth_40 (p := 2) (hi := rfl) (hv := rfl) ?_
          refine gm_call C dX9_worth_41 (kX9_worthOf (σ := (mu σ 0 0 0)) (t := t) (p := p) hap hE (by first | assumption | omega | exact hT | exact rt | exact rp | exact rw) (by first | assumption | omega | exact hT | exact rt | exact rp | exact rw)) mw_X9_worthOf wl_X9_179 (by decide) (by decide) rfl rfl (by simp [Value.category]) ?_
          refine g_cI (b := (woF (σ 4) t p)) (by first | rfl | (congr 1 <;> first | rfl | exact over_out (by omega)) | (congr 2 <;> first | rfl | exact over_out (by omega)) | simp [mu_app, mr_app]) ?_
          refine g_goto C (tgt := 53) dX9_worth_44 (by decide) ?_
          exact hret _ _ _ _ dX9_worth_53 (by first | rfl | omega | ((repeat' split) <;> first | (exfalso; omega) | rfl | exact mu_mu | omega)) (by first | rfl | omega | ((repeat' split) <;> first | (exfalso; omega) | rfl | exact mu_mu | omega))
      · refine g_ldc C (n := (-1000001)) wk_X9_64 (by decide +kernel) dX9_worth_31 ?_
        exact hret _ _ _ _ dX9_worth_33 (by first | rfl | omega | ((repeat' split) <;> first | (exfalso; omega) | rfl | exact mu_mu | omega)) (by first | rfl | omega | ((repeat' split) <;> first | (exfalso; omega) | rfl | exact mu_mu | omega))
set_option maxHeartbeats 4000000 in
set_option maxRecDepth 100000 in
theorem kX9_trace {l : Launch} {K : Nat → ClassId} {D : va_G} {ad : Int → Nat} {E : gEnv} {σ : Mem} {i : Int} (hap : Apart ad 12) (hE : gEok E) (htr : 0 ≤ σ 0 23 ∧ σ 0 23 ≤ 16) (ri : R3 i) : CtI l K D ad 12 (cfM ad K) E yX9_trace cX9_trace 2 (some .int) 1 [.ref (ad 0), .int (iI i)] σ (if 0 ≤ i ∧ i ≤ σ 0 23 - 1 then σ 11 i else -1000000) (mu σ 0 0 0) := by
  refine ctI_of hap hE (by decide) rfl .int (nar_i _) (fun M C hn hret => ?_)
  have C : Good l K D ad 12 E 1 cX9_trace RX9 M := C
  show G M ad 12 (cfM ad K) 0 [(0, .ref (ad 0)), (1, .int (iI i))] [] σ
  refine g_aload_n C dX9_trace_0 (p := 0) (hi := rfl) (hv := rfl) ?_
  refine g_iconst C dX9_trace_1 ?_
  refine gm_p_thrown C dX9_trace_2 wf_X9_44 ?_
  refine g_iload_n C dX9_trace_5 (p := 1) (hi := rfl) (hv := rfl) ?_
  refine g_i2l C (by omega) dX9_trace_6 ?_
  refine g_lconst C (z := 0) dX9_trace_7 rfl ?_
  refine g_aload_n C dX9_trace_8 (p := 0) (hi := rfl) (hv := rfl) ?_
  refine gm_g_traced C dX9_trace_9 wf_X9_251 ?_
  refine g_cI (b := (σ 0 23)) (by first | rfl | (rw [mr_app, if_pos rfl]; exact over_out (by omega)) | simp [mu_app, mr_app]) ?_
  refine g_iconst C dX9_trace_12 ?_
  refine g_isub C dX9_trace_13 ?_
  refine g_i2l C (by omega) dX9_trace_14 ?_
  refine g_callS C dX9_trace_15 (kX9_in (σ := (mu σ 0 0 0)) (v := i) (lo := 0) (hi := (σ 0 23) - 1) hap hE (by first | assumption | omega | exact htr | exact ri) (by first | assumption | omega | exact htr | exact ri) (by first | assumption | omega | exact htr | exact ri)) mw_X9_in wl_X9_54 (by decide) (by decide) rfl rfl (by simp [Value.category]) ?_
  refine g_if_eq C (tgt := 30) dX9_trace_18 (by decide) (by omega) (fun h_1 => ?_) (fun h_1 => ?_)
  · refine g_ldc C (n := (-1000000)) wk_X9_80 (by decide +kernel) dX9_trace_30 ?_
    exact hret _ _ _ _ dX9_trace_32 (by first | rfl | omega | ((repeat' split) <;> first | (exfalso; omega) | rfl | exact mu_mu | omega)) (by first | rfl | omega | ((repeat' split) <;> first | (exfalso; omega) | rfl | exact mu_mu | omega))
  · refine g_aload_n C dX9_trace_21 (p := 0) (hi := rfl) (hv := rfl) ?_
    refine gm_g_trace C dX9_trace_22 wf_X9_41 ?_
    refine g_iload_n C dX9_trace_25 (p := 1) (hi := rfl) (hv := rfl) ?_
    refine gm_l_trace C dX9_trace_26 (by omega) (by omega) ?_
    refine g_cI (b := (σ 11 i)) (by first | rfl | (rw [mr_app, if_pos rfl]; exact over_out (by omega)) | simp [mu_app, mr_app]) ?_
    refine g_goto C (tgt := 32) dX9_trace_27 (by decide) ?_
    exact hret _ _ _ _ dX9_trace_32 (by first | rfl | omega | ((repeat' split) <;> first | (exfalso; omega) | rfl | exact mu_mu | omega)) (by first | rfl | omega | ((repeat' split) <;> first | (exfalso; omega) | rfl | exact mu_mu | omega))
set_option maxHeartbeats 4000000 in
set_option maxRecDepth 100000 in
theorem kX9_least {l : Launch} {K : Nat → ClassId} {D : va_G} {ad : Int → Nat} {E : gEnv} {σ : Mem} {t what : Int} (hap : Apart ad 12) (hE : gEok E) (hT : TW (σ 4)) (hpe : σ 4 3 = 0 ∨ 1 ≤ σ 4 2) (rt : R3 t) (rw : R3 what) : CtI l K D ad 12 (cfM ad K) E yX9_least cX9_least 3 (some .int) 3 [.ref (ad 0), .int (iI t), .int (iI what)] σ (if (0 ≤ t ∧ t ≤ σ 4 3 - 1) ∧ (0 ≤ what ∧ what ≤ 1) then extF (σ 4) t (if what = 0 then 1 else -1) (σ 4 2 - 1).toNat else -1000001) (mu σ 0 0 0) := by
  have hp : 0 ≤ σ 4 2 ∧ σ 4 2 ≤ 4 := hT.2.2.1
  have ht3 : 0 ≤ σ 4 3 ∧ σ 4 3 ≤ 5 := hT.2.2.2.1
  refine ctI_of hap hE (by decide) rfl .int (nar_i _) (fun M C hn hret => ?_)
  have C : Good l K D ad 12 E 3 cX9_least RX9 M := C
  show G M ad 12 (cfM ad K) 0 [(0, .ref (ad 0)), (1, .int (iI t)), (2, .int (iI what))] [] σ
  refine g_aload_n C dX9_least_0 (p := 0) (hi := rfl) (hv := rfl) ?_
  refine g_iconst C dX9_least_1 ?_
  refine gm_p_thrown C dX9_least_2 wf_X9_44 ?_
  refine g_aload_n C dX9_least_5 (p := 0) (hi := rfl) (hv := rfl) ?_
  refine g_iload_n C dX9_least_6 (p := 1) (hi := rfl) (hv := rfl) ?_
  refine gm_call C dX9_least_7 (kX9_isThing (σ := (mu σ 0 0 0)) (t := t) hap hE (by show 0 ≤ σ 4 3 ∧ σ 4 3 ≤ 5; first | assumption | omega | exact hT | exact hpe | exact rt | exact rw) (by first | assumption | omega | exact hT | exact hpe | exact rt | exact rw)) mw_X9_isThing wl_X9_210 (by decide) (by decide) rfl rfl (by simp [Value.category]) ?_
  refine g_cI (b := (if 0 ≤ t ∧ t ≤ σ 4 3 - 1 then 1 else 0)) (by first | rfl | (congr 1 <;> first | rfl | exact over_out (by omega)) | (congr 2 <;> first | rfl | exact over_out (by omega)) | simp [mu_app, mr_app]) ?_
  refine g_if_eq C (tgt := 23) dX9_least_10 (by decide) (by omega) (fun h_1 => ?_) (fun h_1 => ?_)
  · refine g_ldc C (n := (-1000001)) wk_X9_64 (by decide +kernel) dX9_least_23 ?_
    exact hret _ _ _ _ dX9_least_25 (by first | rfl | omega | ((repeat' split) <;> first | (exfalso; omega) | rfl | exact mu_mu | omega)) (by first | rfl | omega | ((repeat' split) <;> first | (exfalso; omega) | rfl | exact mu_mu | omega))
  · refine g_iload_n C dX9_least_13 (p := 2) (hi := rfl) (hv := rfl) ?_
    refine g_i2l C (by omega) dX9_least_14 ?_
    refine g_lconst C (z := 0) dX9_least_15 rfl ?_
    refine g_lconst C (z := 1) dX9_least_16 rfl ?_
    refine g_callS C dX9_least_17 (kX9_in (σ := (mu σ 0 0 0)) (v := what) (lo := 0) (hi := 1) hap hE (by first | assumption | omega | exact hT | exact hpe | exact rt | exact rw) (by first | assumption | omega | exact hT | exact hpe | exact rt | exact rw) (by first | assumption | omega | exact hT | exact hpe | exact rt | exact rw)) mw_X9_in wl_X9_54 (by decide) (by decide) rfl rfl (by simp [Value.category]) ?_
    refine g_if_ne C (tgt := 26) dX9_least_20 (by decide) (by omega) (fun h_2 => ?_) (fun h_2 => ?_)
    · refine g_aload_n C dX9_least_26 (p := 0) (hi := rfl) (hv := rfl) ?_
      refine g_iload_n C dX9_least_27 (p := 1) (hi := rfl) (hv := rfl) ?_
      refine g_iload_n C dX9_least_28 (p := 2) (hi := rfl) (hv := rfl) ?_
      refine g_if_ne C (tgt := 36) dX9_least_29 (by decide) (by omega) (fun h_3 => ?_) (fun h_3 => ?_)
      · refine g_iconst C dX9_least_36 ?_
        refine gm_call C dX9_least_37 (kX9_extreme (σ := (mu σ 0 0 0)) (t := t) (s := (-1)) hap hE (by show TW (σ 4); first | assumption | omega | exact hT | exact hpe | exact rt | exact rw) (by show 1 ≤ σ 4 2 ∧ σ 4 2 ≤ 4; first | assumption | omega | exact hT | exact hpe | exact rt | exact rw) (by first | assumption | omega | exact hT | exact hpe | exact rt | exact rw) (by first | assumption | omega | exact hT | exact hpe | exact rt | exact rw)) mw_X9_extreme wl_X9_241 (by decide) (by decide) rfl rfl (by simp [Value.category]) ?_
        refine g_cI (b := (extF (σ 4) t (-1) (σ 4 2 - 1).toNat)) (by first | rfl | (congr 1 <;> first | rfl | exact over_out (by omega)) | (congr 2 <;> first | rfl | exact over_out (by omega)) | simp [mu_app, mr_app]) ?_
        exact hret _ _ _ _ dX9_least_40 (by first | rfl | omega | ((repeat' split) <;> first | (exfalso; omega) | rfl | exact mu_mu | omega)) (by first | rfl | omega | ((repeat' split) <;> first | (exfalso; omega) | rfl | exact mu_mu | omega))
      · refine g_iconst C dX9_least_32 ?_
        refine g_goto C (tgt := 37) dX9_least_33 (by decide) ?_
        refine gm_call C dX9_least_37 (kX9_extreme (σ := (mu σ 0 0 0)) (t := t) (s := 1) hap hE (by show TW (σ 4); first | assumption | omega | exact hT | exact hpe | exact rt | exact rw) (by show 1 ≤ σ 4 2 ∧ σ 4 2 ≤ 4; first | assumption | omega | exact hT | exact hpe | exact rt | exact rw) (by first | assumption | omega | exact hT | exact hpe | exact rt | exact rw) (by first | assumption | omega | exact hT | exact hpe | exact rt | exact rw)) mw_X9_extreme wl_X9_241 (by decide) (by decide) rfl rfl (by simp [Value.category]) ?_
        refine g_cI (b := (extF (σ 4) t 1 (σ 4 2 - 1).toNat)) (by first | rfl | (congr 1 <;> first | rfl | exact over_out (by omega)) | (congr 2 <;> first | rfl | exact over_out (by omega)) | simp [mu_app, mr_app]) ?_
        exact hret _ _ _ _ dX9_least_40 (by first | rfl | omega | ((repeat' split) <;> first | (exfalso; omega) | rfl | exact mu_mu | omega)) (by first | rfl | omega | ((repeat' split) <;> first | (exfalso; omega) | rfl | exact mu_mu | omega))
    · refine g_ldc C (n := (-1000001)) wk_X9_64 (by decide +kernel) dX9_least_23 ?_
      exact hret _ _ _ _ dX9_least_25 (by first | rfl | omega | ((repeat' split) <;> first | (exfalso; omega) | rfl | exact mu_mu | omega)) (by first | rfl | omega | ((repeat' split) <;> first | (exfalso; omega) | rfl | exact mu_mu | omega))
set_option maxHeartbeats 4000000 in
set_option maxRecDepth 100000 in
theorem kX9_as {l : Launch} {K : Nat → ClassId} {D : va_G} {ad : Int → Nat} {E : gEnv} {σ : Mem} {p k : Int} (hap : Apart ad 12) (hE : gEok E) (hT : TW (σ 4)) (rp : R3 p) (rk : R3 k) : CtI l K D ad 12 (cfM ad K) E yX9_as cX9_as 3 (some .int) 2 [.ref (ad 0), .int (iI p), .int (iI k)] σ (if (0 ≤ p ∧ p ≤ σ 4 2 - 1) ∧ (0 ≤ k ∧ k ≤ 5) then (if k = 0 ∨ σ 4 (4 + p) = k ∨ (k = 1 ∧ σ 4 (4 + p) < 4) ∨ (k = 4 ∧ σ 4 (4 + p) = 5) then p else -1000013) else -1000001) (if (0 ≤ p ∧ p ≤ σ 4 2 - 1) ∧ (0 ≤ k ∧ k ≤ 5) then (if k = 0 ∨ σ 4 (4 + p) = k ∨ (k = 1 ∧ σ 4 (4 + p) < 4) ∨ (k = 4 ∧ σ 4 (4 + p) = 5) then mu (mu σ 0 0 0) 0 1 0 else mu (mu σ 0 0 0) 0 1 3) else mu σ 0 0 0) := by
  have hp : 0 ≤ σ 4 2 ∧ σ 4 2 ≤ 4 := hT.2.2.1
  have hkk := hT.2.2.2.2.1
  refine ctI_of hap hE (by decide) rfl .int (nar_i _) (fun M C hn hret => ?_)
  have C : Good l K D ad 12 E 2 cX9_as RX9 M := C
  show G M ad 12 (cfM ad K) 0 [(0, .ref (ad 0)), (1, .int (iI p)), (2, .int (iI k))] [] σ
  refine g_aload_n C dX9_as_0 (p := 0) (hi := rfl) (hv := rfl) ?_
  refine g_iconst C dX9_as_1 ?_
  refine gm_p_thrown C dX9_as_2 wf_X9_44 ?_
  refine g_aload_n C dX9_as_5 (p := 0) (hi := rfl) (hv := rfl) ?_
  refine g_iload_n C dX9_as_6 (p := 1) (hi := rfl) (hv := rfl) ?_
  refine gm_call C dX9_as_7 (kX9_isPerson (σ := (mu σ 0 0 0)) (p := p) hap hE (by show 0 ≤ σ 4 2 ∧ σ 4 2 ≤ 4; first | assumption | omega | exact hT | exact rp | exact rk) (by first | assumption | omega | exact hT | exact rp | exact rk)) mw_X9_isPerson wl_X9_226 (by decide) (by decide) rfl rfl (by simp [Value.category]) ?_
  refine g_cI (b := (if 0 ≤ p ∧ p ≤ σ 4 2 - 1 then 1 else 0)) (by first | rfl | (congr 1 <;> first | rfl | exact over_out (by omega)) | (congr 2 <;> first | rfl | exact over_out (by omega)) | simp [mu_app, mr_app]) ?_
  refine g_if_eq C (tgt := 25) dX9_as_10 (by decide) (by omega) (fun h_1 => ?_) (fun h_1 => ?_)
  · refine g_ldc C (n := (-1000001)) wk_X9_64 (by decide +kernel) dX9_as_25 ?_
    exact hret _ _ _ _ dX9_as_27 (by first | rfl | omega | ((repeat' split) <;> first | (exfalso; omega) | rfl | exact mu_mu | omega)) (by first | rfl | omega | ((repeat' split) <;> first | (exfalso; omega) | rfl | exact mu_mu | omega))
  · refine g_iload_n C dX9_as_13 (p := 2) (hi := rfl) (hv := rfl) ?_
    refine g_i2l C (by omega) dX9_as_14 ?_
    refine g_lconst C (z := 0) dX9_as_15 rfl ?_
    refine g_ldc2 C (n := 5) wk_X9_185 (by decide +kernel) dX9_as_16 ?_
    refine g_callS C dX9_as_19 (kX9_in (σ := (mu σ 0 0 0)) (v := k) (lo := 0) (hi := 5) hap hE (by first | assumption | omega | exact hT | exact rp | exact rk) (by first | assumption | omega | exact hT | exact rp | exact rk) (by first | assumption | omega | exact hT | exact rp | exact rk)) mw_X9_in wl_X9_54 (by decide) (by decide) rfl rfl (by simp [Value.category]) ?_
    refine g_if_ne C (tgt := 28) dX9_as_22 (by decide) (by omega) (fun h_2 => ?_) (fun h_2 => ?_)
    · refine g_aload_n C dX9_as_28 (p := 0) (hi := rfl) (hv := rfl) ?_
      refine g_iconst C dX9_as_29 ?_
      refine gm_p_status C dX9_as_30 wf_X9_48 ?_
      refine g_aload_n C dX9_as_33 (p := 0) (hi := rfl) (hv := rfl) ?_
      refine gm_g_town C dX9_as_34 wf_X9_19 ?_
      refine g_iconst C dX9_as_37 ?_
      refine g_iload_n C dX9_as_38 (p := 1) (hi := rfl) (hv := rfl) ?_
      refine g_iadd C dX9_as_39 ?_
      refine gm_l_town C dX9_as_40 (by omega) (by omega) ?_
      refine g_cI (b := (σ 4 (4 + p))) (by first | rfl | (rw [mr_app, if_pos rfl]; exact over_out (by omega)) | simp [mu_app, mr_app]) ?_
      refine g_iload_n C dX9_as_41 (p := 2) (hi := rfl) (hv := rfl) ?_
      refine g_callS C dX9_as_42 (kX9_isOf (σ := (mu (mu σ 0 0 0) 0 1 0)) (k := σ 4 (4 + p)) (o := k) hap hE (by have := hkk p (by omega) (by omega); omega) (by first | assumption | omega | exact hT | exact rp | exact rk)) mw_X9_isOf wl_X9_248 (by decide) (by decide) rfl rfl (by simp [Value.category]) ?_
      refine g_if_eq C (tgt := 52) dX9_as_45 (by decide) (by omega) (fun h_3 => ?_) (fun h_3 => ?_)
      · refine g_aload_n C dX9_as_52 (p := 0) (hi := rfl) (hv := rfl) ?_
        refine g_iconst C dX9_as_53 ?_
        refine gm_call C dX9_as_54 (kX9_finding (σ := (mu (mu σ 0 0 0) 0 1 0)) (k := 3) hap hE) mw_X9_finding wl_X9_65 (by decide) (by decide) rfl rfl (by simp [Value.category]) ?_
        show G M ad 12 (cfM ad K) 57 [(0, .ref (ad 0)), (1, .int (iI p)), (2, .int (iI k))] [.int (iI (-1000010 - 3))] (mu (mu (mu σ 0 0 0) 0 1 0) 0 1 3)
        exact hret _ _ _ _ dX9_as_57 (by first | rfl | omega | ((repeat' split) <;> first | (exfalso; omega) | rfl | exact mu_mu | omega)) (by first | rfl | omega | ((repeat' split) <;> first | (exfalso; omega) | rfl | exact mu_mu | omega))
      · refine g_iload_n C dX9_as_48 (p := 1) (hi := rfl) (hv := rfl) ?_
        refine g_goto C (tgt := 57) dX9_as_49 (by decide) ?_
        exact hret _ _ _ _ dX9_as_57 (by first | rfl | omega | ((repeat' split) <;> first | (exfalso; omega) | rfl | exact mu_mu | omega)) (by first | rfl | omega | ((repeat' split) <;> first | (exfalso; omega) | rfl | exact mu_mu | omega))
    · refine g_ldc C (n := (-1000001)) wk_X9_64 (by decide +kernel) dX9_as_25 ?_
      exact hret _ _ _ _ dX9_as_27 (by first | rfl | omega | ((repeat' split) <;> first | (exfalso; omega) | rfl | exact mu_mu | omega)) (by first | rfl | omega | ((repeat' split) <;> first | (exfalso; omega) | rfl | exact mu_mu | omega))
set_option maxHeartbeats 4000000 in
set_option maxRecDepth 100000 in
theorem kX9_row {l : Launch} {K : Nat → ClassId} {D : va_G} {ad : Int → Nat} {E : gEnv} {σ : Mem} {r ln n : Int} (hap : Apart ad 12) (hE : gEok E) (hr : R3 r) (hln : R3 ln) (hnn : R3 n) : CtI l K D ad 12 (cfM ad K) E yX9_row cX9_row 5 (some .int) 2 [.ref (ad 0), .int (iI r), .int (iI ln), .int (iI n)] σ (if ¬ (0 ≤ r ∧ r ≤ 7) ∨ ¬ (0 ≤ ln ∧ ln ≤ 2) ∨ 40 < n then -1000001 else if n < 0 then -1000014 else n) (if ¬ (0 ≤ r ∧ r ≤ 7) ∨ ¬ (0 ≤ ln ∧ ln ≤ 2) ∨ 40 < n then mu σ 0 0 0 else if n < 0 then mu (mu σ 0 0 0) 0 1 4 else mr (mu (mu (mu (mu σ 0 0 0) 0 1 0) 1 r ln) 2 r n) 3 (over (σ 3) (fun _ => 0) (40 * r) (40 * r + 40))) := by
  refine ctI_of hap hE (by decide) rfl .int (nar_i _) (fun M C hn hret => ?_)
  have C : Good l K D ad 12 E 2 cX9_row RX9 M := C
  show G M ad 12 (cfM ad K) 0 [(0, .ref (ad 0)), (1, .int (iI r)), (2, .int (iI ln)), (3, .int (iI n))] [] σ
  refine g_aload_n C dX9_row_0 (p := 0) (hi := rfl) (hv := rfl) ?_
  refine g_iconst C dX9_row_1 ?_
  refine gm_p_thrown C dX9_row_2 wf_X9_44 ?_
  refine g_iload_n C dX9_row_5 (p := 1) (hi := rfl) (hv := rfl) ?_
  refine g_callS C dX9_row_6 (kX9_isRow (σ := (mu σ 0 0 0)) (r := r) hap hE (by first | assumption | omega | exact hr | exact hln | exact hnn)) mw_X9_isRow wl_X9_58 (by decide) (by decide) rfl rfl (by simp [Value.category]) ?_
  refine g_if_eq C (tgt := 30) dX9_row_9 (by decide) (by omega) (fun h_1 => ?_) (fun h_1 => ?_)
  · refine g_ldc C (n := (-1000001)) wk_X9_64 (by decide +kernel) dX9_row_30 ?_
    exact hret _ _ _ _ dX9_row_32 (by first | rfl | omega | ((repeat' split) <;> first | (exfalso; omega) | rfl | exact mu_mu | omega)) (by first | rfl | omega | ((repeat' split) <;> first | (exfalso; omega) | rfl | exact mu_mu | omega))
  · refine g_iload_n C dX9_row_12 (p := 2) (hi := rfl) (hv := rfl) ?_
    refine g_i2l C (by omega) dX9_row_13 ?_
    refine g_lconst C (z := 0) dX9_row_14 rfl ?_
    refine g_ldc2 C (n := 2) wk_X9_62 (by decide +kernel) dX9_row_15 ?_
    refine g_callS C dX9_row_18 (kX9_in (σ := (mu σ 0 0 0)) (v := ln) (lo := 0) (hi := 2) hap hE (by first | assumption | omega | exact hr | exact hln | exact hnn) (by first | assumption | omega | exact hr | exact hln | exact hnn) (by first | assumption | omega | exact hr | exact hln | exact hnn)) mw_X9_in wl_X9_54 (by decide) (by decide) rfl rfl (by simp [Value.category]) ?_
    refine g_if_eq C (tgt := 30) dX9_row_21 (by decide) (by omega) (fun h_2 => ?_) (fun h_2 => ?_)
    · refine g_ldc C (n := (-1000001)) wk_X9_64 (by decide +kernel) dX9_row_30 ?_
      exact hret _ _ _ _ dX9_row_32 (by first | rfl | omega | ((repeat' split) <;> first | (exfalso; omega) | rfl | exact mu_mu | omega)) (by first | rfl | omega | ((repeat' split) <;> first | (exfalso; omega) | rfl | exact mu_mu | omega))
    · refine g_iload_n C dX9_row_24 (p := 3) (hi := rfl) (hv := rfl) ?_
      refine (g_bipush C dX9_row_25 (by decide)) ?_
      refine g_icmp_le C (tgt := 33) dX9_row_27 (by decide) (by omega) (by omega) (fun h_3 => ?_) (fun h_3 => ?_)
      · refine g_aload_n C dX9_row_33 (p := 0) (hi := rfl) (hv := rfl) ?_
        refine g_iconst C dX9_row_34 ?_
        refine gm_p_status C dX9_row_35 wf_X9_48 ?_
        refine g_iload_n C dX9_row_38 (p := 3) (hi := rfl) (hv := rfl) ?_
        refine g_if_ge C (tgt := 48) dX9_row_39 (by decide) (by omega) (fun h_4 => ?_) (fun h_4 => ?_)
        · refine g_aload_n C dX9_row_48 (p := 0) (hi := rfl) (hv := rfl) ?_
          refine gm_g_lane C dX9_row_49 wf_X9_7 ?_
          refine g_iload_n C dX9_row_52 (p := 1) (hi := rfl) (hv := rfl) ?_
          refine g_iload_n C dX9_row_53 (p := 2) (hi := rfl) (hv := rfl) ?_
          refine gm_s_lane C dX9_row_54 (by omega) (by omega) ?_
          refine g_aload_n C dX9_row_55 (p := 0) (hi := rfl) (hv := rfl) ?_
          refine gm_g_many C dX9_row_56 wf_X9_13 ?_
          refine g_iload_n C dX9_row_59 (p := 1) (hi := rfl) (hv := rfl) ?_
          refine g_iload_n C dX9_row_60 (p := 3) (hi := rfl) (hv := rfl) ?_
          refine gm_s_many C dX9_row_61 (by omega) (by omega) ?_
          refine g_iconst C dX9_row_62 ?_
          refine g_istore C hn dX9_row_63 rfl rfl ?_
          have L65 : ∀ i : Nat, i ≤ 40 → ∀ (x4 : Int), ∀ (τ65 : Mem), x4 = (i : Int) → τ65 = (mr (mu (mu (mu (mu σ 0 0 0) 0 1 0) 1 r ln) 2 r n) 3 (over (σ 3) (fun _ => 0) (40 * r) (40 * r + (i : Int)))) → G M ad 12 (cfM ad K) 65 [(0, .ref (ad 0)), (1, .int (iI r)), (2, .int (iI ln)), (3, .int (iI n)), (4, .int (iI x4))] [] τ65 := by
            refine loopUp 40 ?_
            rintro i hi ihi x4 τ65 rfl rfl
            refine g_iload C dX9_row_65 (p := 4) rfl ?_
            refine (g_bipush C dX9_row_67 (by decide)) ?_
            refine g_icmp_ge C (tgt := 91) dX9_row_69 (by decide) (by omega) (by omega) (fun h_5 => ?_) (fun h_5 => ?_)
            · have hiN : i = 40 := by omega
              refine g_iload_n C dX9_row_91 (p := 3) (hi := rfl) (hv := rfl) ?_
              exact hret _ _ _ _ dX9_row_92 (by (try subst hiN); first | rfl | omega | ((repeat' split) <;> first | (exfalso; omega) | rfl | exact mu_mu | omega)) (by (try subst hiN); first | rfl | omega | ((repeat' split) <;> first | (exfalso; omega) | rfl | exact mu_mu | omega))
            · refine g_aload_n C dX9_row_72 (p := 0) (hi := rfl) (hv := rfl) ?_
              refine gm_g_item C dX9_row_73 wf_X9_16 ?_
              refine (g_bipush C dX9_row_76 (by decide)) ?_
              refine g_iload_n C dX9_row_78 (p := 1) (hi := rfl) (hv := rfl) ?_
              refine g_imul C dX9_row_79 ?_
              refine g_iload C dX9_row_80 (p := 4) rfl ?_
              refine g_iadd C dX9_row_82 ?_
              refine g_iconst C dX9_row_83 ?_
              refine gm_s_item C dX9_row_84 (by omega) (by omega) ?_
              refine g_iinc C hn dX9_row_85 (p := 4) rfl rfl rfl ?_
              refine g_goto C (tgt := 65) dX9_row_88 (by decide) ?_
              refine g_sub [1, 2, 3, 4, 0] rfl ?_
              exact ihi (by omega) _ _ (by first | rfl | omega) (by exact over_step (by omega) (by omega) rfl)
          refine g_sub [1, 2, 3, 4, 0] rfl ?_
          exact L65 0 (Nat.zero_le _) _ _ (by first | rfl | omega | simp) (by exact over_init (by omega))
        · refine g_aload_n C dX9_row_42 (p := 0) (hi := rfl) (hv := rfl) ?_
          refine g_iconst C dX9_row_43 ?_
          refine gm_call C dX9_row_44 (kX9_finding (σ := (mu (mu σ 0 0 0) 0 1 0)) (k := 4) hap hE) mw_X9_finding wl_X9_65 (by decide) (by decide) rfl rfl (by simp [Value.category]) ?_
          show G M ad 12 (cfM ad K) 47 [(0, .ref (ad 0)), (1, .int (iI r)), (2, .int (iI ln)), (3, .int (iI n))] [.int (iI (-1000010 - 4))] (mu (mu (mu σ 0 0 0) 0 1 0) 0 1 4)
          exact hret _ _ _ _ dX9_row_47 (by (try subst hiN); first | rfl | omega | ((repeat' split) <;> first | (exfalso; omega) | rfl | exact mu_mu | omega)) (by (try subst hiN); first | rfl | omega | ((repeat' split) <;> first | (exfalso; omega) | rfl | exact mu_mu | omega))
      · refine g_ldc C (n := (-1000001)) wk_X9_64 (by decide +kernel) dX9_row_30 ?_
        exact hret _ _ _ _ dX9_row_32 (by (try subst hiN); first | rfl | omega | ((repeat' split) <;> first | (exfalso; omega) | rfl | exact mu_mu | omega)) (by (try subst hiN); first | rfl | omega | ((repeat' split) <;> first | (exfalso; omega) | rfl | exact mu_mu | omega))
set_option maxHeartbeats 4000000 in
set_option maxRecDepth 100000 in
theorem kX9_drop {l : Launch} {K : Nat → ClassId} {D : va_G} {ad : Int → Nat} {E : gEnv} {σ : Mem} {r : Int} (hap : Apart ad 12) (hE : gEok E) (hm : ∀ r : Int, 0 ≤ r → r ≤ 7 → (-1 ≤ σ 1 r ∧ σ 1 r ≤ 2) ∧ (0 ≤ σ 2 r ∧ σ 2 r ≤ 40)) (rr : R3 r) : CtI l K D ad 12 (cfM ad K) E yX9_drop cX9_drop 2 (some .int) 2 [.ref (ad 0), .int (iI r)] σ (if (0 ≤ r ∧ r ≤ 7) then (if σ 1 r < 0 then -1000011 else σ 2 r) else -1000001) (if (0 ≤ r ∧ r ≤ 7) then (if σ 1 r < 0 then mu (mu σ 0 0 0) 0 1 1 else mu (mu (mu σ 0 0 0) 0 1 0) 1 r (-1)) else mu σ 0 0 0) := by
  have hmr := hm r
  refine ctI_of hap hE (by decide) rfl .int (nar_i _) (fun M C hn hret => ?_)
  have C : Good l K D ad 12 E 2 cX9_drop RX9 M := C
  show G M ad 12 (cfM ad K) 0 [(0, .ref (ad 0)), (1, .int (iI r))] [] σ
  refine g_aload_n C dX9_drop_0 (p := 0) (hi := rfl) (hv := rfl) ?_
  refine g_iconst C dX9_drop_1 ?_
  refine gm_p_thrown C dX9_drop_2 wf_X9_44 ?_
  refine g_iload_n C dX9_drop_5 (p := 1) (hi := rfl) (hv := rfl) ?_
  refine g_callS C dX9_drop_6 (kX9_isRow (σ := (mu σ 0 0 0)) (r := r) hap hE (by first | assumption | omega | exact hm | exact rr)) mw_X9_isRow wl_X9_58 (by decide) (by decide) rfl rfl (by simp [Value.category]) ?_
  refine g_if_ne C (tgt := 15) dX9_drop_9 (by decide) (by omega) (fun h_1 => ?_) (fun h_1 => ?_)
  · refine g_aload_n C dX9_drop_15 (p := 0) (hi := rfl) (hv := rfl) ?_
    refine g_iconst C dX9_drop_16 ?_
    refine gm_p_status C dX9_drop_17 wf_X9_48 ?_
    refine g_aload_n C dX9_drop_20 (p := 0) (hi := rfl) (hv := rfl) ?_
    refine gm_g_lane C dX9_drop_21 wf_X9_7 ?_
    refine g_iload_n C dX9_drop_24 (p := 1) (hi := rfl) (hv := rfl) ?_
    refine gm_l_lane C dX9_drop_25 (by omega) (by omega) ?_
    refine g_cI (b := (σ 1 r)) (by first | rfl | (rw [mr_app, if_pos rfl]; exact over_out (by omega)) | simp [mu_app, mr_app]) ?_
    refine g_if_ge C (tgt := 35) dX9_drop_26 (by decide) (by have := hmr (by omega) (by omega); omega) (fun h_2 => ?_) (fun h_2 => ?_)
    · refine g_aload_n C dX9_drop_35 (p := 0) (hi := rfl) (hv := rfl) ?_
      refine gm_g_lane C dX9_drop_36 wf_X9_7 ?_
      refine g_iload_n C dX9_drop_39 (p := 1) (hi := rfl) (hv := rfl) ?_
      refine g_iconst C dX9_drop_40 ?_
      refine gm_s_lane C dX9_drop_41 (by omega) (by omega) ?_
      refine g_aload_n C dX9_drop_42 (p := 0) (hi := rfl) (hv := rfl) ?_
      refine gm_g_many C dX9_drop_43 wf_X9_13 ?_
      refine g_iload_n C dX9_drop_46 (p := 1) (hi := rfl) (hv := rfl) ?_
      refine gm_l_many C dX9_drop_47 (by omega) (by omega) ?_
      refine g_cI (b := (σ 2 r)) (by first | rfl | (rw [mr_app, if_pos rfl]; exact over_out (by omega)) | simp [mu_app, mr_app]) ?_
      exact hret _ _ _ _ dX9_drop_48 (by first | rfl | omega | ((repeat' split) <;> first | (exfalso; omega) | rfl | exact mu_mu | omega)) (by first | rfl | omega | ((repeat' split) <;> first | (exfalso; omega) | rfl | exact mu_mu | omega))
    · refine g_aload_n C dX9_drop_29 (p := 0) (hi := rfl) (hv := rfl) ?_
      refine g_iconst C dX9_drop_30 ?_
      refine gm_call C dX9_drop_31 (kX9_finding (σ := (mu (mu σ 0 0 0) 0 1 0)) (k := 1) hap hE) mw_X9_finding wl_X9_65 (by decide) (by decide) rfl rfl (by simp [Value.category]) ?_
      show G M ad 12 (cfM ad K) 34 [(0, .ref (ad 0)), (1, .int (iI r))] [.int (iI (-1000010 - 1))] (mu (mu (mu σ 0 0 0) 0 1 0) 0 1 1)
      exact hret _ _ _ _ dX9_drop_34 (by first | rfl | omega | ((repeat' split) <;> first | (exfalso; omega) | rfl | exact mu_mu | omega)) (by first | rfl | omega | ((repeat' split) <;> first | (exfalso; omega) | rfl | exact mu_mu | omega))
  · refine g_ldc C (n := (-1000001)) wk_X9_64 (by decide +kernel) dX9_drop_12 ?_
    exact hret _ _ _ _ dX9_drop_14 (by first | rfl | omega | ((repeat' split) <;> first | (exfalso; omega) | rfl | exact mu_mu | omega)) (by first | rfl | omega | ((repeat' split) <;> first | (exfalso; omega) | rfl | exact mu_mu | omega))
set_option maxHeartbeats 4000000 in
set_option maxRecDepth 100000 in
theorem kX9_set {l : Launch} {K : Nat → ClassId} {D : va_G} {ad : Int → Nat} {E : gEnv} {σ : Mem} {r i v : Int} (hap : Apart ad 12) (hE : gEok E) (hm : ∀ r : Int, 0 ≤ r → r ≤ 7 → (-1 ≤ σ 1 r ∧ σ 1 r ≤ 2) ∧ (0 ≤ σ 2 r ∧ σ 2 r ≤ 40)) (rr : R3 r) (ri : R3 i) (rv : R3 v) : CtI l K D ad 12 (cfM ad K) E yX9_set cX9_set 4 (some .int) 2 [.ref (ad 0), .int (iI r), .int (iI i), .int (iI v)] σ (if (0 ≤ r ∧ r ≤ 7) then (if σ 1 r < 0 then -1000011 else if ¬ (0 ≤ i ∧ i ≤ σ 2 r - 1) then -1000012 else (if σ 1 r = 0 then oI2B v else if σ 1 r = 1 then oI2S v else v)) else -1000001) (if (0 ≤ r ∧ r ≤ 7) then (if σ 1 r < 0 then mu (mu σ 0 0 0) 0 1 1 else if ¬ (0 ≤ i ∧ i ≤ σ 2 r - 1) then mu (mu σ 0 0 0) 0 1 2 else mu (mu (mu σ 0 0 0) 0 1 0) 3 (40 * r + i) (if σ 1 r = 0 then oI2B v else if σ 1 r = 1 then oI2S v else v)) else mu σ 0 0 0) := by
  have hmr := hm r
  refine ctI_of hap hE (by decide) rfl .int (nar_i _) (fun M C hn hret => ?_)
  have C : Good l K D ad 12 E 2 cX9_set RX9 M := C
  show G M ad 12 (cfM ad K) 0 [(0, .ref (ad 0)), (1, .int (iI r)), (2, .int (iI i)), (3, .int (iI v))] [] σ
  refine g_aload_n C dX9_set_0 (p := 0) (hi := rfl) (hv := rfl) ?_
  refine g_iconst C dX9_set_1 ?_
  refine gm_p_thrown C dX9_set_2 wf_X9_44 ?_
  refine g_iload_n C dX9_set_5 (p := 1) (hi := rfl) (hv := rfl) ?_
  refine g_callS C dX9_set_6 (kX9_isRow (σ := (mu σ 0 0 0)) (r := r) hap hE (by first | assumption | omega | exact hm | exact rr | exact ri | exact rv)) mw_X9_isRow wl_X9_58 (by decide) (by decide) rfl rfl (by simp [Value.category]) ?_
  refine g_if_ne C (tgt := 15) dX9_set_9 (by decide) (by omega) (fun h_1 => ?_) (fun h_1 => ?_)
  · refine g_aload_n C dX9_set_15 (p := 0) (hi := rfl) (hv := rfl) ?_
    refine g_iconst C dX9_set_16 ?_
    refine gm_p_status C dX9_set_17 wf_X9_48 ?_
    refine g_aload_n C dX9_set_20 (p := 0) (hi := rfl) (hv := rfl) ?_
    refine gm_g_lane C dX9_set_21 wf_X9_7 ?_
    refine g_iload_n C dX9_set_24 (p := 1) (hi := rfl) (hv := rfl) ?_
    refine gm_l_lane C dX9_set_25 (by first | omega | (have := hmr (by omega) (by omega); omega)) (by first | omega | (have := hmr (by omega) (by omega); omega)) ?_
    refine g_cI (b := (σ 1 r)) (by first | rfl | (rw [mr_app, if_pos rfl]; exact over_out (by omega)) | simp [mu_app, mr_app]) ?_
    refine g_if_ge C (tgt := 35) dX9_set_26 (by decide) (by have := hmr (by omega) (by omega); omega) (fun h_2 => ?_) (fun h_2 => ?_)
    · refine g_iload_n C dX9_set_35 (p := 2) (hi := rfl) (hv := rfl) ?_
      refine g_i2l C (by omega) dX9_set_36 ?_
      refine g_lconst C (z := 0) dX9_set_37 rfl ?_
      refine g_aload_n C dX9_set_38 (p := 0) (hi := rfl) (hv := rfl) ?_
      refine gm_g_many C dX9_set_39 wf_X9_13 ?_
      refine g_iload_n C dX9_set_42 (p := 1) (hi := rfl) (hv := rfl) ?_
      refine gm_l_many C dX9_set_43 (by first | omega | (have := hmr (by omega) (by omega); omega)) (by first | omega | (have := hmr (by omega) (by omega); omega)) ?_
      refine g_cI (b := (σ 2 r)) (by first | rfl | (rw [mr_app, if_pos rfl]; exact over_out (by omega)) | simp [mu_app, mr_app]) ?_
      refine g_iconst C dX9_set_44 ?_
      refine g_isub C dX9_set_45 ?_
      refine g_i2l C (by have := hmr (by omega) (by omega); omega) dX9_set_46 ?_
      refine g_callS C dX9_set_47 (kX9_in (σ := (mu (mu σ 0 0 0) 0 1 0)) (v := i) (lo := 0) (hi := (σ 2 r) - 1) hap hE (by first | assumption | omega | exact hm | exact rr | exact ri | exact rv) (by first | assumption | omega | exact hm | exact rr | exact ri | exact rv) (by first | omega | (have := hmr (by omega) (by omega); omega))) mw_X9_in wl_X9_54 (by decide) (by decide) rfl rfl (by simp [Value.category]) ?_
      refine g_if_ne C (tgt := 59) dX9_set_50 (by decide) (by omega) (fun h_3 => ?_) (fun h_3 => ?_)
      · refine g_aload_n C dX9_set_59 (p := 0) (hi := rfl) (hv := rfl) ?_
        refine gm_g_item C dX9_set_60 wf_X9_16 ?_
        refine (g_bipush C dX9_set_63 (by decide)) ?_
        refine g_iload_n C dX9_set_65 (p := 1) (hi := rfl) (hv := rfl) ?_
        refine g_imul C dX9_set_66 ?_
        refine g_iload_n C dX9_set_67 (p := 2) (hi := rfl) (hv := rfl) ?_
        refine g_iadd C dX9_set_68 ?_
        refine g_aload_n C dX9_set_69 (p := 0) (hi := rfl) (hv := rfl) ?_
        refine gm_g_lane C dX9_set_70 wf_X9_7 ?_
        refine g_iload_n C dX9_set_73 (p := 1) (hi := rfl) (hv := rfl) ?_
        refine gm_l_lane C dX9_set_74 (by first | omega | (have := hmr (by omega) (by omega); omega)) (by first | omega | (have := hmr (by omega) (by omega); omega)) ?_
        refine g_cI (b := (σ 1 r)) (by first | rfl | (rw [mr_app, if_pos rfl]; exact over_out (by omega)) | simp [mu_app, mr_app]) ?_
        refine g_if_ne C (tgt := 83) dX9_set_75 (by decide) (by have := hmr (by omega) (by omega); omega) (fun h_4 => ?_) (fun h_4 => ?_)
        · refine g_aload_n C dX9_set_83 (p := 0) (hi := rfl) (hv := rfl) ?_
          refine gm_g_lane C dX9_set_84 wf_X9_7 ?_
          refine g_iload_n C dX9_set_87 (p := 1) (hi := rfl) (hv := rfl) ?_
          refine gm_l_lane C dX9_set_88 (by first | omega | (have := hmr (by omega) (by omega); omega)) (by first | omega | (have := hmr (by omega) (by omega); omega)) ?_
          refine g_cI (b := (σ 1 r)) (by first | rfl | (rw [mr_app, if_pos rfl]; exact over_out (by omega)) | simp [mu_app, mr_app]) ?_
          refine g_iconst C dX9_set_89 ?_
          refine g_icmp_ne C (tgt := 98) dX9_set_90 (by decide) (by have := hmr (by omega) (by omega); omega) (by omega) (fun h_5 => ?_) (fun h_5 => ?_)
          · refine g_iload_n C dX9_set_98 (p := 3) (hi := rfl) (hv := rfl) ?_
            refine gm_s_item C dX9_set_99 (by first | omega | (have := hmr (by omega) (by omega); omega)) (by first | omega | (have := hmr (by omega) (by omega); omega)) ?_
            refine g_aload_n C dX9_set_100 (p := 0) (hi := rfl) (hv := rfl) ?_
            refine gm_g_item C dX9_set_101 wf_X9_16 ?_
            refine (g_bipush C dX9_set_104 (by decide)) ?_
            refine g_iload_n C dX9_set_106 (p := 1) (hi := rfl) (hv := rfl) ?_
            refine g_imul C dX9_set_107 ?_
            refine g_iload_n C dX9_set_108 (p := 2) (hi := rfl) (hv := rfl) ?_
            refine g_iadd C dX9_set_109 ?_
            refine gm_l_item C dX9_set_110 (by first | omega | (have := hmr (by omega) (by omega); omega)) (by first | omega | (have := hmr (by omega) (by omega); omega)) ?_
            refine g_cI (b := v) (by first | rfl | (rw [mr_app, if_pos rfl]; exact over_out (by omega)) | simp [mu_app, mr_app]) ?_
            exact hret _ _ _ _ dX9_set_111 (by first | rfl | omega | ((repeat' split) <;> first | (exfalso; omega) | rfl | exact mu_mu | omega)) (by first | rfl | omega | ((repeat' split) <;> first | (exfalso; omega) | rfl | exact mu_mu | omega))
          · refine g_iload_n C dX9_set_93 (p := 3) (hi := rfl) (hv := rfl) ?_
            refine g_i2s C dX9_set_94 ?_
            refine g_goto C (tgt := 99) dX9_set_95 (by decide) ?_
            refine gm_s_item C dX9_set_99 (by first | omega | (have := hmr (by omega) (by omega); omega)) (by first | omega | (have := hmr (by omega) (by omega); omega)) ?_
            refine g_aload_n C dX9_set_100 (p := 0) (hi := rfl) (hv := rfl) ?_
            refine gm_g_item C dX9_set_101 wf_X9_16 ?_
            refine (g_bipush C dX9_set_104 (by decide)) ?_
            refine g_iload_n C dX9_set_106 (p := 1) (hi := rfl) (hv := rfl) ?_
            refine g_imul C dX9_set_107 ?_
            refine g_iload_n C dX9_set_108 (p := 2) (hi := rfl) (hv := rfl) ?_
            refine g_iadd C dX9_set_109 ?_
            refine gm_l_item C dX9_set_110 (by first | omega | (have := hmr (by omega) (by omega); omega)) (by first | omega | (have := hmr (by omega) (by omega); omega)) ?_
            refine g_cI (b := (oI2S v)) (by first | rfl | (rw [mr_app, if_pos rfl]; exact over_out (by omega)) | simp [mu_app, mr_app]) ?_
            exact hret _ _ _ _ dX9_set_111 (by first | rfl | omega | ((repeat' split) <;> first | (exfalso; omega) | rfl | exact mu_mu | omega)) (by first | rfl | omega | ((repeat' split) <;> first | (exfalso; omega) | rfl | exact mu_mu | omega))
        · refine g_iload_n C dX9_set_78 (p := 3) (hi := rfl) (hv := rfl) ?_
          refine g_i2b C dX9_set_79 ?_
          refine g_goto C (tgt := 99) dX9_set_80 (by decide) ?_
          refine gm_s_item C dX9_set_99 (by first | omega | (have := hmr (by omega) (by omega); omega)) (by first | omega | (have := hmr (by omega) (by omega); omega)) ?_
          refine g_aload_n C dX9_set_100 (p := 0) (hi := rfl) (hv := rfl) ?_
          refine gm_g_item C dX9_set_101 wf_X9_16 ?_
          refine (g_bipush C dX9_set_104 (by decide)) ?_
          refine g_iload_n C dX9_set_106 (p := 1) (hi := rfl) (hv := rfl) ?_
          refine g_imul C dX9_set_107 ?_
          refine g_iload_n C dX9_set_108 (p := 2) (hi := rfl) (hv := rfl) ?_
          refine g_iadd C dX9_set_109 ?_
          refine gm_l_item C dX9_set_110 (by first | omega | (have := hmr (by omega) (by omega); omega)) (by first | omega | (have := hmr (by omega) (by omega); omega)) ?_
          refine g_cI (b := (oI2B v)) (by first | rfl | (rw [mr_app, if_pos rfl]; exact over_out (by omega)) | simp [mu_app, mr_app]) ?_
          exact hret _ _ _ _ dX9_set_111 (by first | rfl | omega | ((repeat' split) <;> first | (exfalso; omega) | rfl | exact mu_mu | omega)) (by first | rfl | omega | ((repeat' split) <;> first | (exfalso; omega) | rfl | exact mu_mu | omega))
      · refine g_aload_n C dX9_set_53 (p := 0) (hi := rfl) (hv := rfl) ?_
        refine g_iconst C dX9_set_54 ?_
        refine gm_call C dX9_set_55 (kX9_finding (σ := (mu (mu σ 0 0 0) 0 1 0)) (k := 2) hap hE) mw_X9_finding wl_X9_65 (by decide) (by decide) rfl rfl (by simp [Value.category]) ?_
        show G M ad 12 (cfM ad K) 58 [(0, .ref (ad 0)), (1, .int (iI r)), (2, .int (iI i)), (3, .int (iI v))] [.int (iI (-1000010 - 2))] (mu (mu (mu σ 0 0 0) 0 1 0) 0 1 2)
        exact hret _ _ _ _ dX9_set_58 (by first | rfl | omega | ((repeat' split) <;> first | (exfalso; omega) | rfl | exact mu_mu | omega)) (by first | rfl | omega | ((repeat' split) <;> first | (exfalso; omega) | rfl | exact mu_mu | omega))
    · refine g_aload_n C dX9_set_29 (p := 0) (hi := rfl) (hv := rfl) ?_
      refine g_iconst C dX9_set_30 ?_
      refine gm_call C dX9_set_31 (kX9_finding (σ := (mu (mu σ 0 0 0) 0 1 0)) (k := 1) hap hE) mw_X9_finding wl_X9_65 (by decide) (by decide) rfl rfl (by simp [Value.category]) ?_
      show G M ad 12 (cfM ad K) 34 [(0, .ref (ad 0)), (1, .int (iI r)), (2, .int (iI i)), (3, .int (iI v))] [.int (iI (-1000010 - 1))] (mu (mu (mu σ 0 0 0) 0 1 0) 0 1 1)
      exact hret _ _ _ _ dX9_set_34 (by first | rfl | omega | ((repeat' split) <;> first | (exfalso; omega) | rfl | exact mu_mu | omega)) (by first | rfl | omega | ((repeat' split) <;> first | (exfalso; omega) | rfl | exact mu_mu | omega))
  · refine g_ldc C (n := (-1000001)) wk_X9_64 (by decide +kernel) dX9_set_12 ?_
    exact hret _ _ _ _ dX9_set_14 (by first | rfl | omega | ((repeat' split) <;> first | (exfalso; omega) | rfl | exact mu_mu | omega)) (by first | rfl | omega | ((repeat' split) <;> first | (exfalso; omega) | rfl | exact mu_mu | omega))
set_option maxHeartbeats 4000000 in
set_option maxRecDepth 100000 in
theorem kX9_ore {l : Launch} {K : Nat → ClassId} {D : va_G} {ad : Int → Nat} {E : gEnv} {σ : Mem} {t r : Int} (hap : Apart ad 12) (hE : gEok E) (hT : TW (σ 4)) (hm : ∀ r : Int, 0 ≤ r → r ≤ 7 → (-1 ≤ σ 1 r ∧ σ 1 r ≤ 2) ∧ (0 ≤ σ 2 r ∧ σ 2 r ≤ 40)) (hit : ∀ j : Int, R3 (σ 3 j)) (rt : R3 t) (rr : R3 r) : CtI l K D ad 12 (cfM ad K) E yX9_ore cX9_ore 6 (some .int) 3 [.ref (ad 0), .int (iI t), .int (iI r)] σ (if (0 ≤ t ∧ t ≤ σ 4 3 - 1) ∧ (0 ≤ r ∧ r ≤ 7) then (if okB σ r then orcF (fun p => if (over (σ 8) (fun p => σ 3 (40 * r + p)) 0 (σ 4 2)) p < owF (σ 4) t p then 1 else 0) (σ 4 2).toNat else barR σ r) else -1000001) (if (0 ≤ t ∧ t ≤ σ 4 3 - 1) ∧ (0 ≤ r ∧ r ≤ 7) then barM (mu σ 0 0 0) r else mu σ 0 0 0) := by
  have hp : 0 ≤ σ 4 2 ∧ σ 4 2 ≤ 4 := hT.2.2.1
  have ht3 : 0 ≤ σ 4 3 ∧ σ 4 3 ≤ 5 := hT.2.2.2.1
  refine ctI_of hap hE (by decide) rfl .int (nar_i _) (fun M C hn hret => ?_)
  have C : Good l K D ad 12 E 3 cX9_ore RX9 M := C
  show G M ad 12 (cfM ad K) 0 [(0, .ref (ad 0)), (1, .int (iI t)), (2, .int (iI r))] [] σ
  refine g_aload_n C dX9_ore_0 (p := 0) (hi := rfl) (hv := rfl) ?_
  refine g_iconst C dX9_ore_1 ?_
  refine gm_p_thrown C dX9_ore_2 wf_X9_44 ?_
  refine g_aload_n C dX9_ore_5 (p := 0) (hi := rfl) (hv := rfl) ?_
  refine g_iload_n C dX9_ore_6 (p := 1) (hi := rfl) (hv := rfl) ?_
  refine gm_call C dX9_ore_7 (kX9_isThing (σ := (mu σ 0 0 0)) (t := t) hap hE (by show 0 ≤ σ 4 3 ∧ σ 4 3 ≤ 5; first | assumption | omega | exact hT | exact hm | exact hit | exact rt | exact rr) (by first | assumption | omega | exact hT | exact hm | exact hit | exact rt | exact rr)) mw_X9_isThing wl_X9_210 (by decide) (by decide) rfl rfl (by simp [Value.category]) ?_
  refine g_cI (b := (if 0 ≤ t ∧ t ≤ σ 4 3 - 1 then 1 else 0)) (by first | rfl | (congr 1 <;> first | rfl | exact over_out (by omega)) | (congr 2 <;> first | rfl | exact over_out (by omega)) | simp [mu_app, mr_app]) ?_
  refine g_if_eq C (tgt := 20) dX9_ore_10 (by decide) (by omega) (fun h_1 => ?_) (fun h_1 => ?_)
  · refine g_ldc C (n := (-1000001)) wk_X9_64 (by decide +kernel) dX9_ore_20 ?_
    exact hret _ _ _ _ dX9_ore_22 (by (try subst hiN); (repeat' split) <;> first | (exfalso; omega) | rfl | omega) (by (repeat' split) <;> first | (exfalso; omega) | rfl | exact (barM_ok (σ := mu σ 0 0 0) hbx).symm)
  · refine g_iload_n C dX9_ore_13 (p := 2) (hi := rfl) (hv := rfl) ?_
    refine g_callS C dX9_ore_14 (kX9_isRow (σ := (mu σ 0 0 0)) (r := r) hap hE (by first | assumption | omega | exact hT | exact hm | exact hit | exact rt | exact rr)) mw_X9_isRow wl_X9_58 (by decide) (by decide) rfl rfl (by simp [Value.category]) ?_
    refine g_if_ne C (tgt := 23) dX9_ore_17 (by decide) (by omega) (fun h_2 => ?_) (fun h_2 => ?_)
    · refine g_aload_n C dX9_ore_23 (p := 0) (hi := rfl) (hv := rfl) ?_
      refine g_iload_n C dX9_ore_24 (p := 2) (hi := rfl) (hv := rfl) ?_
      by_cases hb_3 : okB (mu σ 0 0 0) r
      · have hbx : okB σ r := hb_3
        have hsw := barSW hp.1 hbx
        refine gm_call C dX9_ore_25 (kX9_barred_ok (σ := (mu σ 0 0 0)) (r := r) hap hE (by show 0 ≤ σ 4 2 ∧ σ 4 2 ≤ 4; first | assumption | omega | exact hT | exact hm | exact hit | exact rt | exact rr) (by show ∀ r : Int, 0 ≤ r → r ≤ 7 → (-1 ≤ (σ 1) r ∧ (σ 1) r ≤ 2) ∧ (0 ≤ (σ 2) r ∧ (σ 2) r ≤ 40); first | assumption | omega | exact hT | exact hm | exact hit | exact rt | exact rr) (by show ∀ j : Int, R3 ((σ 3) j); first | assumption | omega | exact hT | exact hm | exact hit | exact rt | exact rr) (by first | assumption | omega | exact hT | exact hm | exact hit | exact rt | exact rr) (by first | assumption | omega | exact hT | exact hm | exact hit | exact rt | exact rr)) mw_X9_barred wl_X9_217 (by decide) (by decide) rfl rfl (by simp [Value.category]) ?_
        show G M ad 12 (cfM ad K) 28 [(0, .ref (ad 0)), (1, .int (iI t)), (2, .int (iI r))] [.int (iI 0)] (mu (mr (mu σ 0 0 0) 8 (over (σ 8) (fun p => (σ 3) (40 * r + p)) 0 (σ 4 2))) 0 1 0)
        refine g_istore_n C hn dX9_ore_28 rfl rfl rfl ?_
        refine g_iload_n C dX9_ore_29 (p := 0) (hi := rfl) (hv := rfl) ?_
        refine g_if_ge C (tgt := 35) dX9_ore_30 (by decide) (by omega) (fun h_4 => ?_) (fun h_4 => ?_)
        · refine g_iconst C dX9_ore_35 ?_
          refine g_istore C hn dX9_ore_36 rfl rfl ?_
          refine g_iconst C dX9_ore_38 ?_
          refine g_istore C hn dX9_ore_39 rfl rfl ?_
          have L41 : ∀ i : Nat, i ≤ ((σ 4 2).toNat) → ∀ (x4 x5 : Int), x4 = orcF (fun p => if (over (σ 8) (fun p => σ 3 (40 * r + p)) 0 (σ 4 2)) p < owF (σ 4) t p then 1 else 0) i → x5 = (i : Int) → G M ad 12 (cfM ad K) 41 [(0, .ref (ad 0)), (1, .int (iI t)), (2, .int (iI r)), (3, .int (iI 0)), (4, .int (iI x4)), (5, .int (iI x5))] [] (mu (mr (mu σ 0 0 0) 8 (over (σ 8) (fun p => (σ 3) (40 * r + p)) 0 (σ 4 2))) 0 1 0) := by
            refine loopUp ((σ 4 2).toNat) ?_
            rintro i hi ihi x4 x5 rfl rfl
            have how := owF_in (σ 4) t (i : Int)
            refine g_iload C dX9_ore_41 (p := 5) rfl ?_
            refine g_aload_n C dX9_ore_43 (p := 0) (hi := rfl) (hv := rfl) ?_
            refine gm_g_town C dX9_ore_44 wf_X9_19 ?_
            refine g_iconst C dX9_ore_47 ?_
            refine gm_l_town C dX9_ore_48 (by omega) (by omega) ?_
            refine g_cI (b := (σ 4 2)) (by first | rfl | (rw [mr_app, if_pos rfl]; exact over_out (by omega)) | simp [mu_app, mr_app]) ?_
            refine g_icmp_ge C (tgt := 88) dX9_ore_49 (by decide) (by omega) (by omega) (fun h_5 => ?_) (fun h_5 => ?_)
            · have hiN : i = ((σ 4 2).toNat) := by omega
              refine g_iload C dX9_ore_88 (p := 4) rfl ?_
              exact hret _ _ _ _ dX9_ore_90 (by (try subst hiN); (try subst hiN); (repeat' split) <;> first | (exfalso; omega) | rfl | omega) (by (try subst hiN); (repeat' split) <;> first | (exfalso; omega) | rfl | exact (barM_ok (σ := mu σ 0 0 0) hbx).symm)
            · refine g_iload C dX9_ore_52 (p := 4) rfl ?_
              refine g_aload_n C dX9_ore_54 (p := 0) (hi := rfl) (hv := rfl) ?_
              refine gm_g_says C dX9_ore_55 wf_X9_31 ?_
              refine g_iload C dX9_ore_58 (p := 5) rfl ?_
              refine gm_l_says C dX9_ore_60 (by omega) (by omega) ?_
              refine g_cI (b := ((over (σ 8) (fun p => (σ 3) (40 * r + p)) 0 (σ 4 2)) (i : Int))) (by first | rfl | (rw [mr_app, if_pos rfl]; exact over_out (by omega)) | simp [mu_app, mr_app]) ?_
              refine g_aload_n C dX9_ore_61 (p := 0) (hi := rfl) (hv := rfl) ?_
              refine g_iload_n C dX9_ore_62 (p := 1) (hi := rfl) (hv := rfl) ?_
              refine g_iload C dX9_ore_63 (p := 5) rfl ?_
              refine gm_call C dX9_ore_65 (kX9_ownOf (σ := (mu (mr (mu σ 0 0 0) 8 (over (σ 8) (fun p => (σ 3) (40 * r + p)) 0 (σ 4 2))) 0 1 0)) (t := t) (p := (i : Int)) hap hE (by show TW (σ 4); first | assumption | omega | exact hT | exact hm | exact hit | exact rt | exact rr) (by first | assumption | omega | exact hT | exact hm | exact hit | exact rt | exact rr) (by first | assumption | omega | exact hT | exact hm | exact hit | exact rt | exact rr)) mw_X9_ownOf wl_X9_182 (by decide) (by decide) rfl rfl (by simp [Value.category]) ?_
              refine g_cI (b := (owF (σ 4) t (i : Int))) (by first | rfl | (congr 1 <;> first | rfl | exact over_out (by omega)) | (congr 2 <;> first | rfl | exact over_out (by omega)) | simp [mu_app, mr_app]) ?_
              refine g_icmp_ge C (tgt := 78) dX9_ore_68 (by decide) (by have := hsw (i : Int) (by omega) (by omega); omega) (by omega) (fun h_6 => ?_) (fun h_6 => ?_)
              · refine g_iconst C dX9_ore_78 ?_
                refine g_ior C dX9_ore_79 ?_
                refine g_istore C hn dX9_ore_80 rfl rfl ?_
                refine g_iinc C hn dX9_ore_82 (p := 5) rfl rfl rfl ?_
                refine g_goto C (tgt := 41) dX9_ore_85 (by decide) ?_
                refine g_sub [2, 3, 4, 5, 1, 0] rfl ?_
                exact ihi (by omega) _ _ (by simp only [orcF]; (repeat' split) <;> first | (exfalso; omega) | rfl) (by first | rfl | omega)
              · refine g_iconst C dX9_ore_71 ?_
                refine g_iload C dX9_ore_72 (p := 5) rfl ?_
                refine g_ishl C dX9_ore_74 ?_
                refine g_goto C (tgt := 79) dX9_ore_75 (by decide) ?_
                refine g_ior C dX9_ore_79 ?_
                refine g_istore C hn dX9_ore_80 rfl rfl ?_
                refine g_iinc C hn dX9_ore_82 (p := 5) rfl rfl rfl ?_
                refine g_goto C (tgt := 41) dX9_ore_85 (by decide) ?_
                refine g_sub [2, 3, 4, 5, 1, 0] rfl ?_
                exact ihi (by omega) _ _ (by simp only [orcF]; (repeat' split) <;> first | (exfalso; omega) | rfl) (by first | rfl | omega)
          refine g_sub [3, 4, 5, 2, 1, 0] rfl ?_
          exact L41 0 (Nat.zero_le _) _ _ (by first | rfl | omega | simp) (by first | rfl | omega | simp)
        · exact absurd h_4 (by decide)
      · have hnx : ¬ okB σ r := hb_3
        have hneg := barR_no (σ := (mu σ 0 0 0)) hb_3
        refine gm_call C dX9_ore_25 (kX9_barred_no (σ := (mu σ 0 0 0)) (r := r) hap hE (by show 0 ≤ σ 4 2 ∧ σ 4 2 ≤ 4; first | assumption | omega | exact hT | exact hm | exact hit | exact rt | exact rr) (by show ∀ r : Int, 0 ≤ r → r ≤ 7 → (-1 ≤ (σ 1) r ∧ (σ 1) r ≤ 2) ∧ (0 ≤ (σ 2) r ∧ (σ 2) r ≤ 40); first | assumption | omega | exact hT | exact hm | exact hit | exact rt | exact rr) (by show ∀ j : Int, R3 ((σ 3) j); first | assumption | omega | exact hT | exact hm | exact hit | exact rt | exact rr) (by first | assumption | omega | exact hT | exact hm | exact hit | exact rt | exact rr) (by first | assumption | omega | exact hT | exact hm | exact hit | exact rt | exact rr)) mw_X9_barred wl_X9_217 (by decide) (by decide) rfl rfl (by simp [Value.category]) ?_
        refine g_istore_n C hn dX9_ore_28 rfl rfl rfl ?_
        refine g_iload_n C dX9_ore_29 (p := 0) (hi := rfl) (hv := rfl) ?_
        refine g_if_ge C (tgt := 35) dX9_ore_30 (by decide) (by omega) (fun h_7 => ?_) (fun h_7 => ?_)
        · exact absurd h_7 (by omega)
        · refine g_iload_n C dX9_ore_33 (p := 0) (hi := rfl) (hv := rfl) ?_
          exact hret _ _ _ _ dX9_ore_34 (by (try subst hiN); (try subst hiN); (repeat' split) <;> first | (exfalso; omega) | rfl | omega) (by (try subst hiN); (repeat' split) <;> first | (exfalso; omega) | rfl | exact (barM_ok (σ := mu σ 0 0 0) hbx).symm)
    · refine g_ldc C (n := (-1000001)) wk_X9_64 (by decide +kernel) dX9_ore_20 ?_
      exact hret _ _ _ _ dX9_ore_22 (by (try subst hiN); (try subst hiN); (repeat' split) <;> first | (exfalso; omega) | rfl | omega) (by (try subst hiN); (repeat' split) <;> first | (exfalso; omega) | rfl | exact (barM_ok (σ := mu σ 0 0 0) hbx).symm)

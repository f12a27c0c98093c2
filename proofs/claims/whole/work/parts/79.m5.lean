set_option maxHeartbeats 4000000 in
set_option maxRecDepth 100000 in
theorem kX9_back {l : Launch} {K : Nat → ClassId} {D : va_G} {ad : Int → Nat} {E : gEnv} {σ : Mem} {t : Int} (hap : Apart ad 12) (hE : gEok E) (hT : TW (σ 4)) (hac : 0 ≤ σ 0 8 ∧ σ 0 8 ≤ 24) (rt : R3 t) : CtI l K D ad 12 (cfM ad K) E yX9_back cX9_back 3 (some .int) 2 [.ref (ad 0), .int (iI t)] σ (if (0 ≤ t ∧ t ≤ σ 4 3 - 1) then (if σ 4 (12 + 6 * t + 4) = -1000000 then -1000002 else σ 4 (12 + 6 * t + 4)) else -1000001) (if (0 ≤ t ∧ t ≤ σ 4 3 - 1) ∧ ¬ σ 4 (12 + 6 * t + 4) = -1000000 then backM (mu σ 0 0 0) t else mu σ 0 0 0) := by
  have hp : 0 ≤ σ 4 2 ∧ σ 4 2 ≤ 4 := hT.2.2.1
  have ht3 : 0 ≤ σ 4 3 ∧ σ 4 3 ≤ 5 := hT.2.2.2.1
  have hhs := hT.2.2.2.2.2.2.1
  refine ctI_of hap hE (by decide) rfl .int (nar_i _) (fun M C hn hret => ?_)
  have C : Good l K D ad 12 E 2 cX9_back RX9 M := C
  show G M ad 12 (cfM ad K) 0 [(0, .ref (ad 0)), (1, .int (iI t))] [] σ
  refine g_aload_n C dX9_back_0 (p := 0) (hi := rfl) (hv := rfl) ?_
  refine g_iconst C dX9_back_1 ?_
  refine gm_p_thrown C dX9_back_2 wf_X9_44 ?_
  refine g_aload_n C dX9_back_5 (p := 0) (hi := rfl) (hv := rfl) ?_
  refine g_iload_n C dX9_back_6 (p := 1) (hi := rfl) (hv := rfl) ?_
  refine gm_call C dX9_back_7 (kX9_isThing (σ := (mu σ 0 0 0)) (t := t) hap hE (by show 0 ≤ σ 4 3 ∧ σ 4 3 ≤ 5; first | assumption | omega | exact hT | exact hac | exact rt) (by first | assumption | omega | exact hT | exact hac | exact rt)) mw_X9_isThing wl_X9_210 (by decide) (by decide) rfl rfl (by simp [Value.category]) ?_
  refine g_cI (b := (if 0 ≤ t ∧ t ≤ σ 4 3 - 1 then 1 else 0)) (by first | rfl | (congr 1 <;> first | rfl | exact over_out (by omega)) | (congr 2 <;> first | rfl | exact over_out (by omega)) | simp [mu_app, mr_app]) ?_
  refine g_if_ne C (tgt := 16) dX9_back_10 (by decide) (by omega) (fun h_1 => ?_) (fun h_1 => ?_)
  · refine g_aload_n C dX9_back_16 (p := 0) (hi := rfl) (hv := rfl) ?_
    refine g_iload_n C dX9_back_17 (p := 1) (hi := rfl) (hv := rfl) ?_
    refine g_iconst C dX9_back_18 ?_
    refine gm_call C dX9_back_19 (kX9_of (σ := (mu σ 0 0 0)) (t := t) (w := 4) hap hE (by first | assumption | omega | exact hT | exact hac | exact rt) (by first | assumption | omega | exact hT | exact hac | exact rt)) mw_X9_of wl_X9_176 (by decide) (by decide) rfl rfl (by simp [Value.category]) ?_
    refine g_cI (b := (σ 4 (12 + 6 * t + 4))) (by first | rfl | (congr 1 <;> first | rfl | exact over_out (by omega)) | (congr 2 <;> first | rfl | exact over_out (by omega)) | simp [mu_app, mr_app]) ?_
    refine g_istore_n C hn dX9_back_22 rfl rfl rfl ?_
    refine g_iload_n C dX9_back_23 (p := 0) (hi := rfl) (hv := rfl) ?_
    refine g_ldc C (n := (-1000000)) wk_X9_80 (by decide +kernel) dX9_back_24 ?_
    refine g_icmp_ne C (tgt := 32) dX9_back_26 (by decide) (by have := hhs t (by omega) (by omega); omega) (by omega) (fun h_2 => ?_) (fun h_2 => ?_)
    · refine g_aload_n C dX9_back_32 (p := 1) (hi := rfl) (hv := rfl) ?_
      refine gm_callv C dX9_back_33 (kX9_keep (σ := (mu σ 0 0 0)) hap hE (by show 0 ≤ σ 0 8 ∧ σ 0 8 ≤ 24; first | assumption | omega | exact hT | exact hac | exact rt)) mw_X9_keep wl_X9_203 (by decide) (by decide) rfl rfl (by simp [Value.category]) ?_
      show G M ad 12 (cfM ad K) 36 [(2, .int (iI (σ 4 (12 + 6 * t + 4)))), (0, .ref (ad 0)), (1, .int (iI t))] [] (mu (mr (mu σ 0 0 0) 6 (kepF (mu σ 0 0 0))) 0 8 (kepN (mu σ 0 0 0)))
      refine g_aload_n C dX9_back_36 (p := 1) (hi := rfl) (hv := rfl) ?_
      refine gm_g_town C dX9_back_37 wf_X9_19 ?_
      refine (g_bipush C dX9_back_40 (by decide)) ?_
      refine (g_bipush C dX9_back_42 (by decide)) ?_
      refine g_iload_n C dX9_back_44 (p := 2) (hi := rfl) (hv := rfl) ?_
      refine g_imul C dX9_back_45 ?_
      refine g_iadd C dX9_back_46 ?_
      refine g_iconst C dX9_back_47 ?_
      refine g_iadd C dX9_back_48 ?_
      refine g_ldc C (n := (-1000000)) wk_X9_80 (by decide +kernel) dX9_back_49 ?_
      refine gm_s_town C dX9_back_51 (by omega) (by omega) ?_
      refine g_aload_n C dX9_back_52 (p := 1) (hi := rfl) (hv := rfl) ?_
      refine gm_g_town C dX9_back_53 wf_X9_19 ?_
      refine (g_bipush C dX9_back_56 (by decide)) ?_
      refine (g_bipush C dX9_back_58 (by decide)) ?_
      refine g_iload_n C dX9_back_60 (p := 2) (hi := rfl) (hv := rfl) ?_
      refine g_imul C dX9_back_61 ?_
      refine g_iadd C dX9_back_62 ?_
      refine g_iconst C dX9_back_63 ?_
      refine g_iadd C dX9_back_64 ?_
      refine g_dup2 C dX9_back_65 rfl rfl ?_
      refine gm_l_town C dX9_back_66 (by omega) (by omega) ?_
      refine g_cI (b := ((ru (σ 4) ((12 + (6 * t)) + 4) (-1000000)) ((12 + (6 * t)) + 5))) (by first | rfl | (rw [mr_app, if_pos rfl]; exact over_out (by omega)) | simp [mu_app, mr_app]) ?_
      refine g_iconst C dX9_back_67 ?_
      refine g_iadd C dX9_back_68 ?_
      refine gm_s_town C dX9_back_69 (by omega) (by omega) ?_
      refine g_iload_n C dX9_back_70 (p := 0) (hi := rfl) (hv := rfl) ?_
      exact hret _ _ _ _ dX9_back_71 (by first | rfl | omega | ((repeat' split) <;> first | (exfalso; omega) | rfl | exact mu_mu | omega)) (by (repeat' split) <;> first | (exfalso; omega) | rfl | (unfold backM; congr 1; show ru _ _ _ _ + 1 = _; unfold ru; rw [if_neg (by omega)]; rfl))
    · refine g_ldc C (n := (-1000002)) wk_X9_216 (by decide +kernel) dX9_back_29 ?_
      exact hret _ _ _ _ dX9_back_31 (by first | rfl | omega | ((repeat' split) <;> first | (exfalso; omega) | rfl | exact mu_mu | omega)) (by (repeat' split) <;> first | (exfalso; omega) | rfl | (unfold backM; congr 1; show ru _ _ _ _ + 1 = _; unfold ru; rw [if_neg (by omega)]; rfl))
  · refine g_ldc C (n := (-1000001)) wk_X9_64 (by decide +kernel) dX9_back_13 ?_
    exact hret _ _ _ _ dX9_back_15 (by first | rfl | omega | ((repeat' split) <;> first | (exfalso; omega) | rfl | exact mu_mu | omega)) (by (repeat' split) <;> first | (exfalso; omega) | rfl | (unfold backM; congr 1; show ru _ _ _ _ + 1 = _; unfold ru; rw [if_neg (by omega)]; rfl))
set_option maxHeartbeats 4000000 in
set_option maxRecDepth 100000 in
theorem kX9_undo {l : Launch} {K : Nat → ClassId} {D : va_G} {ad : Int → Nat} {E : gEnv} {σ : Mem} (hap : Apart ad 12) (hE : gEok E) (hac : 0 ≤ σ 0 8 ∧ σ 0 8 ≤ 24) : CtI l K D ad 12 (cfM ad K) E yX9_undo cX9_undo 2 (some .int) 0 [.ref (ad 0)] σ (if σ 0 8 = 0 then -1000002 else σ 0 8 - 1) (if σ 0 8 = 0 then mu σ 0 0 0 else mr (mu (mu σ 0 0 0) 0 8 (σ 0 8 - 1)) 4 (over (σ 4) (fun k => σ 6 (42 * (σ 0 8 - 1) + k)) 0 42)) := by
  refine ctI_of hap hE (by decide) rfl .int (nar_i _) (fun M C hn hret => ?_)
  have C : Good l K D ad 12 E 0 cX9_undo RX9 M := C
  show G M ad 12 (cfM ad K) 0 [(0, .ref (ad 0))] [] σ
  refine g_aload_n C dX9_undo_0 (p := 0) (hi := rfl) (hv := rfl) ?_
  refine g_iconst C dX9_undo_1 ?_
  refine gm_p_thrown C dX9_undo_2 wf_X9_44 ?_
  refine g_aload_n C dX9_undo_5 (p := 0) (hi := rfl) (hv := rfl) ?_
  refine gm_g_acts C dX9_undo_6 wf_X9_171 ?_
  refine g_cI (b := (σ 0 8)) (by first | rfl | (rw [mr_app, if_pos rfl]; exact over_out (by omega)) | simp [mu_app, mr_app]) ?_
  refine g_if_ne C (tgt := 15) dX9_undo_9 (by decide) (by omega) (fun h_1 => ?_) (fun h_1 => ?_)
  · refine g_aload_n C dX9_undo_15 (p := 0) (hi := rfl) (hv := rfl) ?_
    refine g_dup C dX9_undo_16 rfl ?_
    refine gm_g_acts C dX9_undo_17 wf_X9_171 ?_
    refine g_cI (b := (σ 0 8)) (by first | rfl | (rw [mr_app, if_pos rfl]; exact over_out (by omega)) | simp [mu_app, mr_app]) ?_
    refine g_iconst C dX9_undo_20 ?_
    refine g_isub C dX9_undo_21 ?_
    refine gm_p_acts C dX9_undo_22 wf_X9_171 ?_
    refine g_iconst C dX9_undo_25 ?_
    refine g_istore_n C hn dX9_undo_26 rfl rfl rfl ?_
    have L27 : ∀ i : Nat, i ≤ 42 → ∀ (x1 : Int), ∀ (τ27 : Mem), x1 = (i : Int) → τ27 = (mr (mu (mu σ 0 0 0) 0 8 ((σ 0 8) - 1)) 4 (over (σ 4) (fun k => σ 6 (42 * (σ 0 8 - 1) + k)) 0 (i : Int))) → G M ad 12 (cfM ad K) 27 [(0, .ref (ad 0)), (1, .int (iI x1))] [] τ27 := by
      refine loopUp 42 ?_
      rintro i hi ihi x1 τ27 rfl rfl
      refine g_iload_n C dX9_undo_27 (p := 1) (hi := rfl) (hv := rfl) ?_
      refine (g_bipush C dX9_undo_28 (by decide)) ?_
      refine g_icmp_ge C (tgt := 59) dX9_undo_30 (by decide) (by omega) (by omega) (fun h_2 => ?_) (fun h_2 => ?_)
      · have hiN : i = 42 := by omega
        refine g_aload_n C dX9_undo_59 (p := 0) (hi := rfl) (hv := rfl) ?_
        refine gm_g_acts C dX9_undo_60 wf_X9_171 ?_
        refine g_cI (b := ((σ 0 8) - 1)) (by first | rfl | (rw [mr_app, if_pos rfl]; exact over_out (by omega)) | simp [mu_app, mr_app]) ?_
        exact hret _ _ _ _ dX9_undo_63 (by (try subst hiN); first | rfl | omega | ((repeat' split) <;> first | (exfalso; omega) | rfl | exact mu_mu | omega)) (by (try subst hiN); first | rfl | omega | ((repeat' split) <;> first | (exfalso; omega) | rfl | exact mu_mu | omega))
      · refine g_aload_n C dX9_undo_33 (p := 0) (hi := rfl) (hv := rfl) ?_
        refine gm_g_town C dX9_undo_34 wf_X9_19 ?_
        refine g_iload_n C dX9_undo_37 (p := 1) (hi := rfl) (hv := rfl) ?_
        refine g_aload_n C dX9_undo_38 (p := 0) (hi := rfl) (hv := rfl) ?_
        refine gm_g_was C dX9_undo_39 wf_X9_25 ?_
        refine (g_bipush C dX9_undo_42 (by decide)) ?_
        refine g_aload_n C dX9_undo_44 (p := 0) (hi := rfl) (hv := rfl) ?_
        refine gm_g_acts C dX9_undo_45 wf_X9_171 ?_
        refine g_cI (b := ((σ 0 8) - 1)) (by first | rfl | (rw [mr_app, if_pos rfl]; exact over_out (by omega)) | simp [mu_app, mr_app]) ?_
        refine g_imul C dX9_undo_48 ?_
        refine g_iload_n C dX9_undo_49 (p := 1) (hi := rfl) (hv := rfl) ?_
        refine g_iadd C dX9_undo_50 ?_
        refine gm_l_was C dX9_undo_51 (by omega) (by omega) ?_
        refine g_cI (b := (σ 6 ((42 * ((σ 0 8) - 1)) + (i : Int)))) (by first | rfl | (rw [mr_app, if_pos rfl]; exact over_out (by omega)) | simp [mu_app, mr_app]) ?_
        refine gm_s_town C dX9_undo_52 (by omega) (by omega) ?_
        refine g_iinc C hn dX9_undo_53 (p := 1) rfl rfl rfl ?_
        refine g_goto C (tgt := 27) dX9_undo_56 (by decide) ?_
        refine g_sub [1, 0] rfl ?_
        exact ihi (by omega) _ _ (by first | rfl | omega) (by exact over_step (by omega) (by omega) rfl)
    refine g_sub [1, 0] rfl ?_
    exact L27 0 (Nat.zero_le _) _ _ (by first | rfl | omega | simp) (by exact over_init (by omega))
  · refine g_ldc C (n := (-1000002)) wk_X9_216 (by decide +kernel) dX9_undo_12 ?_
    exact hret _ _ _ _ dX9_undo_14 (by (try subst hiN); first | rfl | omega | ((repeat' split) <;> first | (exfalso; omega) | rfl | exact mu_mu | omega)) (by (try subst hiN); first | rfl | omega | ((repeat' split) <;> first | (exfalso; omega) | rfl | exact mu_mu | omega))
set_option maxHeartbeats 4000000 in
set_option maxRecDepth 100000 in
theorem kX9_image {l : Launch} {K : Nat → ClassId} {D : va_G} {ad : Int → Nat} {E : gEnv} {σ : Mem} {k : Int} (hap : Apart ad 12) (hE : gEok E) (hp : 0 ≤ σ 4 2 ∧ σ 4 2 ≤ 4) (rk : R3 k) : CtI l K D ad 12 (cfM ad K) E yX9_image cX9_image 3 (some .int) 1 [.ref (ad 0), .int (iI k)] σ (if 0 ≤ k ∧ k ≤ 1 then (if 0 < σ 4 2 then 1 else -1000002) else -1000001) (if (0 ≤ k ∧ k ≤ 1) ∧ 0 < σ 4 2 then mu (mr (mu σ 0 0 0) 10 (over (σ 10) (fun x => σ 4 (x - 42 * k)) (42 * k) (42 * k + 42))) 9 k 1 else mu σ 0 0 0) := by
  refine ctI_of hap hE (by decide) rfl .int (nar_i _) (fun M C hn hret => ?_)
  have C : Good l K D ad 12 E 1 cX9_image RX9 M := C
  show G M ad 12 (cfM ad K) 0 [(0, .ref (ad 0)), (1, .int (iI k))] [] σ
  refine g_aload_n C dX9_image_0 (p := 0) (hi := rfl) (hv := rfl) ?_
  refine g_iconst C dX9_image_1 ?_
  refine gm_p_thrown C dX9_image_2 wf_X9_44 ?_
  refine g_iload_n C dX9_image_5 (p := 1) (hi := rfl) (hv := rfl) ?_
  refine g_i2l C (by omega) dX9_image_6 ?_
  refine g_lconst C (z := 0) dX9_image_7 rfl ?_
  refine g_lconst C (z := 1) dX9_image_8 rfl ?_
  refine g_callS C dX9_image_9 (kX9_in (σ := (mu σ 0 0 0)) (v := k) (lo := 0) (hi := 1) hap hE (by first | assumption | omega | exact hp | exact rk) (by first | assumption | omega | exact hp | exact rk) (by first | assumption | omega | exact hp | exact rk)) mw_X9_in wl_X9_54 (by decide) (by decide) rfl rfl (by simp [Value.category]) ?_
  refine g_if_ne C (tgt := 18) dX9_image_12 (by decide) (by omega) (fun h_1 => ?_) (fun h_1 => ?_)
  · refine g_aload_n C dX9_image_18 (p := 0) (hi := rfl) (hv := rfl) ?_
    refine gm_call C dX9_image_19 (kX9_isThere (σ := (mu σ 0 0 0)) hap hE (by show 0 ≤ σ 4 2 ∧ σ 4 2 ≤ 4; first | assumption | omega | exact hp | exact rk)) mw_X9_isThere wl_X9_244 (by decide) (by decide) rfl rfl (by simp [Value.category]) ?_
    refine g_cI (b := (if 0 < σ 4 2 then 1 else 0)) (by first | rfl | (congr 1 <;> first | rfl | exact over_out (by omega)) | (congr 2 <;> first | rfl | exact over_out (by omega)) | simp [mu_app, mr_app]) ?_
    refine g_if_ne C (tgt := 28) dX9_image_22 (by decide) (by omega) (fun h_2 => ?_) (fun h_2 => ?_)
    · refine g_iconst C dX9_image_28 ?_
      refine g_istore_n C hn dX9_image_29 rfl rfl rfl ?_
      have L30 : ∀ i : Nat, i ≤ 42 → ∀ (x2 : Int), ∀ (τ30 : Mem), x2 = (i : Int) → τ30 = (mr (mu σ 0 0 0) 10 (over (σ 10) (fun x => σ 4 (x - 42 * k)) (42 * k) (42 * k + (i : Int)))) → G M ad 12 (cfM ad K) 30 [(0, .ref (ad 0)), (1, .int (iI k)), (2, .int (iI x2))] [] τ30 := by
        refine loopUp 42 ?_
        rintro i hi ihi x2 τ30 rfl rfl
        refine g_iload_n C dX9_image_30 (p := 2) (hi := rfl) (hv := rfl) ?_
        refine (g_bipush C dX9_image_31 (by decide)) ?_
        refine g_icmp_ge C (tgt := 59) dX9_image_33 (by decide) (by omega) (by omega) (fun h_3 => ?_) (fun h_3 => ?_)
        · have hiN : i = 42 := by omega
          refine g_aload_n C dX9_image_59 (p := 0) (hi := rfl) (hv := rfl) ?_
          refine gm_g_isKept C dX9_image_60 wf_X9_34 ?_
          refine g_iload_n C dX9_image_63 (p := 1) (hi := rfl) (hv := rfl) ?_
          refine g_iconst C dX9_image_64 ?_
          refine gm_s_isKept C dX9_image_65 (by omega) (by omega) (by omega) ?_
          refine g_iconst C dX9_image_66 ?_
          exact hret _ _ _ _ dX9_image_67 (by (try subst hiN); first | rfl | omega | ((repeat' split) <;> first | (exfalso; omega) | rfl | exact mu_mu | omega)) (by (try subst hiN); first | rfl | omega | ((repeat' split) <;> first | (exfalso; omega) | rfl | exact mu_mu | omega))
        · refine g_aload_n C dX9_image_36 (p := 0) (hi := rfl) (hv := rfl) ?_
          refine gm_g_kept C dX9_image_37 wf_X9_38 ?_
          refine (g_bipush C dX9_image_40 (by decide)) ?_
          refine g_iload_n C dX9_image_42 (p := 1) (hi := rfl) (hv := rfl) ?_
          refine g_imul C dX9_image_43 ?_
          refine g_iload_n C dX9_image_44 (p := 2) (hi := rfl) (hv := rfl) ?_
          refine g_iadd C dX9_image_45 ?_
          refine g_aload_n C dX9_image_46 (p := 0) (hi := rfl) (hv := rfl) ?_
          refine gm_g_town C dX9_image_47 wf_X9_19 ?_
          refine g_iload_n C dX9_image_50 (p := 2) (hi := rfl) (hv := rfl) ?_
          refine gm_l_town C dX9_image_51 (by omega) (by omega) ?_
          refine g_cI (b := (σ 4 (i : Int))) (by first | rfl | (rw [mr_app, if_pos rfl]; exact over_out (by omega)) | simp [mu_app, mr_app]) ?_
          refine gm_s_kept C dX9_image_52 (by omega) (by omega) ?_
          refine g_iinc C hn dX9_image_53 (p := 2) rfl rfl rfl ?_
          refine g_goto C (tgt := 30) dX9_image_56 (by decide) ?_
          refine g_sub [1, 2, 0] rfl ?_
          exact ihi (by omega) _ _ (by first | rfl | omega) (by exact over_step (by omega) (by omega) (by show σ 4 _ = σ 4 _; congr 1; omega))
      refine g_sub [1, 2, 0] rfl ?_
      exact L30 0 (Nat.zero_le _) _ _ (by first | rfl | omega | simp) (by exact over_init (by omega))
    · refine g_ldc C (n := (-1000002)) wk_X9_216 (by decide +kernel) dX9_image_25 ?_
      exact hret _ _ _ _ dX9_image_27 (by (try subst hiN); first | rfl | omega | ((repeat' split) <;> first | (exfalso; omega) | rfl | exact mu_mu | omega)) (by (try subst hiN); first | rfl | omega | ((repeat' split) <;> first | (exfalso; omega) | rfl | exact mu_mu | omega))
  · refine g_ldc C (n := (-1000001)) wk_X9_64 (by decide +kernel) dX9_image_15 ?_
    exact hret _ _ _ _ dX9_image_17 (by (try subst hiN); first | rfl | omega | ((repeat' split) <;> first | (exfalso; omega) | rfl | exact mu_mu | omega)) (by (try subst hiN); first | rfl | omega | ((repeat' split) <;> first | (exfalso; omega) | rfl | exact mu_mu | omega))
set_option maxHeartbeats 4000000 in
set_option maxRecDepth 100000 in
theorem kX9_restore {l : Launch} {K : Nat → ClassId} {D : va_G} {ad : Int → Nat} {E : gEnv} {σ : Mem} {k : Int} (hap : Apart ad 12) (hE : gEok E) (hkp : ∀ k : Int, 0 ≤ σ 9 k ∧ σ 9 k ≤ 1) (rk : R3 k) : CtI l K D ad 12 (cfM ad K) E yX9_restore cX9_restore 3 (some .int) 1 [.ref (ad 0), .int (iI k)] σ (if 0 ≤ k ∧ k ≤ 1 then (if σ 9 k = 0 then -1000002 else 1) else -1000001) (if (0 ≤ k ∧ k ≤ 1) ∧ ¬ σ 9 k = 0 then mu (mr (mu σ 0 0 0) 4 (over (σ 4) (fun x => σ 10 (42 * k + x)) 0 42)) 0 8 0 else mu σ 0 0 0) := by
  have hkk := hkp k
  refine ctI_of hap hE (by decide) rfl .int (nar_i _) (fun M C hn hret => ?_)
  have C : Good l K D ad 12 E 1 cX9_restore RX9 M := C
  show G M ad 12 (cfM ad K) 0 [(0, .ref (ad 0)), (1, .int (iI k))] [] σ
  refine g_aload_n C dX9_restore_0 (p := 0) (hi := rfl) (hv := rfl) ?_
  refine g_iconst C dX9_restore_1 ?_
  refine gm_p_thrown C dX9_restore_2 wf_X9_44 ?_
  refine g_iload_n C dX9_restore_5 (p := 1) (hi := rfl) (hv := rfl) ?_
  refine g_i2l C (by omega) dX9_restore_6 ?_
  refine g_lconst C (z := 0) dX9_restore_7 rfl ?_
  refine g_lconst C (z := 1) dX9_restore_8 rfl ?_
  refine g_callS C dX9_restore_9 (kX9_in (σ := (mu σ 0 0 0)) (v := k) (lo := 0) (hi := 1) hap hE (by first | assumption | omega | exact hkp | exact rk) (by first | assumption | omega | exact hkp | exact rk) (by first | assumption | omega | exact hkp | exact rk)) mw_X9_in wl_X9_54 (by decide) (by decide) rfl rfl (by simp [Value.category]) ?_
  refine g_if_ne C (tgt := 18) dX9_restore_12 (by decide) (by omega) (fun h_1 => ?_) (fun h_1 => ?_)
  · refine g_aload_n C dX9_restore_18 (p := 0) (hi := rfl) (hv := rfl) ?_
    refine gm_g_isKept C dX9_restore_19 wf_X9_34 ?_
    refine g_iload_n C dX9_restore_22 (p := 1) (hi := rfl) (hv := rfl) ?_
    refine gm_l_isKept C dX9_restore_23 (by omega) (by omega) ?_
    refine g_cI (b := (σ 9 k)) (by first | rfl | (rw [mr_app, if_pos rfl]; exact over_out (by omega)) | simp [mu_app, mr_app]) ?_
    refine g_if_ne C (tgt := 30) dX9_restore_24 (by decide) (by omega) (fun h_2 => ?_) (fun h_2 => ?_)
    · refine g_iconst C dX9_restore_30 ?_
      refine g_istore_n C hn dX9_restore_31 rfl rfl rfl ?_
      have L32 : ∀ i : Nat, i ≤ 42 → ∀ (x2 : Int), ∀ (τ32 : Mem), x2 = (i : Int) → τ32 = (mr (mu σ 0 0 0) 4 (over (σ 4) (fun x => σ 10 (42 * k + x)) 0 (i : Int))) → G M ad 12 (cfM ad K) 32 [(0, .ref (ad 0)), (1, .int (iI k)), (2, .int (iI x2))] [] τ32 := by
        refine loopUp 42 ?_
        rintro i hi ihi x2 τ32 rfl rfl
        refine g_iload_n C dX9_restore_32 (p := 2) (hi := rfl) (hv := rfl) ?_
        refine (g_bipush C dX9_restore_33 (by decide)) ?_
        refine g_icmp_ge C (tgt := 61) dX9_restore_35 (by decide) (by omega) (by omega) (fun h_3 => ?_) (fun h_3 => ?_)
        · have hiN : i = 42 := by omega
          refine g_aload_n C dX9_restore_61 (p := 0) (hi := rfl) (hv := rfl) ?_
          refine g_iconst C dX9_restore_62 ?_
          refine gm_p_acts C dX9_restore_63 wf_X9_171 ?_
          refine g_iconst C dX9_restore_66 ?_
          exact hret _ _ _ _ dX9_restore_67 (by (try subst hiN); first | rfl | omega | ((repeat' split) <;> first | (exfalso; omega) | rfl | exact mu_mu | omega)) (by (try subst hiN); first | rfl | omega | ((repeat' split) <;> first | (exfalso; omega) | rfl | exact mu_mu | omega))
        · refine g_aload_n C dX9_restore_38 (p := 0) (hi := rfl) (hv := rfl) ?_
          refine gm_g_town C dX9_restore_39 wf_X9_19 ?_
          refine g_iload_n C dX9_restore_42 (p := 2) (hi := rfl) (hv := rfl) ?_
          refine g_aload_n C dX9_restore_43 (p := 0) (hi := rfl) (hv := rfl) ?_
          refine gm_g_kept C dX9_restore_44 wf_X9_38 ?_
          refine (g_bipush C dX9_restore_47 (by decide)) ?_
          refine g_iload_n C dX9_restore_49 (p := 1) (hi := rfl) (hv := rfl) ?_
          refine g_imul C dX9_restore_50 ?_
          refine g_iload_n C dX9_restore_51 (p := 2) (hi := rfl) (hv := rfl) ?_
          refine g_iadd C dX9_restore_52 ?_
          refine gm_l_kept C dX9_restore_53 (by omega) (by omega) ?_
          refine g_cI (b := (σ 10 ((42 * k) + (i : Int)))) (by first | rfl | (rw [mr_app, if_pos rfl]; exact over_out (by omega)) | simp [mu_app, mr_app]) ?_
          refine gm_s_town C dX9_restore_54 (by omega) (by omega) ?_
          refine g_iinc C hn dX9_restore_55 (p := 2) rfl rfl rfl ?_
          refine g_goto C (tgt := 32) dX9_restore_58 (by decide) ?_
          refine g_sub [1, 2, 0] rfl ?_
          exact ihi (by omega) _ _ (by first | rfl | omega) (by exact over_step (by omega) (by omega) rfl)
      refine g_sub [1, 2, 0] rfl ?_
      exact L32 0 (Nat.zero_le _) _ _ (by first | rfl | omega | simp) (by exact over_init (by omega))
    · refine g_ldc C (n := (-1000002)) wk_X9_216 (by decide +kernel) dX9_restore_27 ?_
      exact hret _ _ _ _ dX9_restore_29 (by (try subst hiN); first | rfl | omega | ((repeat' split) <;> first | (exfalso; omega) | rfl | exact mu_mu | omega)) (by (try subst hiN); first | rfl | omega | ((repeat' split) <;> first | (exfalso; omega) | rfl | exact mu_mu | omega))
  · refine g_ldc C (n := (-1000001)) wk_X9_64 (by decide +kernel) dX9_restore_15 ?_
    exact hret _ _ _ _ dX9_restore_17 (by (try subst hiN); first | rfl | omega | ((repeat' split) <;> first | (exfalso; omega) | rfl | exact mu_mu | omega)) (by (try subst hiN); first | rfl | omega | ((repeat' split) <;> first | (exfalso; omega) | rfl | exact mu_mu | omega))
set_option maxHeartbeats 4000000 in
set_option maxRecDepth 100000 in
theorem kX9_gain {l : Launch} {K : Nat → ClassId} {D : va_G} {ad : Int → Nat} {E : gEnv} {σ : Mem} {t r p what : Int} (hap : Apart ad 12) (hE : gEok E) (hT : TW (σ 4)) (hpe : σ 4 3 = 0 ∨ 1 ≤ σ 4 2) (hm : ∀ r : Int, 0 ≤ r → r ≤ 7 → (-1 ≤ σ 1 r ∧ σ 1 r ≤ 2) ∧ (0 ≤ σ 2 r ∧ σ 2 r ≤ 40)) (hit : ∀ j : Int, R3 (σ 3 j)) (rt : R3 t) (rr : R3 r) (rp : R3 p) (rw : R3 what) : CtI l K D ad 12 (cfM ad K) E yX9_gain cX9_gain 6 (some .int) 3 [.ref (ad 0), .int (iI t), .int (iI r), .int (iI p), .int (iI what)] σ (if (0 ≤ t ∧ t ≤ σ 4 3 - 1) ∧ (0 ≤ r ∧ r ≤ 7) ∧ (0 ≤ p ∧ p ≤ σ 4 2 - 1) ∧ (0 ≤ what ∧ what ≤ 1) then (if okB σ r then tolB (gaiB (σ 4 1) (σ 4 2) (over (σ 8) (fun p => σ 3 (40 * r + p)) 0 (σ 4 2)) (woF (σ 4) t p) (σ 4 0) p) what else barR σ r) else -1000001) (if (0 ≤ t ∧ t ≤ σ 4 3 - 1) ∧ (0 ≤ r ∧ r ≤ 7) ∧ (0 ≤ p ∧ p ≤ σ 4 2 - 1) ∧ (0 ≤ what ∧ what ≤ 1) then barM (mu σ 0 0 0) r else mu σ 0 0 0) := by
  have hp : 0 ≤ σ 4 2 ∧ σ 4 2 ≤ 4 := hT.2.2.1
  have ht3 : 0 ≤ σ 4 3 ∧ σ 4 3 ≤ 5 := hT.2.2.2.1
  refine ctI_of hap hE (by decide) rfl .int (nar_i _) (fun M C hn hret => ?_)
  have C : Good l K D ad 12 E 3 cX9_gain RX9 M := C
  show G M ad 12 (cfM ad K) 0 [(0, .ref (ad 0)), (1, .int (iI t)), (2, .int (iI r)), (3, .int (iI p)), (4, .int (iI what))] [] σ
  refine g_aload_n C dX9_gain_0 (p := 0) (hi := rfl) (hv := rfl) ?_
  refine g_iconst C dX9_gain_1 ?_
  refine gm_p_thrown C dX9_gain_2 wf_X9_44 ?_
  refine g_aload_n C dX9_gain_5 (p := 0) (hi := rfl) (hv := rfl) ?_
  refine g_iload_n C dX9_gain_6 (p := 1) (hi := rfl) (hv := rfl) ?_
  refine gm_call C dX9_gain_7 (kX9_isThing (σ := (mu σ 0 0 0)) (t := t) hap hE (by show 0 ≤ σ 4 3 ∧ σ 4 3 ≤ 5; first | assumption | omega | exact hT | exact hpe | exact hm | exact hit | exact rt | exact rr | exact rp | exact rw | exact hT.1) (by first | assumption | omega | exact hT | exact hpe | exact hm | exact hit | exact rt | exact rr | exact rp | exact rw | exact hT.1)) mw_X9_isThing wl_X9_210 (by decide) (by decide) rfl rfl (by simp [Value.category]) ?_
  refine g_cI (b := (if 0 ≤ t ∧ t ≤ σ 4 3 - 1 then 1 else 0)) (by first | rfl | (congr 1 <;> first | rfl | exact over_out (by omega)) | (congr 2 <;> first | rfl | exact over_out (by omega)) | simp [mu_app, mr_app]) ?_
  refine g_if_eq C (tgt := 39) dX9_gain_10 (by decide) (by omega) (fun h_1 => ?_) (fun h_1 => ?_)
  · refine g_ldc C (n := (-1000001)) wk_X9_64 (by decide +kernel) dX9_gain_39 ?_
    exact hret _ _ _ _ dX9_gain_41 (by first | rfl | omega | ((repeat' split) <;> first | (exfalso; omega) | rfl | exact mu_mu | omega)) (by (repeat' split) <;> first | (exfalso; omega) | rfl | exact (barM_ok (σ := mu σ 0 0 0) hbx).symm)
  · refine g_iload_n C dX9_gain_13 (p := 2) (hi := rfl) (hv := rfl) ?_
    refine g_callS C dX9_gain_14 (kX9_isRow (σ := (mu σ 0 0 0)) (r := r) hap hE (by first | assumption | omega | exact hT | exact hpe | exact hm | exact hit | exact rt | exact rr | exact rp | exact rw | exact hT.1)) mw_X9_isRow wl_X9_58 (by decide) (by decide) rfl rfl (by simp [Value.category]) ?_
    refine g_if_eq C (tgt := 39) dX9_gain_17 (by decide) (by omega) (fun h_2 => ?_) (fun h_2 => ?_)
    · refine g_ldc C (n := (-1000001)) wk_X9_64 (by decide +kernel) dX9_gain_39 ?_
      exact hret _ _ _ _ dX9_gain_41 (by first | rfl | omega | ((repeat' split) <;> first | (exfalso; omega) | rfl | exact mu_mu | omega)) (by (repeat' split) <;> first | (exfalso; omega) | rfl | exact (barM_ok (σ := mu σ 0 0 0) hbx).symm)
    · refine g_aload_n C dX9_gain_20 (p := 0) (hi := rfl) (hv := rfl) ?_
      refine g_iload_n C dX9_gain_21 (p := 3) (hi := rfl) (hv := rfl) ?_
      refine gm_call C dX9_gain_22 (kX9_isPerson (σ := (mu σ 0 0 0)) (p := p) hap hE (by show 0 ≤ σ 4 2 ∧ σ 4 2 ≤ 4; first | assumption | omega | exact hT | exact hpe | exact hm | exact hit | exact rt | exact rr | exact rp | exact rw | exact hT.1) (by first | assumption | omega | exact hT | exact hpe | exact hm | exact hit | exact rt | exact rr | exact rp | exact rw | exact hT.1)) mw_X9_isPerson wl_X9_226 (by decide) (by decide) rfl rfl (by simp [Value.category]) ?_
      refine g_cI (b := (if 0 ≤ p ∧ p ≤ σ 4 2 - 1 then 1 else 0)) (by first | rfl | (congr 1 <;> first | rfl | exact over_out (by omega)) | (congr 2 <;> first | rfl | exact over_out (by omega)) | simp [mu_app, mr_app]) ?_
      refine g_if_eq C (tgt := 39) dX9_gain_25 (by decide) (by omega) (fun h_3 => ?_) (fun h_3 => ?_)
      · refine g_ldc C (n := (-1000001)) wk_X9_64 (by decide +kernel) dX9_gain_39 ?_
        exact hret _ _ _ _ dX9_gain_41 (by first | rfl | omega | ((repeat' split) <;> first | (exfalso; omega) | rfl | exact mu_mu | omega)) (by (repeat' split) <;> first | (exfalso; omega) | rfl | exact (barM_ok (σ := mu σ 0 0 0) hbx).symm)
      · refine g_iload C dX9_gain_28 (p := 4) rfl ?_
        refine g_i2l C (by omega) dX9_gain_30 ?_
        refine g_lconst C (z := 0) dX9_gain_31 rfl ?_
        refine g_lconst C (z := 1) dX9_gain_32 rfl ?_
        refine g_callS C dX9_gain_33 (kX9_in (σ := (mu σ 0 0 0)) (v := what) (lo := 0) (hi := 1) hap hE (by first | assumption | omega | exact hT | exact hpe | exact hm | exact hit | exact rt | exact rr | exact rp | exact rw | exact hT.1) (by first | assumption | omega | exact hT | exact hpe | exact hm | exact hit | exact rt | exact rr | exact rp | exact rw | exact hT.1) (by first | assumption | omega | exact hT | exact hpe | exact hm | exact hit | exact rt | exact rr | exact rp | exact rw | exact hT.1)) mw_X9_in wl_X9_54 (by decide) (by decide) rfl rfl (by simp [Value.category]) ?_
        refine g_if_ne C (tgt := 42) dX9_gain_36 (by decide) (by omega) (fun h_4 => ?_) (fun h_4 => ?_)
        · refine g_aload_n C dX9_gain_42 (p := 0) (hi := rfl) (hv := rfl) ?_
          refine g_iload_n C dX9_gain_43 (p := 2) (hi := rfl) (hv := rfl) ?_
          by_cases hb_5 : okB (mu σ 0 0 0) r
          · have hbx : okB σ r := hb_5
            have hsw := barSW hp.1 hbx
            refine gm_call C dX9_gain_44 (kX9_barred_ok (σ := (mu σ 0 0 0)) (r := r) hap hE (by show 0 ≤ σ 4 2 ∧ σ 4 2 ≤ 4; first | assumption | omega | exact hT | exact hpe | exact hm | exact hit | exact rt | exact rr | exact rp | exact rw | exact hT.1) (by show ∀ r : Int, 0 ≤ r → r ≤ 7 → (-1 ≤ (σ 1) r ∧ (σ 1) r ≤ 2) ∧ (0 ≤ (σ 2) r ∧ (σ 2) r ≤ 40); first | assumption | omega | exact hT | exact hpe | exact hm | exact hit | exact rt | exact rr | exact rp | exact rw | exact hT.1) (by show ∀ j : Int, R3 ((σ 3) j); first | assumption | omega | exact hT | exact hpe | exact hm | exact hit | exact rt | exact rr | exact rp | exact rw | exact hT.1) (by first | assumption | omega | exact hT | exact hpe | exact hm | exact hit | exact rt | exact rr | exact rp | exact rw | exact hT.1) (by first | assumption | omega | exact hT | exact hpe | exact hm | exact hit | exact rt | exact rr | exact rp | exact rw | exact hT.1)) mw_X9_barred wl_X9_217 (by decide) (by decide) rfl rfl (by simp [Value.category]) ?_
            show G M ad 12 (cfM ad K) 47 [(0, .ref (ad 0)), (1, .int (iI t)), (2, .int (iI r)), (3, .int (iI p)), (4, .int (iI what))] [.int (iI 0)] (mu (mr (mu σ 0 0 0) 8 (over (σ 8) (fun p => (σ 3) (40 * r + p)) 0 (σ 4 2))) 0 1 0)
            refine g_istore C hn dX9_gain_47 rfl rfl ?_
            refine g_iload C dX9_gain_49 (p := 0) rfl ?_
            refine g_if_ge C (tgt := 59) dX9_gain_51 (by decide) (by omega) (fun h_6 => ?_) (fun h_6 => ?_)
            · refine g_aload_n C dX9_gain_59 (p := 1) (hi := rfl) (hv := rfl) ?_
              refine g_aload_n C dX9_gain_60 (p := 1) (hi := rfl) (hv := rfl) ?_
              refine gm_g_town C dX9_gain_61 wf_X9_19 ?_
              refine g_iconst C dX9_gain_64 ?_
              refine gm_l_town C dX9_gain_65 (by omega) (by omega) ?_
              refine g_cI (b := (σ 4 0)) (by first | rfl | (rw [mr_app, if_pos rfl]; exact over_out (by omega)) | simp [mu_app, mr_app]) ?_
              refine g_iload_n C dX9_gain_66 (p := 2) (hi := rfl) (hv := rfl) ?_
              refine g_iload_n C dX9_gain_67 (p := 4) (hi := rfl) (hv := rfl) ?_
              refine gm_call C dX9_gain_68 (kX9_gainBy (σ := (mu (mr (mu σ 0 0 0) 8 (over (σ 8) (fun p => (σ 3) (40 * r + p)) 0 (σ 4 2))) 0 1 0)) (pays := σ 4 0) (t := t) (p := p) hap hE (by show TW (σ 4); first | assumption | omega | exact hT | exact hpe | exact hm | exact hit | exact rt | exact rr | exact rp | exact rw | exact hT.1) (by show 1 ≤ σ 4 2 ∧ σ 4 2 ≤ 4; first | assumption | omega | exact hT | exact hpe | exact hm | exact hit | exact rt | exact rr | exact rp | exact rw | exact hT.1) (by show SW (σ 4 2) (over (σ 8) (fun p => (σ 3) (40 * r + p)) 0 (σ 4 2)); first | assumption | omega | exact hT | exact hpe | exact hm | exact hit | exact rt | exact rr | exact rp | exact rw | exact hT.1) (by first | assumption | omega | exact hT | exact hpe | exact hm | exact hit | exact rt | exact rr | exact rp | exact rw | exact hT.1) (by first | assumption | omega | exact hT | exact hpe | exact hm | exact hit | exact rt | exact rr | exact rp | exact rw | exact hT.1) (by first | assumption | omega | exact hT | exact hpe | exact hm | exact hit | exact rt | exact rr | exact rp | exact rw | exact hT.1)) mw_X9_gainBy wl_X9_197 (by decide) (by decide) rfl rfl (by simp [Value.category]) ?_
              refine g_cI (b := (gaiB (σ 4 1) (σ 4 2) (over (σ 8) (fun p => (σ 3) (40 * r + p)) 0 (σ 4 2)) (woF (σ 4) t p) (σ 4 0) p)) (by first | rfl | (congr 1 <;> first | rfl | exact over_out (by omega)) | (congr 2 <;> first | rfl | exact over_out (by omega)) | simp [mu_app, mr_app]) ?_
              refine g_iload C dX9_gain_71 (p := 5) rfl ?_
              refine g_callS C dX9_gain_73 (kX9_told (σ := (mu (mr (mu σ 0 0 0) 8 (over (σ 8) (fun p => (σ 3) (40 * r + p)) 0 (σ 4 2))) 0 1 0)) (tw := gaiB (σ 4 1) (σ 4 2) (over (σ 8) (fun p => (σ 3) (40 * r + p)) 0 (σ 4 2)) (woF (σ 4) t p) (σ 4 0) p) (what := what) hap hE (by have hg := gaiB_in hsw (show 1 ≤ σ 4 2 ∧ σ 4 2 ≤ 4 by omega) hT.2.1 (w := woF (σ 4) t p) (pays := σ 4 0) (p := p) (by have := woF_in hT (t := t) (p := p) (by omega) (by omega); omega); omega) (by first | assumption | omega | exact hT | exact hpe | exact hm | exact hit | exact rt | exact rr | exact rp | exact rw | exact hT.1)) mw_X9_told wl_X9_229 (by decide) (by decide) rfl rfl (by simp [Value.category]) ?_
              exact hret _ _ _ _ dX9_gain_76 (by first | rfl | omega | ((repeat' split) <;> first | (exfalso; omega) | rfl | exact mu_mu | omega)) (by (repeat' split) <;> first | (exfalso; omega) | rfl | exact (barM_ok (σ := mu σ 0 0 0) hbx).symm)
            · exact absurd h_6 (by decide)
          · have hnx : ¬ okB σ r := hb_5
            have hneg := barR_no (σ := (mu σ 0 0 0)) hb_5
            refine gm_call C dX9_gain_44 (kX9_barred_no (σ := (mu σ 0 0 0)) (r := r) hap hE (by show 0 ≤ σ 4 2 ∧ σ 4 2 ≤ 4; first | assumption | omega | exact hT | exact hpe | exact hm | exact hit | exact rt | exact rr | exact rp | exact rw | exact hT.1) (by show ∀ r : Int, 0 ≤ r → r ≤ 7 → (-1 ≤ (σ 1) r ∧ (σ 1) r ≤ 2) ∧ (0 ≤ (σ 2) r ∧ (σ 2) r ≤ 40); first | assumption | omega | exact hT | exact hpe | exact hm | exact hit | exact rt | exact rr | exact rp | exact rw | exact hT.1) (by show ∀ j : Int, R3 ((σ 3) j); first | assumption | omega | exact hT | exact hpe | exact hm | exact hit | exact rt | exact rr | exact rp | exact rw | exact hT.1) (by first | assumption | omega | exact hT | exact hpe | exact hm | exact hit | exact rt | exact rr | exact rp | exact rw | exact hT.1) (by first | assumption | omega | exact hT | exact hpe | exact hm | exact hit | exact rt | exact rr | exact rp | exact rw | exact hT.1)) mw_X9_barred wl_X9_217 (by decide) (by decide) rfl rfl (by simp [Value.category]) ?_
            refine g_istore C hn dX9_gain_47 rfl rfl ?_
            refine g_iload C dX9_gain_49 (p := 0) rfl ?_
            refine g_if_ge C (tgt := 59) dX9_gain_51 (by decide) (by omega) (fun h_7 => ?_) (fun h_7 => ?_)
            · exact absurd h_7 (by omega)
            · refine g_iload C dX9_gain_54 (p := 0) rfl ?_
              refine g_goto C (tgt := 76) dX9_gain_56 (by decide) ?_
              exact hret _ _ _ _ dX9_gain_76 (by first | rfl | omega | ((repeat' split) <;> first | (exfalso; omega) | rfl | exact mu_mu | omega)) (by (repeat' split) <;> first | (exfalso; omega) | rfl | exact (barM_ok (σ := mu σ 0 0 0) hbx).symm)
        · refine g_ldc C (n := (-1000001)) wk_X9_64 (by decide +kernel) dX9_gain_39 ?_
          exact hret _ _ _ _ dX9_gain_41 (by first | rfl | omega | ((repeat' split) <;> first | (exfalso; omega) | rfl | exact mu_mu | omega)) (by (repeat' split) <;> first | (exfalso; omega) | rfl | exact (barM_ok (σ := mu σ 0 0 0) hbx).symm)
set_option maxHeartbeats 4000000 in
set_option maxRecDepth 100000 in
theorem kX9_best {l : Launch} {K : Nat → ClassId} {D : va_G} {ad : Int → Nat} {E : gEnv} {σ : Mem} {t r p : Int} (hap : Apart ad 12) (hE : gEok E) (hT : TW (σ 4)) (hpe : σ 4 3 = 0 ∨ 1 ≤ σ 4 2) (hm : ∀ r : Int, 0 ≤ r → r ≤ 7 → (-1 ≤ σ 1 r ∧ σ 1 r ≤ 2) ∧ (0 ≤ σ 2 r ∧ σ 2 r ≤ 40)) (hit : ∀ j : Int, R3 (σ 3 j)) (rt : R3 t) (rr : R3 r) (rp : R3 p) : CtI l K D ad 12 (cfM ad K) E yX9_best cX9_best 5 (some .int) 4 [.ref (ad 0), .int (iI t), .int (iI r), .int (iI p)] σ (if (0 ≤ t ∧ t ≤ σ 4 3 - 1) ∧ (0 ≤ r ∧ r ≤ 7) ∧ (0 ≤ p ∧ p ≤ σ 4 2 - 1) then (if okB σ r then besB (σ 4 1) (σ 4 2) (over (σ 8) (fun p => σ 3 (40 * r + p)) 0 (σ 4 2)) (woF (σ 4) t p) (σ 4 0) p else barR σ r) else -1000001) (if (0 ≤ t ∧ t ≤ σ 4 3 - 1) ∧ (0 ≤ r ∧ r ≤ 7) ∧ (0 ≤ p ∧ p ≤ σ 4 2 - 1) then barM (mu σ 0 0 0) r else mu σ 0 0 0) := by
  have hp : 0 ≤ σ 4 2 ∧ σ 4 2 ≤ 4 := hT.2.2.1
  have ht3 : 0 ≤ σ 4 3 ∧ σ 4 3 ≤ 5 := hT.2.2.2.1
  refine ctI_of hap hE (by decide) rfl .int (nar_i _) (fun M C hn hret => ?_)
  have C : Good l K D ad 12 E 4 cX9_best RX9 M := C
  show G M ad 12 (cfM ad K) 0 [(0, .ref (ad 0)), (1, .int (iI t)), (2, .int (iI r)), (3, .int (iI p))] [] σ
  refine g_aload_n C dX9_best_0 (p := 0) (hi := rfl) (hv := rfl) ?_
  refine g_iconst C dX9_best_1 ?_
  refine gm_p_thrown C dX9_best_2 wf_X9_44 ?_
  refine g_aload_n C dX9_best_5 (p := 0) (hi := rfl) (hv := rfl) ?_
  refine g_iload_n C dX9_best_6 (p := 1) (hi := rfl) (hv := rfl) ?_
  refine gm_call C dX9_best_7 (kX9_isThing (σ := (mu σ 0 0 0)) (t := t) hap hE (by show 0 ≤ σ 4 3 ∧ σ 4 3 ≤ 5; first | assumption | omega | exact hT | exact hpe | exact hm | exact hit | exact rt | exact rr | exact rp | exact hT.1) (by first | assumption | omega | exact hT | exact hpe | exact hm | exact hit | exact rt | exact rr | exact rp | exact hT.1)) mw_X9_isThing wl_X9_210 (by decide) (by decide) rfl rfl (by simp [Value.category]) ?_
  refine g_cI (b := (if 0 ≤ t ∧ t ≤ σ 4 3 - 1 then 1 else 0)) (by first | rfl | (congr 1 <;> first | rfl | exact over_out (by omega)) | (congr 2 <;> first | rfl | exact over_out (by omega)) | simp [mu_app, mr_app]) ?_
  refine g_if_eq C (tgt := 28) dX9_best_10 (by decide) (by omega) (fun h_1 => ?_) (fun h_1 => ?_)
  · refine g_ldc C (n := (-1000001)) wk_X9_64 (by decide +kernel) dX9_best_28 ?_
    exact hret _ _ _ _ dX9_best_30 (by first | rfl | omega | ((repeat' split) <;> first | (exfalso; omega) | rfl | exact mu_mu | omega)) (by (repeat' split) <;> first | (exfalso; omega) | rfl | exact (barM_ok (σ := mu σ 0 0 0) hbx).symm)
  · refine g_iload_n C dX9_best_13 (p := 2) (hi := rfl) (hv := rfl) ?_
    refine g_callS C dX9_best_14 (kX9_isRow (σ := (mu σ 0 0 0)) (r := r) hap hE (by first | assumption | omega | exact hT | exact hpe | exact hm | exact hit | exact rt | exact rr | exact rp | exact hT.1)) mw_X9_isRow wl_X9_58 (by decide) (by decide) rfl rfl (by simp [Value.category]) ?_
    refine g_if_eq C (tgt := 28) dX9_best_17 (by decide) (by omega) (fun h_2 => ?_) (fun h_2 => ?_)
    · refine g_ldc C (n := (-1000001)) wk_X9_64 (by decide +kernel) dX9_best_28 ?_
      exact hret _ _ _ _ dX9_best_30 (by first | rfl | omega | ((repeat' split) <;> first | (exfalso; omega) | rfl | exact mu_mu | omega)) (by (repeat' split) <;> first | (exfalso; omega) | rfl | exact (barM_ok (σ := mu σ 0 0 0) hbx).symm)
    · refine g_aload_n C dX9_best_20 (p := 0) (hi := rfl) (hv := rfl) ?_
      refine g_iload_n C dX9_best_21 (p := 3) (hi := rfl) (hv := rfl) ?_
      refine gm_call C dX9_best_22 (kX9_isPerson (σ := (mu σ 0 0 0)) (p := p) hap hE (by show 0 ≤ σ 4 2 ∧ σ 4 2 ≤ 4; first | assumption | omega | exact hT | exact hpe | exact hm | exact hit | exact rt | exact rr | exact rp | exact hT.1) (by first | assumption | omega | exact hT | exact hpe | exact hm | exact hit | exact rt | exact rr | exact rp | exact hT.1)) mw_X9_isPerson wl_X9_226 (by decide) (by decide) rfl rfl (by simp [Value.category]) ?_
      refine g_cI (b := (if 0 ≤ p ∧ p ≤ σ 4 2 - 1 then 1 else 0)) (by first | rfl | (congr 1 <;> first | rfl | exact over_out (by omega)) | (congr 2 <;> first | rfl | exact over_out (by omega)) | simp [mu_app, mr_app]) ?_
      refine g_if_ne C (tgt := 31) dX9_best_25 (by decide) (by omega) (fun h_3 => ?_) (fun h_3 => ?_)
      · refine g_aload_n C dX9_best_31 (p := 0) (hi := rfl) (hv := rfl) ?_
        refine g_iload_n C dX9_best_32 (p := 2) (hi := rfl) (hv := rfl) ?_
        by_cases hb_4 : okB (mu σ 0 0 0) r
        · have hbx : okB σ r := hb_4
          have hsw := barSW hp.1 hbx
          refine gm_call C dX9_best_33 (kX9_barred_ok (σ := (mu σ 0 0 0)) (r := r) hap hE (by show 0 ≤ σ 4 2 ∧ σ 4 2 ≤ 4; first | assumption | omega | exact hT | exact hpe | exact hm | exact hit | exact rt | exact rr | exact rp | exact hT.1) (by show ∀ r : Int, 0 ≤ r → r ≤ 7 → (-1 ≤ (σ 1) r ∧ (σ 1) r ≤ 2) ∧ (0 ≤ (σ 2) r ∧ (σ 2) r ≤ 40); first | assumption | omega | exact hT | exact hpe | exact hm | exact hit | exact rt | exact rr | exact rp | exact hT.1) (by show ∀ j : Int, R3 ((σ 3) j); first | assumption | omega | exact hT | exact hpe | exact hm | exact hit | exact rt | exact rr | exact rp | exact hT.1) (by first | assumption | omega | exact hT | exact hpe | exact hm | exact hit | exact rt | exact rr | exact rp | exact hT.1) (by first | assumption | omega | exact hT | exact hpe | exact hm | exact hit | exact rt | exact rr | exact rp | exact hT.1)) mw_X9_barred wl_X9_217 (by decide) (by decide) rfl rfl (by simp [Value.category]) ?_
          show G M ad 12 (cfM ad K) 36 [(0, .ref (ad 0)), (1, .int (iI t)), (2, .int (iI r)), (3, .int (iI p))] [.int (iI 0)] (mu (mr (mu σ 0 0 0) 8 (over (σ 8) (fun p => (σ 3) (40 * r + p)) 0 (σ 4 2))) 0 1 0)
          refine g_istore C hn dX9_best_36 rfl rfl ?_
          refine g_iload C dX9_best_38 (p := 0) rfl ?_
          refine g_if_ge C (tgt := 48) dX9_best_40 (by decide) (by omega) (fun h_5 => ?_) (fun h_5 => ?_)
          · refine g_aload_n C dX9_best_48 (p := 1) (hi := rfl) (hv := rfl) ?_
            refine g_aload_n C dX9_best_49 (p := 1) (hi := rfl) (hv := rfl) ?_
            refine gm_g_town C dX9_best_50 wf_X9_19 ?_
            refine g_iconst C dX9_best_53 ?_
            refine gm_l_town C dX9_best_54 (by omega) (by omega) ?_
            refine g_cI (b := (σ 4 0)) (by first | rfl | (rw [mr_app, if_pos rfl]; exact over_out (by omega)) | simp [mu_app, mr_app]) ?_
            refine g_iload_n C dX9_best_55 (p := 2) (hi := rfl) (hv := rfl) ?_
            refine g_iload_n C dX9_best_56 (p := 4) (hi := rfl) (hv := rfl) ?_
            refine gm_call C dX9_best_57 (kX9_bestBy (σ := (mu (mr (mu σ 0 0 0) 8 (over (σ 8) (fun p => (σ 3) (40 * r + p)) 0 (σ 4 2))) 0 1 0)) (pays := σ 4 0) (t := t) (p := p) hap hE (by show TW (σ 4); first | assumption | omega | exact hT | exact hpe | exact hm | exact hit | exact rt | exact rr | exact rp | exact hT.1) (by show 1 ≤ σ 4 2 ∧ σ 4 2 ≤ 4; first | assumption | omega | exact hT | exact hpe | exact hm | exact hit | exact rt | exact rr | exact rp | exact hT.1) (by show SW (σ 4 2) (over (σ 8) (fun p => (σ 3) (40 * r + p)) 0 (σ 4 2)); first | assumption | omega | exact hT | exact hpe | exact hm | exact hit | exact rt | exact rr | exact rp | exact hT.1) (by first | assumption | omega | exact hT | exact hpe | exact hm | exact hit | exact rt | exact rr | exact rp | exact hT.1) (by first | assumption | omega | exact hT | exact hpe | exact hm | exact hit | exact rt | exact rr | exact rp | exact hT.1) (by first | assumption | omega | exact hT | exact hpe | exact hm | exact hit | exact rt | exact rr | exact rp | exact hT.1)) mw_X9_bestBy wl_X9_200 (by decide) (by decide) rfl rfl (by simp [Value.category]) ?_
            refine g_cI (b := (besB (σ 4 1) (σ 4 2) (over (σ 8) (fun p => (σ 3) (40 * r + p)) 0 (σ 4 2)) (woF (σ 4) t p) (σ 4 0) p)) (by first | rfl | (congr 1 <;> first | rfl | exact over_out (by omega)) | (congr 2 <;> first | rfl | exact over_out (by omega)) | simp [mu_app, mr_app]) ?_
            exact hret _ _ _ _ dX9_best_60 (by first | rfl | omega | ((repeat' split) <;> first | (exfalso; omega) | rfl | exact mu_mu | omega)) (by (repeat' split) <;> first | (exfalso; omega) | rfl | exact (barM_ok (σ := mu σ 0 0 0) hbx).symm)
          · exact absurd h_5 (by decide)
        · have hnx : ¬ okB σ r := hb_4
          have hneg := barR_no (σ := (mu σ 0 0 0)) hb_4
          refine gm_call C dX9_best_33 (kX9_barred_no (σ := (mu σ 0 0 0)) (r := r) hap hE (by show 0 ≤ σ 4 2 ∧ σ 4 2 ≤ 4; first | assumption | omega | exact hT | exact hpe | exact hm | exact hit | exact rt | exact rr | exact rp | exact hT.1) (by show ∀ r : Int, 0 ≤ r → r ≤ 7 → (-1 ≤ (σ 1) r ∧ (σ 1) r ≤ 2) ∧ (0 ≤ (σ 2) r ∧ (σ 2) r ≤ 40); first | assumption | omega | exact hT | exact hpe | exact hm | exact hit | exact rt | exact rr | exact rp | exact hT.1) (by show ∀ j : Int, R3 ((σ 3) j); first | assumption | omega | exact hT | exact hpe | exact hm | exact hit | exact rt | exact rr | exact rp | exact hT.1) (by first | assumption | omega | exact hT | exact hpe | exact hm | exact hit | exact rt | exact rr | exact rp | exact hT.1) (by first | assumption | omega | exact hT | exact hpe | exact hm | exact hit | exact rt | exact rr | exact rp | exact hT.1)) mw_X9_barred wl_X9_217 (by decide) (by decide) rfl rfl (by simp [Value.category]) ?_
          refine g_istore C hn dX9_best_36 rfl rfl ?_
          refine g_iload C dX9_best_38 (p := 0) rfl ?_
          refine g_if_ge C (tgt := 48) dX9_best_40 (by decide) (by omega) (fun h_6 => ?_) (fun h_6 => ?_)
          · exact absurd h_6 (by omega)
          · refine g_iload C dX9_best_43 (p := 0) rfl ?_
            refine g_goto C (tgt := 60) dX9_best_45 (by decide) ?_
            exact hret _ _ _ _ dX9_best_60 (by first | rfl | omega | ((repeat' split) <;> first | (exfalso; omega) | rfl | exact mu_mu | omega)) (by (repeat' split) <;> first | (exfalso; omega) | rfl | exact (barM_ok (σ := mu σ 0 0 0) hbx).symm)
      · refine g_ldc C (n := (-1000001)) wk_X9_64 (by decide +kernel) dX9_best_28 ?_
        exact hret _ _ _ _ dX9_best_30 (by first | rfl | omega | ((repeat' split) <;> first | (exfalso; omega) | rfl | exact mu_mu | omega)) (by (repeat' split) <;> first | (exfalso; omega) | rfl | exact (barM_ok (σ := mu σ 0 0 0) hbx).symm)
set_option maxHeartbeats 4000000 in
set_option maxRecDepth 100000 in
theorem kX9_lost {l : Launch} {K : Nat → ClassId} {D : va_G} {ad : Int → Nat} {E : gEnv} {σ : Mem} {t r what : Int} (hap : Apart ad 12) (hE : gEok E) (hT : TW (σ 4)) (hpe : σ 4 3 = 0 ∨ 1 ≤ σ 4 2) (hm : ∀ r : Int, 0 ≤ r → r ≤ 7 → (-1 ≤ σ 1 r ∧ σ 1 r ≤ 2) ∧ (0 ≤ σ 2 r ∧ σ 2 r ≤ 40)) (hit : ∀ j : Int, R3 (σ 3 j)) (rt : R3 t) (rr : R3 r) (rw : R3 what) : CtI l K D ad 12 (cfM ad K) E yX9_lost cX9_lost 8 (some .int) 3 [.ref (ad 0), .int (iI t), .int (iI r), .int (iI what)] σ (if (0 ≤ t ∧ t ≤ σ 4 3 - 1) ∧ (0 ≤ r ∧ r ≤ 7) ∧ (0 ≤ what ∧ what ≤ 1) then (if okB σ r then tolB (losV (σ 4) (over (σ 8) (fun p => σ 3 (40 * r + p)) 0 (σ 4 2)) (σ 4 2) t) what else barR σ r) else -1000001) (if (0 ≤ t ∧ t ≤ σ 4 3 - 1) ∧ (0 ≤ r ∧ r ≤ 7) ∧ (0 ≤ what ∧ what ≤ 1) then barM (mu σ 0 0 0) r else mu σ 0 0 0) := by
  have hp : 0 ≤ σ 4 2 ∧ σ 4 2 ≤ 4 := hT.2.2.1
  have ht3 : 0 ≤ σ 4 3 ∧ σ 4 3 ≤ 5 := hT.2.2.2.1
  refine ctI_of hap hE (by decide) rfl .int (nar_i _) (fun M C hn hret => ?_)
  have C : Good l K D ad 12 E 3 cX9_lost RX9 M := C
  show G M ad 12 (cfM ad K) 0 [(0, .ref (ad 0)), (1, .int (iI t)), (2, .int (iI r)), (3, .int (iI what))] [] σ
  refine g_aload_n C dX9_lost_0 (p := 0) (hi := rfl) (hv := rfl) ?_
  refine g_iconst C dX9_lost_1 ?_
  refine gm_p_thrown C dX9_lost_2 wf_X9_44 ?_
  refine g_aload_n C dX9_lost_5 (p := 0) (hi := rfl) (hv := rfl) ?_
  refine g_iload_n C dX9_lost_6 (p := 1) (hi := rfl) (hv := rfl) ?_
  refine gm_call C dX9_lost_7 (kX9_isThing (σ := (mu σ 0 0 0)) (t := t) hap hE (by show 0 ≤ σ 4 3 ∧ σ 4 3 ≤ 5; first | assumption | omega | exact hT | exact hpe | exact hm | exact hit | exact rt | exact rr | exact rw) (by first | assumption | omega | exact hT | exact hpe | exact hm | exact hit | exact rt | exact rr | exact rw)) mw_X9_isThing wl_X9_210 (by decide) (by decide) rfl rfl (by simp [Value.category]) ?_
  refine g_cI (b := (if 0 ≤ t ∧ t ≤ σ 4 3 - 1 then 1 else 0)) (by first | rfl | (congr 1 <;> first | rfl | exact over_out (by omega)) | (congr 2 <;> first | rfl | exact over_out (by omega)) | simp [mu_app, mr_app]) ?_
  refine g_if_eq C (tgt := 30) dX9_lost_10 (by decide) (by omega) (fun h_1 => ?_) (fun h_1 => ?_)
  · refine g_ldc C (n := (-1000001)) wk_X9_64 (by decide +kernel) dX9_lost_30 ?_
    exact hret _ _ _ _ dX9_lost_32 (by (try subst hiN); (repeat' split) <;> first | (exfalso; omega) | rfl | omega) (by (repeat' split) <;> first | (exfalso; omega) | rfl | exact (barM_ok (σ := mu σ 0 0 0) hbx).symm)
  · refine g_iload_n C dX9_lost_13 (p := 2) (hi := rfl) (hv := rfl) ?_
    refine g_callS C dX9_lost_14 (kX9_isRow (σ := (mu σ 0 0 0)) (r := r) hap hE (by first | assumption | omega | exact hT | exact hpe | exact hm | exact hit | exact rt | exact rr | exact rw)) mw_X9_isRow wl_X9_58 (by decide) (by decide) rfl rfl (by simp [Value.category]) ?_
    refine g_if_eq C (tgt := 30) dX9_lost_17 (by decide) (by omega) (fun h_2 => ?_) (fun h_2 => ?_)
    · refine g_ldc C (n := (-1000001)) wk_X9_64 (by decide +kernel) dX9_lost_30 ?_
      exact hret _ _ _ _ dX9_lost_32 (by (try subst hiN); (repeat' split) <;> first | (exfalso; omega) | rfl | omega) (by (repeat' split) <;> first | (exfalso; omega) | rfl | exact (barM_ok (σ := mu σ 0 0 0) hbx).symm)
    · refine g_iload_n C dX9_lost_20 (p := 3) (hi := rfl) (hv := rfl) ?_
      refine g_i2l C (by omega) dX9_lost_21 ?_
      refine g_lconst C (z := 0) dX9_lost_22 rfl ?_
      refine g_lconst C (z := 1) dX9_lost_23 rfl ?_
      refine g_callS C dX9_lost_24 (kX9_in (σ := (mu σ 0 0 0)) (v := what) (lo := 0) (hi := 1) hap hE (by first | assumption | omega | exact hT | exact hpe | exact hm | exact hit | exact rt | exact rr | exact rw) (by first | assumption | omega | exact hT | exact hpe | exact hm | exact hit | exact rt | exact rr | exact rw) (by first | assumption | omega | exact hT | exact hpe | exact hm | exact hit | exact rt | exact rr | exact rw)) mw_X9_in wl_X9_54 (by decide) (by decide) rfl rfl (by simp [Value.category]) ?_
      refine g_if_ne C (tgt := 33) dX9_lost_27 (by decide) (by omega) (fun h_3 => ?_) (fun h_3 => ?_)
      · refine g_aload_n C dX9_lost_33 (p := 0) (hi := rfl) (hv := rfl) ?_
        refine g_iload_n C dX9_lost_34 (p := 2) (hi := rfl) (hv := rfl) ?_
        by_cases hb_4 : okB (mu σ 0 0 0) r
        · have hbx : okB σ r := hb_4
          have hsw := barSW hp.1 hbx
          refine gm_call C dX9_lost_35 (kX9_barred_ok (σ := (mu σ 0 0 0)) (r := r) hap hE (by show 0 ≤ σ 4 2 ∧ σ 4 2 ≤ 4; first | assumption | omega | exact hT | exact hpe | exact hm | exact hit | exact rt | exact rr | exact rw) (by show ∀ r : Int, 0 ≤ r → r ≤ 7 → (-1 ≤ (σ 1) r ∧ (σ 1) r ≤ 2) ∧ (0 ≤ (σ 2) r ∧ (σ 2) r ≤ 40); first | assumption | omega | exact hT | exact hpe | exact hm | exact hit | exact rt | exact rr | exact rw) (by show ∀ j : Int, R3 ((σ 3) j); first | assumption | omega | exact hT | exact hpe | exact hm | exact hit | exact rt | exact rr | exact rw) (by first | assumption | omega | exact hT | exact hpe | exact hm | exact hit | exact rt | exact rr | exact rw) (by first | assumption | omega | exact hT | exact hpe | exact hm | exact hit | exact rt | exact rr | exact rw)) mw_X9_barred wl_X9_217 (by decide) (by decide) rfl rfl (by simp [Value.category]) ?_
          show G M ad 12 (cfM ad K) 38 [(0, .ref (ad 0)), (1, .int (iI t)), (2, .int (iI r)), (3, .int (iI what))] [.int (iI 0)] (mu (mr (mu σ 0 0 0) 8 (over (σ 8) (fun p => (σ 3) (40 * r + p)) 0 (σ 4 2))) 0 1 0)
          refine g_istore C hn dX9_lost_38 rfl rfl ?_
          refine g_iload C dX9_lost_40 (p := 0) rfl ?_
          refine g_if_ge C (tgt := 48) dX9_lost_42 (by decide) (by omega) (fun h_5 => ?_) (fun h_5 => ?_)
          · refine g_aload_n C dX9_lost_48 (p := 1) (hi := rfl) (hv := rfl) ?_
            refine g_ldc C (n := (-1000000)) wk_X9_80 (by decide +kernel) dX9_lost_49 ?_
            refine gm_call C dX9_lost_51 (kX9_leastBut (σ := (mu (mr (mu σ 0 0 0) 8 (over (σ 8) (fun p => (σ 3) (40 * r + p)) 0 (σ 4 2))) 0 1 0)) (but := (-1000000)) hap hE (by show 0 ≤ σ 4 2 ∧ σ 4 2 ≤ 4; first | assumption | omega | exact hT | exact hpe | exact hm | exact hit | exact rt | exact rr | exact rw) (by show SW (σ 4 2) (over (σ 8) (fun p => (σ 3) (40 * r + p)) 0 (σ 4 2)); first | assumption | omega | exact hT | exact hpe | exact hm | exact hit | exact rt | exact rr | exact rw) (by first | assumption | omega | exact hT | exact hpe | exact hm | exact hit | exact rt | exact rr | exact rw)) mw_X9_leastBut wl_X9_187 (by decide) (by decide) rfl rfl (by simp [Value.category]) ?_
            refine g_cI (b := (leaB (over (σ 8) (fun p => (σ 3) (40 * r + p)) 0 (σ 4 2)) (σ 4 2) (-1000000))) (by first | rfl | (congr 1 <;> first | rfl | exact over_out (by omega)) | (congr 2 <;> first | rfl | exact over_out (by omega)) | simp [mu_app, mr_app]) ?_
            refine g_istore C hn dX9_lost_54 rfl rfl ?_
            refine g_iconst C dX9_lost_56 ?_
            refine g_istore C hn dX9_lost_57 rfl rfl ?_
            refine g_iconst C dX9_lost_59 ?_
            refine g_istore C hn dX9_lost_60 rfl rfl ?_
            have L62 : ∀ i : Nat, i ≤ ((σ 4 2).toNat) → ∀ (x6 x7 : Int), x6 = losF (σ 4) (over (σ 8) (fun p => σ 3 (40 * r + p)) 0 (σ 4 2)) t (leaB (over (σ 8) (fun p => σ 3 (40 * r + p)) 0 (σ 4 2)) (σ 4 2) (-1000000)) i → x7 = (i : Int) → G M ad 12 (cfM ad K) 62 [(0, .ref (ad 0)), (1, .int (iI t)), (2, .int (iI r)), (3, .int (iI what)), (4, .int (iI 0)), (5, .int (iI (leaB (over (σ 8) (fun p => (σ 3) (40 * r + p)) 0 (σ 4 2)) (σ 4 2) (-1000000)))), (6, .int (iI x6)), (7, .int (iI x7))] [] (mu (mr (mu σ 0 0 0) 8 (over (σ 8) (fun p => (σ 3) (40 * r + p)) 0 (σ 4 2))) 0 1 0) := by
              refine loopUp ((σ 4 2).toNat) ?_
              rintro i hi ihi x6 x7 rfl rfl
              have hlb := leaB_in hsw hp (but := -1000000)
              refine g_iload C dX9_lost_62 (p := 7) rfl ?_
              refine g_aload_n C dX9_lost_64 (p := 0) (hi := rfl) (hv := rfl) ?_
              refine gm_g_town C dX9_lost_65 wf_X9_19 ?_
              refine g_iconst C dX9_lost_68 ?_
              refine gm_l_town C dX9_lost_69 (by omega) (by omega) ?_
              refine g_cI (b := (σ 4 2)) (by first | rfl | (rw [mr_app, if_pos rfl]; exact over_out (by omega)) | simp [mu_app, mr_app]) ?_
              refine g_icmp_ge C (tgt := 107) dX9_lost_70 (by decide) (by omega) (by omega) (fun h_6 => ?_) (fun h_6 => ?_)
              · have hiN : i = ((σ 4 2).toNat) := by omega
                refine (g_bipush C dX9_lost_107 (by decide)) ?_
                refine g_aload_n C dX9_lost_109 (p := 0) (hi := rfl) (hv := rfl) ?_
                refine g_iload_n C dX9_lost_110 (p := 1) (hi := rfl) (hv := rfl) ?_
                refine g_aload_n C dX9_lost_111 (p := 0) (hi := rfl) (hv := rfl) ?_
                refine g_iload_n C dX9_lost_112 (p := 1) (hi := rfl) (hv := rfl) ?_
                refine g_iconst C dX9_lost_113 ?_
                refine gm_call C dX9_lost_114 (kX9_extreme (σ := (mu (mr (mu σ 0 0 0) 8 (over (σ 8) (fun p => (σ 3) (40 * r + p)) 0 (σ 4 2))) 0 1 0)) (t := t) (s := (-1)) hap hE (by show TW (σ 4); first | assumption | omega | exact hT | exact hpe | exact hm | exact hit | exact rt | exact rr | exact rw) (by show 1 ≤ σ 4 2 ∧ σ 4 2 ≤ 4; first | assumption | omega | exact hT | exact hpe | exact hm | exact hit | exact rt | exact rr | exact rw) (by first | assumption | omega | exact hT | exact hpe | exact hm | exact hit | exact rt | exact rr | exact rw) (by first | assumption | omega | exact hT | exact hpe | exact hm | exact hit | exact rt | exact rr | exact rw)) mw_X9_extreme wl_X9_241 (by decide) (by decide) rfl rfl (by simp [Value.category]) ?_
                refine g_cI (b := (extF (σ 4) t (-1) (σ 4 2 - 1).toNat)) (by first | rfl | (congr 1 <;> first | rfl | exact over_out (by omega)) | (congr 2 <;> first | rfl | exact over_out (by omega)) | simp [mu_app, mr_app]) ?_
                refine gm_call C dX9_lost_117 (kX9_worthOf (σ := (mu (mr (mu σ 0 0 0) 8 (over (σ 8) (fun p => (σ 3) (40 * r + p)) 0 (σ 4 2))) 0 1 0)) (t := t) (p := extF (σ 4) t (-1) (σ 4 2 - 1).toNat) hap hE (by first | assumption | omega | exact hT | exact hpe | exact hm | exact hit | exact rt | exact rr | exact rw) (by first | omega | (have := extF_in (T := σ 4) (t := t) (s := -1) (σ 4 2 - 1).toNat; omega))) mw_X9_worthOf wl_X9_179 (by decide) (by decide) rfl rfl (by simp [Value.category]) ?_
                refine g_cI (b := (woF (σ 4) t (extF (σ 4) t (-1) (σ 4 2 - 1).toNat))) (by first | rfl | (congr 1 <;> first | rfl | exact over_out (by omega)) | (congr 2 <;> first | rfl | exact over_out (by omega)) | simp [mu_app, mr_app]) ?_
                refine g_imul C dX9_lost_120 ?_
                refine g_iload C dX9_lost_121 (p := 6) rfl ?_
                refine (g_bipush C dX9_lost_123 (by decide)) ?_
                refine g_aload_n C dX9_lost_125 (p := 0) (hi := rfl) (hv := rfl) ?_
                refine gm_call C dX9_lost_126 (kX9_likeOnes (σ := (mu (mr (mu σ 0 0 0) 8 (over (σ 8) (fun p => (σ 3) (40 * r + p)) 0 (σ 4 2))) 0 1 0)) hap hE (by show 0 ≤ σ 4 2 ∧ σ 4 2 ≤ 4; first | assumption | omega | exact hT | exact hpe | exact hm | exact hit | exact rt | exact rr | exact rw) (by show SW (σ 4 2) (over (σ 8) (fun p => (σ 3) (40 * r + p)) 0 (σ 4 2)); first | assumption | omega | exact hT | exact hpe | exact hm | exact hit | exact rt | exact rr | exact rw)) mw_X9_likeOnes wl_X9_194 (by decide) (by decide) rfl rfl (by simp [Value.category]) ?_
                refine g_cI (b := (likO (over (σ 8) (fun p => (σ 3) (40 * r + p)) 0 (σ 4 2)) (σ 4 2))) (by first | rfl | (congr 1 <;> first | rfl | exact over_out (by omega)) | (congr 2 <;> first | rfl | exact over_out (by omega)) | simp [mu_app, mr_app]) ?_
                refine g_idiv C (by omega) (by have := likO_in hsw (show 1 ≤ σ 4 2 ∧ σ 4 2 ≤ 4 by omega); omega) (by have := likO_in hsw (show 1 ≤ σ 4 2 ∧ σ 4 2 ≤ 4 by omega); omega) dX9_lost_129 ?_
                refine g_imul C dX9_lost_130 ?_
                refine g_isub C dX9_lost_131 ?_
                refine g_iload_n C dX9_lost_132 (p := 3) (hi := rfl) (hv := rfl) ?_
                refine g_callS C dX9_lost_133 (kX9_told (σ := (mu (mr (mu σ 0 0 0) 8 (over (σ 8) (fun p => (σ 3) (40 * r + p)) 0 (σ 4 2))) 0 1 0)) (tw := (12 * (woF (σ 4) t (extF (σ 4) t (-1) (σ 4 2 - 1).toNat))) - ((losF (σ 4) (over (σ 8) (fun p => σ 3 (40 * r + p)) 0 (σ 4 2)) t (leaB (over (σ 8) (fun p => σ 3 (40 * r + p)) 0 (σ 4 2)) (σ 4 2) (-1000000)) i) * ((12 : Int).tdiv (likO (over (σ 8) (fun p => (σ 3) (40 * r + p)) 0 (σ 4 2)) (σ 4 2))))) (what := what) hap hE (by (try subst hiN); have hlv := losV_in hT (t := t) (by omega) (show 1 ≤ σ 4 2 ∧ σ 4 2 ≤ 4 by omega) hsw; unfold losV at hlv; omega) (by first | assumption | omega | exact hT | exact hpe | exact hm | exact hit | exact rt | exact rr | exact rw)) mw_X9_told wl_X9_229 (by decide) (by decide) rfl rfl (by simp [Value.category]) ?_
                exact hret _ _ _ _ dX9_lost_136 (by (try subst hiN); (try subst hiN); (repeat' split) <;> first | (exfalso; omega) | rfl | omega) (by (try subst hiN); (repeat' split) <;> first | (exfalso; omega) | rfl | exact (barM_ok (σ := mu σ 0 0 0) hbx).symm)
              · refine g_iload C dX9_lost_73 (p := 6) rfl ?_
                refine g_aload_n C dX9_lost_75 (p := 0) (hi := rfl) (hv := rfl) ?_
                refine gm_g_says C dX9_lost_76 wf_X9_31 ?_
                refine g_iload C dX9_lost_79 (p := 7) rfl ?_
                refine gm_l_says C dX9_lost_81 (by omega) (by omega) ?_
                refine g_cI (b := ((over (σ 8) (fun p => (σ 3) (40 * r + p)) 0 (σ 4 2)) (i : Int))) (by first | rfl | (rw [mr_app, if_pos rfl]; exact over_out (by omega)) | simp [mu_app, mr_app]) ?_
                refine g_iload C dX9_lost_82 (p := 5) rfl ?_
                refine g_icmp_ne C (tgt := 97) dX9_lost_84 (by decide) (by have := hsw (i : Int) (by omega) (by omega); omega) (by have := leaB_in hsw hp (but := -1000000); omega) (fun h_7 => ?_) (fun h_7 => ?_)
                · refine g_iconst C dX9_lost_97 ?_
                  refine g_iadd C dX9_lost_98 ?_
                  refine g_istore C hn dX9_lost_99 rfl rfl ?_
                  refine g_iinc C hn dX9_lost_101 (p := 7) rfl rfl rfl ?_
                  refine g_goto C (tgt := 62) dX9_lost_104 (by decide) ?_
                  refine g_sub [2, 3, 4, 5, 6, 7, 1, 0] rfl ?_
                  exact ihi (by omega) _ _ (by first | omega | (simp only [losF]; (repeat' split) <;> omega)) (by first | rfl | omega)
                · refine g_aload_n C dX9_lost_87 (p := 0) (hi := rfl) (hv := rfl) ?_
                  refine g_iload_n C dX9_lost_88 (p := 1) (hi := rfl) (hv := rfl) ?_
                  refine g_iload C dX9_lost_89 (p := 7) rfl ?_
                  refine gm_call C dX9_lost_91 (kX9_worthOf (σ := (mu (mr (mu σ 0 0 0) 8 (over (σ 8) (fun p => (σ 3) (40 * r + p)) 0 (σ 4 2))) 0 1 0)) (t := t) (p := (i : Int)) hap hE (by first | assumption | omega | exact hT | exact hpe | exact hm | exact hit | exact rt | exact rr | exact rw) (by first | omega | (have := extF_in (T := σ 4) (t := t) (s := -1) (σ 4 2 - 1).toNat; omega))) mw_X9_worthOf wl_X9_179 (by decide) (by decide) rfl rfl (by simp [Value.category]) ?_
                  refine g_cI (b := (woF (σ 4) t (i : Int))) (by first | rfl | (congr 1 <;> first | rfl | exact over_out (by omega)) | (congr 2 <;> first | rfl | exact over_out (by omega)) | simp [mu_app, mr_app]) ?_
                  refine g_goto C (tgt := 98) dX9_lost_94 (by decide) ?_
                  refine g_iadd C dX9_lost_98 ?_
                  refine g_istore C hn dX9_lost_99 rfl rfl ?_
                  refine g_iinc C hn dX9_lost_101 (p := 7) rfl rfl rfl ?_
                  refine g_goto C (tgt := 62) dX9_lost_104 (by decide) ?_
                  refine g_sub [2, 3, 4, 5, 6, 7, 1, 0] rfl ?_
                  exact ihi (by omega) _ _ (by first | omega | (simp only [losF]; (repeat' split) <;> omega)) (by first | rfl | omega)
            refine g_sub [4, 5, 6, 7, 3, 2, 1, 0] rfl ?_
            exact L62 0 (Nat.zero_le _) _ _ (by first | rfl | omega | simp) (by first | rfl | omega | simp)
          · exact absurd h_5 (by decide)
        · have hnx : ¬ okB σ r := hb_4
          have hneg := barR_no (σ := (mu σ 0 0 0)) hb_4
          refine gm_call C dX9_lost_35 (kX9_barred_no (σ := (mu σ 0 0 0)) (r := r) hap hE (by show 0 ≤ σ 4 2 ∧ σ 4 2 ≤ 4; first | assumption | omega | exact hT | exact hpe | exact hm | exact hit | exact rt | exact rr | exact rw) (by show ∀ r : Int, 0 ≤ r → r ≤ 7 → (-1 ≤ (σ 1) r ∧ (σ 1) r ≤ 2) ∧ (0 ≤ (σ 2) r ∧ (σ 2) r ≤ 40); first | assumption | omega | exact hT | exact hpe | exact hm | exact hit | exact rt | exact rr | exact rw) (by show ∀ j : Int, R3 ((σ 3) j); first | assumption | omega | exact hT | exact hpe | exact hm | exact hit | exact rt | exact rr | exact rw) (by first | assumption | omega | exact hT | exact hpe | exact hm | exact hit | exact rt | exact rr | exact rw) (by first | assumption | omega | exact hT | exact hpe | exact hm | exact hit | exact rt | exact rr | exact rw)) mw_X9_barred wl_X9_217 (by decide) (by decide) rfl rfl (by simp [Value.category]) ?_
          refine g_istore C hn dX9_lost_38 rfl rfl ?_
          refine g_iload C dX9_lost_40 (p := 0) rfl ?_
          refine g_if_ge C (tgt := 48) dX9_lost_42 (by decide) (by omega) (fun h_8 => ?_) (fun h_8 => ?_)
          · exact absurd h_8 (by omega)
          · refine g_iload C dX9_lost_45 (p := 0) rfl ?_
            exact hret _ _ _ _ dX9_lost_47 (by (try subst hiN); (try subst hiN); (repeat' split) <;> first | (exfalso; omega) | rfl | omega) (by (try subst hiN); (repeat' split) <;> first | (exfalso; omega) | rfl | exact (barM_ok (σ := mu σ 0 0 0) hbx).symm)
      · refine g_ldc C (n := (-1000001)) wk_X9_64 (by decide +kernel) dX9_lost_30 ?_
        exact hret _ _ _ _ dX9_lost_32 (by (try subst hiN); (try subst hiN); (repeat' split) <;> first | (exfalso; omega) | rfl | omega) (by (try subst hiN); (repeat' split) <;> first | (exfalso; omega) | rfl | exact (barM_ok (σ := mu σ 0 0 0) hbx).symm)
set_option maxHeartbeats 4000000 in
set_option maxRecDepth 100000 in
theorem kX9_honest {l : Launch} {K : Nat → ClassId} {D : va_G} {ad : Int → Nat} {E : gEnv} {σ : Mem} {t what : Int} (hap : Apart ad 12) (hE : gEok E) (hT : TW (σ 4)) (hpe : σ 4 3 = 0 ∨ 1 ≤ σ 4 2) (rt : R3 t) (rw : R3 what) : CtI l K D ad 12 (cfM ad K) E yX9_honest cX9_honest 5 (some .int) 5 [.ref (ad 0), .int (iI t), .int (iI what)] σ (if (0 ≤ t ∧ t ≤ σ 4 3 - 1) ∧ (0 ≤ what ∧ what ≤ 1) then (if what = 0 then resF (σ 4) (over (σ 8) (fun p => owF (σ 4) t p) 0 (σ 4 2)) (σ 4 0) t (σ 4 2).toNat else orcF (fun q => resF (σ 4) (over (σ 8) (fun p => owF (σ 4) t p) 0 (σ 4 2)) q t (σ 4 2).toNat) 4) else -1000001) (if (0 ≤ t ∧ t ≤ σ 4 3 - 1) ∧ (0 ≤ what ∧ what ≤ 1) then (mr (mu σ 0 0 0) 8 (over (σ 8) (fun p => owF (σ 4) t p) 0 (σ 4 2))) else mu σ 0 0 0) := by
  have hp : 0 ≤ σ 4 2 ∧ σ 4 2 ≤ 4 := hT.2.2.1
  have ht3 : 0 ≤ σ 4 3 ∧ σ 4 3 ≤ 5 := hT.2.2.2.1
  have h01 : ∀ q : Int, resF (σ 4) (over (σ 8) (fun p => owF (σ 4) t p) 0 (σ 4 2)) q t (σ 4 2).toNat = 0 ∨ resF (σ 4) (over (σ 8) (fun p => owF (σ 4) t p) 0 (σ 4 2)) q t (σ 4 2).toNat = 1 := fun q => resF_01 _ _ _ _ _
  have hown : SW (σ 4 2) (over (σ 8) (fun p => owF (σ 4) t p) 0 (σ 4 2)) := ownSW
  refine ctI_of hap hE (by decide) rfl .int (nar_i _) (fun M C hn hret => ?_)
  have C : Good l K D ad 12 E 5 cX9_honest RX9 M := C
  show G M ad 12 (cfM ad K) 0 [(0, .ref (ad 0)), (1, .int (iI t)), (2, .int (iI what))] [] σ
  refine g_aload_n C dX9_honest_0 (p := 0) (hi := rfl) (hv := rfl) ?_
  refine g_iconst C dX9_honest_1 ?_
  refine gm_p_thrown C dX9_honest_2 wf_X9_44 ?_
  refine g_aload_n C dX9_honest_5 (p := 0) (hi := rfl) (hv := rfl) ?_
  refine g_iload_n C dX9_honest_6 (p := 1) (hi := rfl) (hv := rfl) ?_
  refine gm_call C dX9_honest_7 (kX9_isThing (σ := (mu σ 0 0 0)) (t := t) hap hE (by show 0 ≤ σ 4 3 ∧ σ 4 3 ≤ 5; first | assumption | omega | exact hT | exact hpe | exact rt | exact rw | exact hT.1 | exact hown) (by first | assumption | omega | exact hT | exact hpe | exact rt | exact rw | exact hT.1 | exact hown)) mw_X9_isThing wl_X9_210 (by decide) (by decide) rfl rfl (by simp [Value.category]) ?_
  refine g_cI (b := (if 0 ≤ t ∧ t ≤ σ 4 3 - 1 then 1 else 0)) (by first | rfl | (congr 1 <;> first | rfl | exact over_out (by omega)) | (congr 2 <;> first | rfl | exact over_out (by omega)) | simp [mu_app, mr_app]) ?_
  refine g_if_eq C (tgt := 23) dX9_honest_10 (by decide) (by omega) (fun h_1 => ?_) (fun h_1 => ?_)
  · refine g_ldc C (n := (-1000001)) wk_X9_64 (by decide +kernel) dX9_honest_23 ?_
    exact hret _ _ _ _ dX9_honest_25 (by (try subst hiN); (have h01p := h01 (σ 4 0)); (repeat' split) <;> first | (exfalso; omega) | rfl | omega) (by first | rfl | omega | ((repeat' split) <;> first | (exfalso; omega) | rfl | exact mu_mu | omega))
  · refine g_iload_n C dX9_honest_13 (p := 2) (hi := rfl) (hv := rfl) ?_
    refine g_i2l C (by omega) dX9_honest_14 ?_
    refine g_lconst C (z := 0) dX9_honest_15 rfl ?_
    refine g_lconst C (z := 1) dX9_honest_16 rfl ?_
    refine g_callS C dX9_honest_17 (kX9_in (σ := (mu σ 0 0 0)) (v := what) (lo := 0) (hi := 1) hap hE (by first | assumption | omega | exact hT | exact hpe | exact rt | exact rw | exact hT.1 | exact hown) (by first | assumption | omega | exact hT | exact hpe | exact rt | exact rw | exact hT.1 | exact hown) (by first | assumption | omega | exact hT | exact hpe | exact rt | exact rw | exact hT.1 | exact hown)) mw_X9_in wl_X9_54 (by decide) (by decide) rfl rfl (by simp [Value.category]) ?_
    refine g_if_ne C (tgt := 26) dX9_honest_20 (by decide) (by omega) (fun h_2 => ?_) (fun h_2 => ?_)
    · refine g_aload_n C dX9_honest_26 (p := 0) (hi := rfl) (hv := rfl) ?_
      refine g_iload_n C dX9_honest_27 (p := 1) (hi := rfl) (hv := rfl) ?_
      refine gm_callv C dX9_honest_28 (kX9_layOwn (σ := (mu σ 0 0 0)) (t := t) hap hE (by show TW (σ 4); first | assumption | omega | exact hT | exact hpe | exact rt | exact rw | exact hT.1 | exact hown) (by first | assumption | omega | exact hT | exact hpe | exact rt | exact rw | exact hT.1 | exact hown)) mw_X9_layOwn wl_X9_223 (by decide) (by decide) rfl rfl (by simp [Value.category]) ?_
      show G M ad 12 (cfM ad K) 31 [(0, .ref (ad 0)), (1, .int (iI t)), (2, .int (iI what))] [] (mr (mu σ 0 0 0) 8 (over (σ 8) (fun p => owF (σ 4) t p) 0 (σ 4 2)))
      refine g_iload_n C dX9_honest_31 (p := 2) (hi := rfl) (hv := rfl) ?_
      refine g_if_ne C (tgt := 55) dX9_honest_32 (by decide) (by omega) (fun h_3 => ?_) (fun h_3 => ?_)
      · refine g_iconst C dX9_honest_55 ?_
        refine g_istore_n C hn dX9_honest_56 rfl rfl rfl ?_
        refine g_iconst C dX9_honest_57 ?_
        refine g_istore C hn dX9_honest_58 rfl rfl ?_
        have L60 : ∀ i : Nat, i ≤ 4 → ∀ (x3 x4 : Int), x3 = orcF (fun q => resF (σ 4) (over (σ 8) (fun p => owF (σ 4) t p) 0 (σ 4 2)) q t (σ 4 2).toNat) i → x4 = (i : Int) → G M ad 12 (cfM ad K) 60 [(0, .ref (ad 0)), (1, .int (iI t)), (2, .int (iI what)), (3, .int (iI x3)), (4, .int (iI x4))] [] (mr (mu σ 0 0 0) 8 (over (σ 8) (fun p => owF (σ 4) t p) 0 (σ 4 2))) := by
          refine loopUp 4 ?_
          rintro i hi ihi x3 x4 rfl rfl
          have h01i := h01 (i : Int)
          refine g_iload C dX9_honest_60 (p := 4) rfl ?_
          refine g_iconst C dX9_honest_62 ?_
          refine g_icmp_ge C (tgt := 93) dX9_honest_63 (by decide) (by omega) (by omega) (fun h_4 => ?_) (fun h_4 => ?_)
          · have hiN : i = 4 := by omega
            refine g_iload_n C dX9_honest_93 (p := 3) (hi := rfl) (hv := rfl) ?_
            exact hret _ _ _ _ dX9_honest_94 (by (try subst hiN); (try subst hiN); (have h01p := h01 (σ 4 0)); (repeat' split) <;> first | (exfalso; omega) | rfl | omega) (by (try subst hiN); first | rfl | omega | ((repeat' split) <;> first | (exfalso; omega) | rfl | exact mu_mu | omega))
          · refine g_iload_n C dX9_honest_66 (p := 3) (hi := rfl) (hv := rfl) ?_
            refine g_aload_n C dX9_honest_67 (p := 0) (hi := rfl) (hv := rfl) ?_
            refine g_iload C dX9_honest_68 (p := 4) rfl ?_
            refine g_iload_n C dX9_honest_70 (p := 1) (hi := rfl) (hv := rfl) ?_
            refine gm_call C dX9_honest_71 (kX9_isRest (σ := (mr (mu σ 0 0 0) 8 (over (σ 8) (fun p => owF (σ 4) t p) 0 (σ 4 2)))) (pays := (i : Int)) (t := t) hap hE (by show TW (σ 4); first | assumption | omega | exact hT | exact hpe | exact rt | exact rw | exact hT.1 | exact hown) (by show 1 ≤ σ 4 2 ∧ σ 4 2 ≤ 4; first | assumption | omega | exact hT | exact hpe | exact rt | exact rw | exact hT.1 | exact hown) (by show SW (σ 4 2) (over (σ 8) (fun p => owF (σ 4) t p) 0 (σ 4 2)); first | assumption | omega | exact hT | exact hpe | exact rt | exact rw | exact hT.1 | exact hown) (by first | assumption | omega | exact hT | exact hpe | exact rt | exact rw | exact hT.1 | exact hown) (by first | assumption | omega | exact hT | exact hpe | exact rt | exact rw | exact hT.1 | exact hown)) mw_X9_isRest wl_X9_237 (by decide) (by decide) rfl rfl (by simp [Value.category]) ?_
            refine g_cI (b := (resF (σ 4) (over (σ 8) (fun p => owF (σ 4) t p) 0 (σ 4 2)) (i : Int) t (σ 4 2).toNat)) (by first | rfl | (congr 1 <;> first | rfl | exact over_out (by omega)) | (congr 2 <;> first | rfl | exact over_out (by omega)) | simp [mu_app, mr_app]) ?_
            refine g_if_eq C (tgt := 84) dX9_honest_74 (by decide) (by have := h01 (i : Int); omega) (fun h_5 => ?_) (fun h_5 => ?_)
            · refine g_iconst C dX9_honest_84 ?_
              refine g_ior C dX9_honest_85 ?_
              refine g_istore_n C hn dX9_honest_86 rfl rfl rfl ?_
              refine g_iinc C hn dX9_honest_87 (p := 4) rfl rfl rfl ?_
              refine g_goto C (tgt := 60) dX9_honest_90 (by decide) ?_
              refine g_sub [2, 3, 4, 1, 0] rfl ?_
              exact ihi (by omega) _ _ (by simp only [orcF]; (repeat' split) <;> first | (exfalso; omega) | rfl) (by first | rfl | omega)
            · refine g_iconst C dX9_honest_77 ?_
              refine g_iload C dX9_honest_78 (p := 4) rfl ?_
              refine g_ishl C dX9_honest_80 ?_
              refine g_goto C (tgt := 85) dX9_honest_81 (by decide) ?_
              refine g_ior C dX9_honest_85 ?_
              refine g_istore_n C hn dX9_honest_86 rfl rfl rfl ?_
              refine g_iinc C hn dX9_honest_87 (p := 4) rfl rfl rfl ?_
              refine g_goto C (tgt := 60) dX9_honest_90 (by decide) ?_
              refine g_sub [2, 3, 4, 1, 0] rfl ?_
              exact ihi (by omega) _ _ (by simp only [orcF]; (repeat' split) <;> first | (exfalso; omega) | rfl) (by first | rfl | omega)
        refine g_sub [2, 3, 4, 1, 0] rfl ?_
        exact L60 0 (Nat.zero_le _) _ _ (by first | rfl | omega | simp) (by first | rfl | omega | simp)
      · refine g_aload_n C dX9_honest_35 (p := 0) (hi := rfl) (hv := rfl) ?_
        refine g_aload_n C dX9_honest_36 (p := 0) (hi := rfl) (hv := rfl) ?_
        refine gm_g_town C dX9_honest_37 wf_X9_19 ?_
        refine g_iconst C dX9_honest_40 ?_
        refine gm_l_town C dX9_honest_41 (by omega) (by omega) ?_
        refine g_cI (b := (σ 4 0)) (by first | rfl | (rw [mr_app, if_pos rfl]; exact over_out (by omega)) | simp [mu_app, mr_app]) ?_
        refine g_iload_n C dX9_honest_42 (p := 1) (hi := rfl) (hv := rfl) ?_
        refine gm_call C dX9_honest_43 (kX9_isRest (σ := (mr (mu σ 0 0 0) 8 (over (σ 8) (fun p => owF (σ 4) t p) 0 (σ 4 2)))) (pays := σ 4 0) (t := t) hap hE (by show TW (σ 4); first | assumption | omega | exact hT | exact hpe | exact rt | exact rw | exact hT.1 | exact hown) (by show 1 ≤ σ 4 2 ∧ σ 4 2 ≤ 4; first | assumption | omega | exact hT | exact hpe | exact rt | exact rw | exact hT.1 | exact hown) (by show SW (σ 4 2) (over (σ 8) (fun p => owF (σ 4) t p) 0 (σ 4 2)); first | assumption | omega | exact hT | exact hpe | exact rt | exact rw | exact hT.1 | exact hown) (by first | assumption | omega | exact hT | exact hpe | exact rt | exact rw | exact hT.1 | exact hown) (by first | assumption | omega | exact hT | exact hpe | exact rt | exact rw | exact hT.1 | exact hown)) mw_X9_isRest wl_X9_237 (by decide) (by decide) rfl rfl (by simp [Value.category]) ?_
        refine g_cI (b := (resF (σ 4) (over (σ 8) (fun p => owF (σ 4) t p) 0 (σ 4 2)) (σ 4 0) t (σ 4 2).toNat)) (by first | rfl | (congr 1 <;> first | rfl | exact over_out (by omega)) | (congr 2 <;> first | rfl | exact over_out (by omega)) | simp [mu_app, mr_app]) ?_
        refine g_if_eq C (tgt := 53) dX9_honest_46 (by decide) (by have := h01 (σ 4 0); omega) (fun h_6 => ?_) (fun h_6 => ?_)
        · refine g_iconst C dX9_honest_53 ?_
          exact hret _ _ _ _ dX9_honest_54 (by (try subst hiN); (try subst hiN); (have h01p := h01 (σ 4 0)); (repeat' split) <;> first | (exfalso; omega) | rfl | omega) (by (try subst hiN); first | rfl | omega | ((repeat' split) <;> first | (exfalso; omega) | rfl | exact mu_mu | omega))
        · refine g_iconst C dX9_honest_49 ?_
          refine g_goto C (tgt := 54) dX9_honest_50 (by decide) ?_
          exact hret _ _ _ _ dX9_honest_54 (by (try subst hiN); (try subst hiN); (have h01p := h01 (σ 4 0)); (repeat' split) <;> first | (exfalso; omega) | rfl | omega) (by (try subst hiN); first | rfl | omega | ((repeat' split) <;> first | (exfalso; omega) | rfl | exact mu_mu | omega))
    · refine g_ldc C (n := (-1000001)) wk_X9_64 (by decide +kernel) dX9_honest_23 ?_
      exact hret _ _ _ _ dX9_honest_25 (by (try subst hiN); (try subst hiN); (have h01p := h01 (σ 4 0)); (repeat' split) <;> first | (exfalso; omega) | rfl | omega) (by (try subst hiN); first | rfl | omega | ((repeat' split) <;> first | (exfalso; omega) | rfl | exact mu_mu | omega))
set_option maxHeartbeats 4000000 in
set_option maxRecDepth 100000 in
theorem kX9_give {l : Launch} {K : Nat → ClassId} {D : va_G} {ad : Int → Nat} {E : gEnv} {σ : Mem} {t r seed : Int} (hap : Apart ad 12) (hE : gEok E) (hT : TW (σ 4)) (hpe : σ 4 3 = 0 ∨ 1 ≤ σ 4 2) (hm : ∀ r : Int, 0 ≤ r → r ≤ 7 → (-1 ≤ σ 1 r ∧ σ 1 r ≤ 2) ∧ (0 ≤ σ 2 r ∧ σ 2 r ≤ 40)) (hit : ∀ j : Int, R3 (σ 3 j)) (hac : 0 ≤ σ 0 8 ∧ σ 0 8 ≤ 24) (rt : R3 t) (rr : R3 r) (rs : R3 seed) : CtI l K D ad 12 (cfM ad K) E yX9_give cX9_give 5 (some .int) 4 [.ref (ad 0), .int (iI t), .int (iI r), .int (iI seed)] σ (if (0 ≤ t ∧ t ≤ σ 4 3 - 1) ∧ (0 ≤ r ∧ r ≤ 7) ∧ (1 ≤ seed ∧ seed ≤ 999999) then (if ¬ σ 4 (12 + 6 * t + 4) = -1000000 then -1000002 else if okB σ r then toR (over (σ 8) (fun p => σ 3 (40 * r + p)) 0 (σ 4 2)) (σ 4 2) seed else barR σ r) else -1000001) (if (0 ≤ t ∧ t ≤ σ 4 3 - 1) ∧ (0 ≤ r ∧ r ≤ 7) ∧ (1 ≤ seed ∧ seed ≤ 999999) ∧ σ 4 (12 + 6 * t + 4) = -1000000 then (if okB σ r then rndM (mu (mr (mu σ 0 0 0) 8 (over (σ 8) (fun p => σ 3 (40 * r + p)) 0 (σ 4 2))) 0 1 0) t seed else barM (mu σ 0 0 0) r) else mu σ 0 0 0) := by
  have hp : 0 ≤ σ 4 2 ∧ σ 4 2 ≤ 4 := hT.2.2.1
  have ht3 : 0 ≤ σ 4 3 ∧ σ 4 3 ≤ 5 := hT.2.2.2.1
  have hhs := hT.2.2.2.2.2.2.1
  refine ctI_of hap hE (by decide) rfl .int (nar_i _) (fun M C hn hret => ?_)
  have C : Good l K D ad 12 E 4 cX9_give RX9 M := C
  show G M ad 12 (cfM ad K) 0 [(0, .ref (ad 0)), (1, .int (iI t)), (2, .int (iI r)), (3, .int (iI seed))] [] σ
  refine g_aload_n C dX9_give_0 (p := 0) (hi := rfl) (hv := rfl) ?_
  refine g_iconst C dX9_give_1 ?_
  refine gm_p_thrown C dX9_give_2 wf_X9_44 ?_
  refine g_aload_n C dX9_give_5 (p := 0) (hi := rfl) (hv := rfl) ?_
  refine g_iload_n C dX9_give_6 (p := 1) (hi := rfl) (hv := rfl) ?_
  refine gm_call C dX9_give_7 (kX9_isThing (σ := (mu σ 0 0 0)) (t := t) hap hE (by show 0 ≤ σ 4 3 ∧ σ 4 3 ≤ 5; first | assumption | omega | exact hT | exact hpe | exact hm | exact hit | exact hac | exact rt | exact rr | exact rs) (by first | assumption | omega | exact hT | exact hpe | exact hm | exact hit | exact hac | exact rt | exact rr | exact rs)) mw_X9_isThing wl_X9_210 (by decide) (by decide) rfl rfl (by simp [Value.category]) ?_
  refine g_cI (b := (if 0 ≤ t ∧ t ≤ σ 4 3 - 1 then 1 else 0)) (by first | rfl | (congr 1 <;> first | rfl | exact over_out (by omega)) | (congr 2 <;> first | rfl | exact over_out (by omega)) | simp [mu_app, mr_app]) ?_
  refine g_if_eq C (tgt := 27) dX9_give_10 (by decide) (by omega) (fun h_1 => ?_) (fun h_1 => ?_)
  · refine g_ldc C (n := (-1000001)) wk_X9_64 (by decide +kernel) dX9_give_27 ?_
    exact hret _ _ _ _ dX9_give_29 (by first | rfl | omega | ((repeat' split) <;> first | (exfalso; omega) | rfl | exact mu_mu | omega)) (by (repeat' split) <;> first | (exfalso; omega) | rfl | exact (barM_ok (σ := mu σ 0 0 0) hbx).symm)
  · refine g_iload_n C dX9_give_13 (p := 2) (hi := rfl) (hv := rfl) ?_
    refine g_callS C dX9_give_14 (kX9_isRow (σ := (mu σ 0 0 0)) (r := r) hap hE (by first | assumption | omega | exact hT | exact hpe | exact hm | exact hit | exact hac | exact rt | exact rr | exact rs)) mw_X9_isRow wl_X9_58 (by decide) (by decide) rfl rfl (by simp [Value.category]) ?_
    refine g_if_eq C (tgt := 27) dX9_give_17 (by decide) (by omega) (fun h_2 => ?_) (fun h_2 => ?_)
    · refine g_ldc C (n := (-1000001)) wk_X9_64 (by decide +kernel) dX9_give_27 ?_
      exact hret _ _ _ _ dX9_give_29 (by first | rfl | omega | ((repeat' split) <;> first | (exfalso; omega) | rfl | exact mu_mu | omega)) (by (repeat' split) <;> first | (exfalso; omega) | rfl | exact (barM_ok (σ := mu σ 0 0 0) hbx).symm)
    · refine g_iload_n C dX9_give_20 (p := 3) (hi := rfl) (hv := rfl) ?_
      refine g_callS C dX9_give_21 (kX9_isSeed (σ := (mu σ 0 0 0)) (v := seed) hap hE (by first | assumption | omega | exact hT | exact hpe | exact hm | exact hit | exact hac | exact rt | exact rr | exact rs)) mw_X9_isSeed wl_X9_213 (by decide) (by decide) rfl rfl (by simp [Value.category]) ?_
      refine g_if_ne C (tgt := 30) dX9_give_24 (by decide) (by omega) (fun h_3 => ?_) (fun h_3 => ?_)
      · refine g_aload_n C dX9_give_30 (p := 0) (hi := rfl) (hv := rfl) ?_
        refine g_iload_n C dX9_give_31 (p := 1) (hi := rfl) (hv := rfl) ?_
        refine g_iconst C dX9_give_32 ?_
        refine gm_call C dX9_give_33 (kX9_of (σ := (mu σ 0 0 0)) (t := t) (w := 4) hap hE (by first | assumption | omega | exact hT | exact hpe | exact hm | exact hit | exact hac | exact rt | exact rr | exact rs) (by first | assumption | omega | exact hT | exact hpe | exact hm | exact hit | exact hac | exact rt | exact rr | exact rs)) mw_X9_of wl_X9_176 (by decide) (by decide) rfl rfl (by simp [Value.category]) ?_
        refine g_cI (b := (σ 4 (12 + 6 * t + 4))) (by first | rfl | (congr 1 <;> first | rfl | exact over_out (by omega)) | (congr 2 <;> first | rfl | exact over_out (by omega)) | simp [mu_app, mr_app]) ?_
        refine g_ldc C (n := (-1000000)) wk_X9_80 (by decide +kernel) dX9_give_36 ?_
        refine g_icmp_eq C (tgt := 44) dX9_give_38 (by decide) (by have := hhs t (by omega) (by omega); omega) (by omega) (fun h_4 => ?_) (fun h_4 => ?_)
        · refine g_aload_n C dX9_give_44 (p := 0) (hi := rfl) (hv := rfl) ?_
          refine g_iload_n C dX9_give_45 (p := 2) (hi := rfl) (hv := rfl) ?_
          by_cases hb_5 : okB (mu σ 0 0 0) r
          · have hbx : okB σ r := hb_5
            have hsw := barSW hp.1 hbx
            refine gm_call C dX9_give_46 (kX9_barred_ok (σ := (mu σ 0 0 0)) (r := r) hap hE (by show 0 ≤ σ 4 2 ∧ σ 4 2 ≤ 4; first | assumption | omega | exact hT | exact hpe | exact hm | exact hit | exact hac | exact rt | exact rr | exact rs) (by show ∀ r : Int, 0 ≤ r → r ≤ 7 → (-1 ≤ (σ 1) r ∧ (σ 1) r ≤ 2) ∧ (0 ≤ (σ 2) r ∧ (σ 2) r ≤ 40); first | assumption | omega | exact hT | exact hpe | exact hm | exact hit | exact hac | exact rt | exact rr | exact rs) (by show ∀ j : Int, R3 ((σ 3) j); first | assumption | omega | exact hT | exact hpe | exact hm | exact hit | exact hac | exact rt | exact rr | exact rs) (by first | assumption | omega | exact hT | exact hpe | exact hm | exact hit | exact hac | exact rt | exact rr | exact rs) (by first | assumption | omega | exact hT | exact hpe | exact hm | exact hit | exact hac | exact rt | exact rr | exact rs)) mw_X9_barred wl_X9_217 (by decide) (by decide) rfl rfl (by simp [Value.category]) ?_
            show G M ad 12 (cfM ad K) 49 [(0, .ref (ad 0)), (1, .int (iI t)), (2, .int (iI r)), (3, .int (iI seed))] [.int (iI 0)] (mu (mr (mu σ 0 0 0) 8 (over (σ 8) (fun p => (σ 3) (40 * r + p)) 0 (σ 4 2))) 0 1 0)
            refine g_istore C hn dX9_give_49 rfl rfl ?_
            refine g_iload C dX9_give_51 (p := 0) rfl ?_
            refine g_if_ge C (tgt := 61) dX9_give_53 (by decide) (by omega) (fun h_6 => ?_) (fun h_6 => ?_)
            · refine g_aload_n C dX9_give_61 (p := 1) (hi := rfl) (hv := rfl) ?_
              refine g_iload_n C dX9_give_62 (p := 2) (hi := rfl) (hv := rfl) ?_
              refine g_iload_n C dX9_give_63 (p := 4) (hi := rfl) (hv := rfl) ?_
              refine gm_call C dX9_give_64 (kX9_goRound (σ := (mu (mr (mu σ 0 0 0) 8 (over (σ 8) (fun p => (σ 3) (40 * r + p)) 0 (σ 4 2))) 0 1 0)) (t := t) (seed := seed) hap hE (by show TW (σ 4); first | assumption | omega | exact hT | exact hpe | exact hm | exact hit | exact hac | exact rt | exact rr | exact rs) (by show 1 ≤ σ 4 2 ∧ σ 4 2 ≤ 4; first | assumption | omega | exact hT | exact hpe | exact hm | exact hit | exact hac | exact rt | exact rr | exact rs) (by show SW (σ 4 2) (over (σ 8) (fun p => (σ 3) (40 * r + p)) 0 (σ 4 2)); first | assumption | omega | exact hT | exact hpe | exact hm | exact hit | exact hac | exact rt | exact rr | exact rs) (by show 0 ≤ σ 0 8 ∧ σ 0 8 ≤ 24; first | assumption | omega | exact hT | exact hpe | exact hm | exact hit | exact hac | exact rt | exact rr | exact rs) (by first | assumption | omega | exact hT | exact hpe | exact hm | exact hit | exact hac | exact rt | exact rr | exact rs) (by first | assumption | omega | exact hT | exact hpe | exact hm | exact hit | exact hac | exact rt | exact rr | exact rs)) mw_X9_goRound wl_X9_220 (by decide) (by decide) rfl rfl (by simp [Value.category]) ?_
              refine g_cI (b := (toR (over (σ 8) (fun p => (σ 3) (40 * r + p)) 0 (σ 4 2)) (σ 4 2) seed)) (by first | rfl | (congr 1 <;> first | rfl | exact over_out (by omega)) | (congr 2 <;> first | rfl | exact over_out (by omega)) | simp [mu_app, mr_app]) ?_
              show G M ad 12 (cfM ad K) 67 [(4, .int (iI 0)), (0, .ref (ad 0)), (1, .int (iI t)), (2, .int (iI r)), (3, .int (iI seed))] [.int (iI (toR (over (σ 8) (fun p => (σ 3) (40 * r + p)) 0 (σ 4 2)) (σ 4 2) seed))] (mu (mr (mu (mr (mu (mr (mu σ 0 0 0) 8 (over (σ 8) (fun p => (σ 3) (40 * r + p)) 0 (σ 4 2))) 0 1 0) 6 (kepF (mu (mr (mu σ 0 0 0) 8 (over (σ 8) (fun p => (σ 3) (40 * r + p)) 0 (σ 4 2))) 0 1 0))) 0 8 (kepN (mu (mr (mu σ 0 0 0) 8 (over (σ 8) (fun p => (σ 3) (40 * r + p)) 0 (σ 4 2))) 0 1 0))) 4 (over (σ 4) (fun x => (σ 4) x + coiB (σ 4 1) (σ 4 2) (over (σ 8) (fun p => (σ 3) (40 * r + p)) 0 (σ 4 2)) (σ 4 0) (x - 8) (toR (over (σ 8) (fun p => (σ 3) (40 * r + p)) 0 (σ 4 2)) (σ 4 2) seed)) 8 (8 + σ 4 2))) 4 (12 + 6 * t + 4) (toR (over (σ 8) (fun p => (σ 3) (40 * r + p)) 0 (σ 4 2)) (σ 4 2) seed))
              exact hret _ _ _ _ dX9_give_67 (by first | rfl | omega | ((repeat' split) <;> first | (exfalso; omega) | rfl | exact mu_mu | omega)) (by (repeat' split) <;> first | (exfalso; omega) | rfl | exact (barM_ok (σ := mu σ 0 0 0) hbx).symm)
            · exact absurd h_6 (by decide)
          · have hnx : ¬ okB σ r := hb_5
            have hneg := barR_no (σ := (mu σ 0 0 0)) hb_5
            refine gm_call C dX9_give_46 (kX9_barred_no (σ := (mu σ 0 0 0)) (r := r) hap hE (by show 0 ≤ σ 4 2 ∧ σ 4 2 ≤ 4; first | assumption | omega | exact hT | exact hpe | exact hm | exact hit | exact hac | exact rt | exact rr | exact rs) (by show ∀ r : Int, 0 ≤ r → r ≤ 7 → (-1 ≤ (σ 1) r ∧ (σ 1) r ≤ 2) ∧ (0 ≤ (σ 2) r ∧ (σ 2) r ≤ 40); first | assumption | omega | exact hT | exact hpe | exact hm | exact hit | exact hac | exact rt | exact rr | exact rs) (by show ∀ j : Int, R3 ((σ 3) j); first | assumption | omega | exact hT | exact hpe | exact hm | exact hit | exact hac | exact rt | exact rr | exact rs) (by first | assumption | omega | exact hT | exact hpe | exact hm | exact hit | exact hac | exact rt | exact rr | exact rs) (by first | assumption | omega | exact hT | exact hpe | exact hm | exact hit | exact hac | exact rt | exact rr | exact rs)) mw_X9_barred wl_X9_217 (by decide) (by decide) rfl rfl (by simp [Value.category]) ?_
            refine g_istore C hn dX9_give_49 rfl rfl ?_
            refine g_iload C dX9_give_51 (p := 0) rfl ?_
            refine g_if_ge C (tgt := 61) dX9_give_53 (by decide) (by omega) (fun h_7 => ?_) (fun h_7 => ?_)
            · exact absurd h_7 (by omega)
            · refine g_iload C dX9_give_56 (p := 0) rfl ?_
              refine g_goto C (tgt := 67) dX9_give_58 (by decide) ?_
              exact hret _ _ _ _ dX9_give_67 (by first | rfl | omega | ((repeat' split) <;> first | (exfalso; omega) | rfl | exact mu_mu | omega)) (by (repeat' split) <;> first | (exfalso; omega) | rfl | exact (barM_ok (σ := mu σ 0 0 0) hbx).symm)
        · refine g_ldc C (n := (-1000002)) wk_X9_216 (by decide +kernel) dX9_give_41 ?_
          exact hret _ _ _ _ dX9_give_43 (by first | rfl | omega | ((repeat' split) <;> first | (exfalso; omega) | rfl | exact mu_mu | omega)) (by (repeat' split) <;> first | (exfalso; omega) | rfl | exact (barM_ok (σ := mu σ 0 0 0) hbx).symm)
      · refine g_ldc C (n := (-1000001)) wk_X9_64 (by decide +kernel) dX9_give_27 ?_
        exact hret _ _ _ _ dX9_give_29 (by first | rfl | omega | ((repeat' split) <;> first | (exfalso; omega) | rfl | exact mu_mu | omega)) (by (repeat' split) <;> first | (exfalso; omega) | rfl | exact (barM_ok (σ := mu σ 0 0 0) hbx).symm)
set_option maxHeartbeats 4000000 in
set_option maxRecDepth 100000 in
theorem kX9_offer {l : Launch} {K : Nat → ClassId} {D : va_G} {ad : Int → Nat} {E : gEnv} {σ : Mem} {t seed : Int} (hap : Apart ad 12) (hE : gEok E) (hT : TW (σ 4)) (hpe : σ 4 3 = 0 ∨ 1 ≤ σ 4 2) (hac : 0 ≤ σ 0 8 ∧ σ 0 8 ≤ 24) (rt : R3 t) (rs : R3 seed) : CtI l K D ad 12 (cfM ad K) E yX9_offer cX9_offer 3 (some .int) 4 [.ref (ad 0), .int (iI t), .int (iI seed)] σ (if (0 ≤ t ∧ t ≤ σ 4 3 - 1) ∧ (1 ≤ seed ∧ seed ≤ 999999) then (if ¬ σ 4 (12 + 6 * t + 4) = -1000000 then -1000002 else toR (over (σ 8) (fun p => owF (σ 4) t p) 0 (σ 4 2)) (σ 4 2) seed) else -1000001) (if (0 ≤ t ∧ t ≤ σ 4 3 - 1) ∧ (1 ≤ seed ∧ seed ≤ 999999) ∧ σ 4 (12 + 6 * t + 4) = -1000000 then rndM (mr (mu σ 0 0 0) 8 (over (σ 8) (fun p => owF (σ 4) t p) 0 (σ 4 2))) t seed else mu σ 0 0 0) := by
  have hp : 0 ≤ σ 4 2 ∧ σ 4 2 ≤ 4 := hT.2.2.1
  have ht3 : 0 ≤ σ 4 3 ∧ σ 4 3 ≤ 5 := hT.2.2.2.1
  have hhs := hT.2.2.2.2.2.2.1
  have hown : SW (σ 4 2) (over (σ 8) (fun p => owF (σ 4) t p) 0 (σ 4 2)) := ownSW
  refine ctI_of hap hE (by decide) rfl .int (nar_i _) (fun M C hn hret => ?_)
  have C : Good l K D ad 12 E 4 cX9_offer RX9 M := C
  show G M ad 12 (cfM ad K) 0 [(0, .ref (ad 0)), (1, .int (iI t)), (2, .int (iI seed))] [] σ
  refine g_aload_n C dX9_offer_0 (p := 0) (hi := rfl) (hv := rfl) ?_
  refine g_iconst C dX9_offer_1 ?_
  refine gm_p_thrown C dX9_offer_2 wf_X9_44 ?_
  refine g_aload_n C dX9_offer_5 (p := 0) (hi := rfl) (hv := rfl) ?_
  refine g_iload_n C dX9_offer_6 (p := 1) (hi := rfl) (hv := rfl) ?_
  refine gm_call C dX9_offer_7 (kX9_isThing (σ := (mu σ 0 0 0)) (t := t) hap hE (by show 0 ≤ σ 4 3 ∧ σ 4 3 ≤ 5; first | assumption | omega | exact hT | exact hpe | exact hac | exact rt | exact rs | exact hown) (by first | assumption | omega | exact hT | exact hpe | exact hac | exact rt | exact rs | exact hown)) mw_X9_isThing wl_X9_210 (by decide) (by decide) rfl rfl (by simp [Value.category]) ?_
  refine g_cI (b := (if 0 ≤ t ∧ t ≤ σ 4 3 - 1 then 1 else 0)) (by first | rfl | (congr 1 <;> first | rfl | exact over_out (by omega)) | (congr 2 <;> first | rfl | exact over_out (by omega)) | simp [mu_app, mr_app]) ?_
  refine g_if_eq C (tgt := 20) dX9_offer_10 (by decide) (by omega) (fun h_1 => ?_) (fun h_1 => ?_)
  · refine g_ldc C (n := (-1000001)) wk_X9_64 (by decide +kernel) dX9_offer_20 ?_
    exact hret _ _ _ _ dX9_offer_22 (by first | rfl | omega | ((repeat' split) <;> first | (exfalso; omega) | rfl | exact mu_mu | omega)) (by first | rfl | omega | ((repeat' split) <;> first | (exfalso; omega) | rfl | exact mu_mu | omega))
  · refine g_iload_n C dX9_offer_13 (p := 2) (hi := rfl) (hv := rfl) ?_
    refine g_callS C dX9_offer_14 (kX9_isSeed (σ := (mu σ 0 0 0)) (v := seed) hap hE (by first | assumption | omega | exact hT | exact hpe | exact hac | exact rt | exact rs | exact hown)) mw_X9_isSeed wl_X9_213 (by decide) (by decide) rfl rfl (by simp [Value.category]) ?_
    refine g_if_ne C (tgt := 23) dX9_offer_17 (by decide) (by omega) (fun h_2 => ?_) (fun h_2 => ?_)
    · refine g_aload_n C dX9_offer_23 (p := 0) (hi := rfl) (hv := rfl) ?_
      refine g_iload_n C dX9_offer_24 (p := 1) (hi := rfl) (hv := rfl) ?_
      refine g_iconst C dX9_offer_25 ?_
      refine gm_call C dX9_offer_26 (kX9_of (σ := (mu σ 0 0 0)) (t := t) (w := 4) hap hE (by first | assumption | omega | exact hT | exact hpe | exact hac | exact rt | exact rs | exact hown) (by first | assumption | omega | exact hT | exact hpe | exact hac | exact rt | exact rs | exact hown)) mw_X9_of wl_X9_176 (by decide) (by decide) rfl rfl (by simp [Value.category]) ?_
      refine g_cI (b := (σ 4 (12 + 6 * t + 4))) (by first | rfl | (congr 1 <;> first | rfl | exact over_out (by omega)) | (congr 2 <;> first | rfl | exact over_out (by omega)) | simp [mu_app, mr_app]) ?_
      refine g_ldc C (n := (-1000000)) wk_X9_80 (by decide +kernel) dX9_offer_29 ?_
      refine g_icmp_eq C (tgt := 37) dX9_offer_31 (by decide) (by have := hhs t (by omega) (by omega); omega) (by omega) (fun h_3 => ?_) (fun h_3 => ?_)
      · refine g_aload_n C dX9_offer_37 (p := 0) (hi := rfl) (hv := rfl) ?_
        refine g_iload_n C dX9_offer_38 (p := 1) (hi := rfl) (hv := rfl) ?_
        refine gm_callv C dX9_offer_39 (kX9_layOwn (σ := (mu σ 0 0 0)) (t := t) hap hE (by show TW (σ 4); first | assumption | omega | exact hT | exact hpe | exact hac | exact rt | exact rs | exact hown) (by first | assumption | omega | exact hT | exact hpe | exact hac | exact rt | exact rs | exact hown)) mw_X9_layOwn wl_X9_223 (by decide) (by decide) rfl rfl (by simp [Value.category]) ?_
        show G M ad 12 (cfM ad K) 42 [(0, .ref (ad 0)), (1, .int (iI t)), (2, .int (iI seed))] [] (mr (mu σ 0 0 0) 8 (over (σ 8) (fun p => owF (σ 4) t p) 0 (σ 4 2)))
        refine g_aload_n C dX9_offer_42 (p := 0) (hi := rfl) (hv := rfl) ?_
        refine g_iload_n C dX9_offer_43 (p := 1) (hi := rfl) (hv := rfl) ?_
        refine g_iload_n C dX9_offer_44 (p := 2) (hi := rfl) (hv := rfl) ?_
        refine gm_call C dX9_offer_45 (kX9_goRound (σ := (mr (mu σ 0 0 0) 8 (over (σ 8) (fun p => owF (σ 4) t p) 0 (σ 4 2)))) (t := t) (seed := seed) hap hE (by show TW (σ 4); first | assumption | omega | exact hT | exact hpe | exact hac | exact rt | exact rs | exact hown) (by show 1 ≤ σ 4 2 ∧ σ 4 2 ≤ 4; first | assumption | omega | exact hT | exact hpe | exact hac | exact rt | exact rs | exact hown) (by show SW (σ 4 2) (over (σ 8) (fun p => owF (σ 4) t p) 0 (σ 4 2)); first | assumption | omega | exact hT | exact hpe | exact hac | exact rt | exact rs | exact hown) (by show 0 ≤ σ 0 8 ∧ σ 0 8 ≤ 24; first | assumption | omega | exact hT | exact hpe | exact hac | exact rt | exact rs | exact hown) (by first | assumption | omega | exact hT | exact hpe | exact hac | exact rt | exact rs | exact hown) (by first | assumption | omega | exact hT | exact hpe | exact hac | exact rt | exact rs | exact hown)) mw_X9_goRound wl_X9_220 (by decide) (by decide) rfl rfl (by simp [Value.category]) ?_
        refine g_cI (b := (toR (over (σ 8) (fun p => owF (σ 4) t p) 0 (σ 4 2)) (σ 4 2) seed)) (by first | rfl | (congr 1 <;> first | rfl | exact over_out (by omega)) | (congr 2 <;> first | rfl | exact over_out (by omega)) | simp [mu_app, mr_app]) ?_
        show G M ad 12 (cfM ad K) 48 [(0, .ref (ad 0)), (1, .int (iI t)), (2, .int (iI seed))] [.int (iI (toR (over (σ 8) (fun p => owF (σ 4) t p) 0 (σ 4 2)) (σ 4 2) seed))] (mu (mr (mu (mr (mr (mu σ 0 0 0) 8 (over (σ 8) (fun p => owF (σ 4) t p) 0 (σ 4 2))) 6 (kepF (mr (mu σ 0 0 0) 8 (over (σ 8) (fun p => owF (σ 4) t p) 0 (σ 4 2))))) 0 8 (kepN (mr (mu σ 0 0 0) 8 (over (σ 8) (fun p => owF (σ 4) t p) 0 (σ 4 2))))) 4 (over (σ 4) (fun x => (σ 4) x + coiB (σ 4 1) (σ 4 2) (over (σ 8) (fun p => owF (σ 4) t p) 0 (σ 4 2)) (σ 4 0) (x - 8) (toR (over (σ 8) (fun p => owF (σ 4) t p) 0 (σ 4 2)) (σ 4 2) seed)) 8 (8 + σ 4 2))) 4 (12 + 6 * t + 4) (toR (over (σ 8) (fun p => owF (σ 4) t p) 0 (σ 4 2)) (σ 4 2) seed))
        exact hret _ _ _ _ dX9_offer_48 (by first | rfl | omega | ((repeat' split) <;> first | (exfalso; omega) | rfl | exact mu_mu | omega)) (by first | rfl | omega | ((repeat' split) <;> first | (exfalso; omega) | rfl | exact mu_mu | omega))
      · refine g_ldc C (n := (-1000002)) wk_X9_216 (by decide +kernel) dX9_offer_34 ?_
        exact hret _ _ _ _ dX9_offer_36 (by first | rfl | omega | ((repeat' split) <;> first | (exfalso; omega) | rfl | exact mu_mu | omega)) (by first | rfl | omega | ((repeat' split) <;> first | (exfalso; omega) | rfl | exact mu_mu | omega))
    · refine g_ldc C (n := (-1000001)) wk_X9_64 (by decide +kernel) dX9_offer_20 ?_
      exact hret _ _ _ _ dX9_offer_22 (by first | rfl | omega | ((repeat' split) <;> first | (exfalso; omega) | rfl | exact mu_mu | omega)) (by first | rfl | omega | ((repeat' split) <;> first | (exfalso; omega) | rfl | exact mu_mu | omega))
set_option maxHeartbeats 4000000 in
set_option maxRecDepth 100000 in
theorem kX9_count {l : Launch} {K : Nat → ClassId} {D : va_G} {ad : Int → Nat} {E : gEnv} {σ : Mem} {what : Int} (hap : Apart ad 12) (hE : gEok E) (hT : TW (σ 4)) (hm : ∀ r : Int, 0 ≤ r → r ≤ 7 → (-1 ≤ σ 1 r ∧ σ 1 r ≤ 2) ∧ (0 ≤ σ 2 r ∧ σ 2 r ≤ 40)) (rw : R3 what) : CtI l K D ad 12 (cfM ad K) E yX9_count cX9_count 4 (some .int) 1 [.ref (ad 0), .int (iI what)] σ (if what = 0 then corF (σ 1) 8 else if what = 1 then σ 4 2 else if what = 2 then σ 4 3 else if what = 3 then cohF (σ 4) (σ 4 3).toNat else if what = 4 then σ 0 8 else if what = 5 then σ 4 0 else if what = 6 then σ 4 1 else if what = 7 then σ 0 10 else -1000001) (mu σ 0 0 0) := by
  have hp : 0 ≤ σ 4 2 ∧ σ 4 2 ≤ 4 := hT.2.2.1
  have ht3 : 0 ≤ σ 4 3 ∧ σ 4 3 ≤ 5 := hT.2.2.2.1
  have hhs := hT.2.2.2.2.2.2.1
  refine ctI_of hap hE (by decide) rfl .int (nar_i _) (fun M C hn hret => ?_)
  have C : Good l K D ad 12 E 1 cX9_count RX9 M := C
  show G M ad 12 (cfM ad K) 0 [(0, .ref (ad 0)), (1, .int (iI what))] [] σ
  refine g_aload_n C dX9_count_0 (p := 0) (hi := rfl) (hv := rfl) ?_
  refine g_iconst C dX9_count_1 ?_
  refine gm_p_thrown C dX9_count_2 wf_X9_44 ?_
  refine g_iconst C dX9_count_5 ?_
  refine g_istore_n C hn dX9_count_6 rfl rfl rfl ?_
  refine g_iload_n C dX9_count_7 (p := 2) (hi := rfl) (hv := rfl) ?_
  rcases (show what = 0 ∨ what = 1 ∨ what = 2 ∨ what = 3 ∨ what = 4 ∨ what = 5 ∨ what = 6 ∨ what = 7 ∨ (what < 0 ∨ 7 < what) from by omega) with h_1 | h_1 | h_1 | h_1 | h_1 | h_1 | h_1 | h_1 | h_1
  · refine g_swIn C 0 (tgt := 56) dX9_count_8 (by omega) h_1 (by decide) (by decide) rfl (by decide) ?_
    refine g_iconst C dX9_count_56 ?_
    refine g_istore_n C hn dX9_count_57 rfl rfl rfl ?_
    have L58 : ∀ i : Nat, i ≤ 8 → ∀ (x2 x3 : Int), x2 = corF (σ 1) i → x3 = (i : Int) → G M ad 12 (cfM ad K) 58 [(0, .ref (ad 0)), (1, .int (iI what)), (2, .int (iI x2)), (3, .int (iI x3))] [] (mu σ 0 0 0) := by
      refine loopUp 8 ?_
      rintro i hi ihi x2 x3 rfl rfl
      refine g_iload_n C dX9_count_58 (p := 3) (hi := rfl) (hv := rfl) ?_
      refine (g_bipush C dX9_count_59 (by decide)) ?_
      refine g_icmp_ge C (tgt := 87) dX9_count_61 (by decide) (by omega) (by omega) (fun h_2 => ?_) (fun h_2 => ?_)
      · have hiN : i = 8 := by omega
        refine g_iload_n C dX9_count_87 (p := 2) (hi := rfl) (hv := rfl) ?_
        exact hret _ _ _ _ dX9_count_88 (by (try subst hiN); (try subst hiN); (try subst hjN); (repeat' split) <;> first | (exfalso; omega) | rfl | omega) (by (try subst hiN); first | rfl | omega | ((repeat' split) <;> first | (exfalso; omega) | rfl | exact mu_mu | omega))
      · refine g_iload_n C dX9_count_64 (p := 2) (hi := rfl) (hv := rfl) ?_
        refine g_aload_n C dX9_count_65 (p := 0) (hi := rfl) (hv := rfl) ?_
        refine gm_g_lane C dX9_count_66 wf_X9_7 ?_
        refine g_iload_n C dX9_count_69 (p := 3) (hi := rfl) (hv := rfl) ?_
        refine gm_l_lane C dX9_count_70 (by omega) (by omega) ?_
        refine g_cI (b := (σ 1 (i : Int))) (by first | rfl | (rw [mr_app, if_pos rfl]; exact over_out (by omega)) | simp [mu_app, mr_app]) ?_
        refine g_if_lt C (tgt := 78) dX9_count_71 (by decide) (by have := hm (i : Int) (by omega) (by omega); omega) (fun h_3 => ?_) (fun h_3 => ?_)
        · refine g_iconst C dX9_count_78 ?_
          refine g_iadd C dX9_count_79 ?_
          refine g_istore_n C hn dX9_count_80 rfl rfl rfl ?_
          refine g_iinc C hn dX9_count_81 (p := 3) rfl rfl rfl ?_
          refine g_goto C (tgt := 58) dX9_count_84 (by decide) ?_
          refine g_sub [2, 3, 1, 0] rfl ?_
          exact ihi (by omega) _ _ (by first | omega | (simp only [corF]; (repeat' split) <;> omega)) (by first | omega | (simp only [corF]; (repeat' split) <;> omega))
        · refine g_iconst C dX9_count_74 ?_
          refine g_goto C (tgt := 79) dX9_count_75 (by decide) ?_
          refine g_iadd C dX9_count_79 ?_
          refine g_istore_n C hn dX9_count_80 rfl rfl rfl ?_
          refine g_iinc C hn dX9_count_81 (p := 3) rfl rfl rfl ?_
          refine g_goto C (tgt := 58) dX9_count_84 (by decide) ?_
          refine g_sub [2, 3, 1, 0] rfl ?_
          exact ihi (by omega) _ _ (by first | omega | (simp only [corF]; (repeat' split) <;> omega)) (by first | omega | (simp only [corF]; (repeat' split) <;> omega))
    refine g_sub [2, 3, 1, 0] rfl ?_
    exact L58 0 (Nat.zero_le _) _ _ (by first | rfl | omega | simp) (by first | rfl | omega | simp)
  · refine g_swIn C 1 (tgt := 89) dX9_count_8 (by omega) h_1 (by decide) (by decide) rfl (by decide) ?_
    refine g_aload_n C dX9_count_89 (p := 1) (hi := rfl) (hv := rfl) ?_
    refine gm_g_town C dX9_count_90 wf_X9_19 ?_
    refine g_iconst C dX9_count_93 ?_
    refine gm_l_town C dX9_count_94 (by omega) (by omega) ?_
    refine g_cI (b := (σ 4 2)) (by first | rfl | (rw [mr_app, if_pos rfl]; exact over_out (by omega)) | simp [mu_app, mr_app]) ?_
    exact hret _ _ _ _ dX9_count_95 (by (try subst hiN); (try subst hiN); (try subst hjN); (repeat' split) <;> first | (exfalso; omega) | rfl | omega) (by (try subst hiN); first | rfl | omega | ((repeat' split) <;> first | (exfalso; omega) | rfl | exact mu_mu | omega))
  · refine g_swIn C 2 (tgt := 96) dX9_count_8 (by omega) h_1 (by decide) (by decide) rfl (by decide) ?_
    refine g_aload_n C dX9_count_96 (p := 1) (hi := rfl) (hv := rfl) ?_
    refine gm_g_town C dX9_count_97 wf_X9_19 ?_
    refine g_iconst C dX9_count_100 ?_
    refine gm_l_town C dX9_count_101 (by omega) (by omega) ?_
    refine g_cI (b := (σ 4 3)) (by first | rfl | (rw [mr_app, if_pos rfl]; exact over_out (by omega)) | simp [mu_app, mr_app]) ?_
    exact hret _ _ _ _ dX9_count_102 (by (try subst hiN); (try subst hiN); (try subst hjN); (repeat' split) <;> first | (exfalso; omega) | rfl | omega) (by (try subst hiN); first | rfl | omega | ((repeat' split) <;> first | (exfalso; omega) | rfl | exact mu_mu | omega))
  · refine g_swIn C 3 (tgt := 103) dX9_count_8 (by omega) h_1 (by decide) (by decide) rfl (by decide) ?_
    refine g_iconst C dX9_count_103 ?_
    refine g_istore_n C hn dX9_count_104 rfl rfl rfl ?_
    have L105 : ∀ j : Nat, j ≤ ((σ 4 3).toNat) → ∀ (x2 x3 : Int), x2 = cohF (σ 4) j → x3 = (j : Int) → G M ad 12 (cfM ad K) 105 [(0, .ref (ad 0)), (1, .int (iI what)), (2, .int (iI x2)), (3, .int (iI x3))] [] (mu σ 0 0 0) := by
      refine loopUp ((σ 4 3).toNat) ?_
      rintro j hj ihj x2 x3 rfl rfl
      refine g_iload_n C dX9_count_105 (p := 3) (hi := rfl) (hv := rfl) ?_
      refine g_aload_n C dX9_count_106 (p := 0) (hi := rfl) (hv := rfl) ?_
      refine gm_g_town C dX9_count_107 wf_X9_19 ?_
      refine g_iconst C dX9_count_110 ?_
      refine gm_l_town C dX9_count_111 (by omega) (by omega) ?_
      refine g_cI (b := (σ 4 3)) (by first | rfl | (rw [mr_app, if_pos rfl]; exact over_out (by omega)) | simp [mu_app, mr_app]) ?_
      refine g_icmp_ge C (tgt := 140) dX9_count_112 (by decide) (by omega) (by omega) (fun h_4 => ?_) (fun h_4 => ?_)
      · have hjN : j = ((σ 4 3).toNat) := by omega
        refine g_iload_n C dX9_count_140 (p := 2) (hi := rfl) (hv := rfl) ?_
        exact hret _ _ _ _ dX9_count_141 (by (try subst hiN); (try subst hjN); (try subst hiN); (try subst hjN); (repeat' split) <;> first | (exfalso; omega) | rfl | omega) (by (try subst hiN); (try subst hjN); first | rfl | omega | ((repeat' split) <;> first | (exfalso; omega) | rfl | exact mu_mu | omega))
      · refine g_iload_n C dX9_count_115 (p := 2) (hi := rfl) (hv := rfl) ?_
        refine g_aload_n C dX9_count_116 (p := 0) (hi := rfl) (hv := rfl) ?_
        refine g_iload_n C dX9_count_117 (p := 3) (hi := rfl) (hv := rfl) ?_
        refine g_iconst C dX9_count_118 ?_
        refine gm_call C dX9_count_119 (kX9_of (σ := (mu σ 0 0 0)) (t := (j : Int)) (w := 4) hap hE (by first | assumption | omega | exact hT | exact hm | exact rw) (by first | assumption | omega | exact hT | exact hm | exact rw)) mw_X9_of wl_X9_176 (by decide) (by decide) rfl rfl (by simp [Value.category]) ?_
        refine g_cI (b := (σ 4 (12 + 6 * (j : Int) + 4))) (by first | rfl | (congr 1 <;> first | rfl | exact over_out (by omega)) | (congr 2 <;> first | rfl | exact over_out (by omega)) | simp [mu_app, mr_app]) ?_
        refine g_ldc C (n := (-1000000)) wk_X9_80 (by decide +kernel) dX9_count_122 ?_
        refine g_icmp_eq C (tgt := 131) dX9_count_124 (by decide) (by have := hhs (j : Int) (by omega) (by omega); omega) (by omega) (fun h_5 => ?_) (fun h_5 => ?_)
        · refine g_iconst C dX9_count_131 ?_
          refine g_iadd C dX9_count_132 ?_
          refine g_istore_n C hn dX9_count_133 rfl rfl rfl ?_
          refine g_iinc C hn dX9_count_134 (p := 3) rfl rfl rfl ?_
          refine g_goto C (tgt := 105) dX9_count_137 (by decide) ?_
          refine g_sub [2, 3, 1, 0] rfl ?_
          exact ihj (by omega) _ _ (by first | omega | (simp only [cohF]; (repeat' split) <;> omega)) (by first | omega | (simp only [cohF]; (repeat' split) <;> omega))
        · refine g_iconst C dX9_count_127 ?_
          refine g_goto C (tgt := 132) dX9_count_128 (by decide) ?_
          refine g_iadd C dX9_count_132 ?_
          refine g_istore_n C hn dX9_count_133 rfl rfl rfl ?_
          refine g_iinc C hn dX9_count_134 (p := 3) rfl rfl rfl ?_
          refine g_goto C (tgt := 105) dX9_count_137 (by decide) ?_
          refine g_sub [2, 3, 1, 0] rfl ?_
          exact ihj (by omega) _ _ (by first | omega | (simp only [cohF]; (repeat' split) <;> omega)) (by first | omega | (simp only [cohF]; (repeat' split) <;> omega))
    refine g_sub [2, 3, 1, 0] rfl ?_
    exact L105 0 (Nat.zero_le _) _ _ (by first | rfl | omega | simp) (by first | rfl | omega | simp)
  · refine g_swIn C 4 (tgt := 142) dX9_count_8 (by omega) h_1 (by decide) (by decide) rfl (by decide) ?_
    refine g_aload_n C dX9_count_142 (p := 1) (hi := rfl) (hv := rfl) ?_
    refine gm_g_acts C dX9_count_143 wf_X9_171 ?_
    refine g_cI (b := (σ 0 8)) (by first | rfl | (rw [mr_app, if_pos rfl]; exact over_out (by omega)) | simp [mu_app, mr_app]) ?_
    exact hret _ _ _ _ dX9_count_146 (by (try subst hiN); (try subst hjN); (try subst hiN); (try subst hjN); (repeat' split) <;> first | (exfalso; omega) | rfl | omega) (by (try subst hiN); (try subst hjN); first | rfl | omega | ((repeat' split) <;> first | (exfalso; omega) | rfl | exact mu_mu | omega))
  · refine g_swIn C 5 (tgt := 147) dX9_count_8 (by omega) h_1 (by decide) (by decide) rfl (by decide) ?_
    refine g_aload_n C dX9_count_147 (p := 1) (hi := rfl) (hv := rfl) ?_
    refine gm_g_town C dX9_count_148 wf_X9_19 ?_
    refine g_iconst C dX9_count_151 ?_
    refine gm_l_town C dX9_count_152 (by omega) (by omega) ?_
    refine g_cI (b := (σ 4 0)) (by first | rfl | (rw [mr_app, if_pos rfl]; exact over_out (by omega)) | simp [mu_app, mr_app]) ?_
    exact hret _ _ _ _ dX9_count_153 (by (try subst hiN); (try subst hjN); (try subst hiN); (try subst hjN); (repeat' split) <;> first | (exfalso; omega) | rfl | omega) (by (try subst hiN); (try subst hjN); first | rfl | omega | ((repeat' split) <;> first | (exfalso; omega) | rfl | exact mu_mu | omega))
  · refine g_swIn C 6 (tgt := 154) dX9_count_8 (by omega) h_1 (by decide) (by decide) rfl (by decide) ?_
    refine g_aload_n C dX9_count_154 (p := 1) (hi := rfl) (hv := rfl) ?_
    refine gm_g_town C dX9_count_155 wf_X9_19 ?_
    refine g_iconst C dX9_count_158 ?_
    refine gm_l_town C dX9_count_159 (by omega) (by omega) ?_
    refine g_cI (b := (σ 4 1)) (by first | rfl | (rw [mr_app, if_pos rfl]; exact over_out (by omega)) | simp [mu_app, mr_app]) ?_
    exact hret _ _ _ _ dX9_count_160 (by (try subst hiN); (try subst hjN); (try subst hiN); (try subst hjN); (repeat' split) <;> first | (exfalso; omega) | rfl | omega) (by (try subst hiN); (try subst hjN); first | rfl | omega | ((repeat' split) <;> first | (exfalso; omega) | rfl | exact mu_mu | omega))
  · refine g_swIn C 7 (tgt := 161) dX9_count_8 (by omega) h_1 (by decide) (by decide) rfl (by decide) ?_
    refine g_aload_n C dX9_count_161 (p := 1) (hi := rfl) (hv := rfl) ?_
    refine gm_g_taped C dX9_count_162 wf_X9_71 ?_
    refine g_cI (b := (σ 0 10)) (by first | rfl | (rw [mr_app, if_pos rfl]; exact over_out (by omega)) | simp [mu_app, mr_app]) ?_
    exact hret _ _ _ _ dX9_count_165 (by (try subst hiN); (try subst hjN); (try subst hiN); (try subst hjN); (repeat' split) <;> first | (exfalso; omega) | rfl | omega) (by (try subst hiN); (try subst hjN); first | rfl | omega | ((repeat' split) <;> first | (exfalso; omega) | rfl | exact mu_mu | omega))
  · refine g_swOut C (tgt := 166) dX9_count_8 (by omega) h_1 (by decide) ?_
    refine g_ldc C (n := (-1000001)) wk_X9_64 (by decide +kernel) dX9_count_166 ?_
    exact hret _ _ _ _ dX9_count_168 (by (try subst hiN); (try subst hjN); (try subst hiN); (try subst hjN); (repeat' split) <;> first | (exfalso; omega) | rfl | omega) (by (try subst hiN); (try subst hjN); first | rfl | omega | ((repeat' split) <;> first | (exfalso; omega) | rfl | exact mu_mu | omega))

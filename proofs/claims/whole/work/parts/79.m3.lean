set_option maxHeartbeats 4000000 in
set_option maxRecDepth 100000 in
theorem kX9_keep {l : Launch} {K : Nat → ClassId} {D : va_G} {ad : Int → Nat} {E : gEnv} {σ : Mem} (hap : Apart ad 12) (hE : gEok E) (hac : 0 ≤ σ 0 8 ∧ σ 0 8 ≤ 24) : CtV l K D ad 12 (cfM ad K) E yX9_keep cX9_keep 2 none 0 [.ref (ad 0)] σ (mu (mr σ 6 (kepF σ)) 0 8 (kepN σ)) := by
  refine ctV_of hap hE (by decide) rfl (fun M C hn hret => ?_)
  have C : Good l K D ad 12 E 0 cX9_keep RX9 M := C
  show G M ad 12 (cfM ad K) 0 [(0, .ref (ad 0))] [] σ
  refine g_aload_n C dX9_keep_0 (p := 0) (hi := rfl) (hv := rfl) ?_
  refine gm_g_acts C dX9_keep_1 wf_X9_171 ?_
  refine (g_bipush C dX9_keep_4 (by decide)) ?_
  refine g_icmp_ne C (tgt := 49) dX9_keep_6 (by decide) (by omega) (by omega) (fun h_1 => ?_) (fun h_1 => ?_)
  · refine g_iconst C dX9_keep_49 ?_
    refine g_istore_n C hn dX9_keep_50 rfl rfl rfl ?_
    have L51 : ∀ j : Nat, j ≤ 42 → ∀ (x1 : Int), ∀ (τ51 : Mem), x1 = (j : Int) → τ51 = (mr σ 6 (over (σ 6) (fun k => σ 4 (k - 42 * (σ 0 8))) (42 * (σ 0 8)) (42 * (σ 0 8) + (j : Int)))) → G M ad 12 (cfM ad K) 51 [(0, .ref (ad 0)), (1, .int (iI x1))] [] τ51 := by
      refine loopUp 42 ?_
      rintro j hj ihj x1 τ51 rfl rfl
      refine g_iload_n C dX9_keep_51 (p := 1) (hi := rfl) (hv := rfl) ?_
      refine (g_bipush C dX9_keep_52 (by decide)) ?_
      refine g_icmp_ge C (tgt := 83) dX9_keep_54 (by decide) (by omega) (by omega) (fun h_2 => ?_) (fun h_2 => ?_)
      · have hjN : j = 42 := by omega
        refine g_aload_n C dX9_keep_83 (p := 0) (hi := rfl) (hv := rfl) ?_
        refine g_dup C dX9_keep_84 rfl ?_
        refine gm_g_acts C dX9_keep_85 wf_X9_171 ?_
        refine g_cI (b := (σ 0 8)) (by first | rfl | (rw [mr_app, if_pos rfl]; exact over_out (by omega)) | simp [mu_app, mr_app]) ?_
        refine g_iconst C dX9_keep_88 ?_
        refine g_iadd C dX9_keep_89 ?_
        refine gm_p_acts C dX9_keep_90 wf_X9_171 ?_
        exact hret _ _ _ dX9_keep_93 (by (try subst hjN); unfold kepF kepN; (repeat' split) <;> first | (exfalso; omega) | rfl | (rw [mr_mu_c (by decide), mu_mu]; rfl) | (rw [mr_mu_c (by decide), mu_mu, mr_mr]; rfl))
      · refine g_aload_n C dX9_keep_57 (p := 0) (hi := rfl) (hv := rfl) ?_
        refine gm_g_was C dX9_keep_58 wf_X9_25 ?_
        refine (g_bipush C dX9_keep_61 (by decide)) ?_
        refine g_aload_n C dX9_keep_63 (p := 0) (hi := rfl) (hv := rfl) ?_
        refine gm_g_acts C dX9_keep_64 wf_X9_171 ?_
        refine g_cI (b := (σ 0 8)) (by first | rfl | (rw [mr_app, if_pos rfl]; exact over_out (by omega)) | simp [mu_app, mr_app]) ?_
        refine g_imul C dX9_keep_67 ?_
        refine g_iload_n C dX9_keep_68 (p := 1) (hi := rfl) (hv := rfl) ?_
        refine g_iadd C dX9_keep_69 ?_
        refine g_aload_n C dX9_keep_70 (p := 0) (hi := rfl) (hv := rfl) ?_
        refine gm_g_town C dX9_keep_71 wf_X9_19 ?_
        refine g_iload_n C dX9_keep_74 (p := 1) (hi := rfl) (hv := rfl) ?_
        refine gm_l_town C dX9_keep_75 (by omega) (by omega) ?_
        refine g_cI (b := (σ 4 (j : Int))) (by first | rfl | (rw [mr_app, if_pos rfl]; exact over_out (by omega)) | simp [mu_app, mr_app]) ?_
        refine gm_s_was C dX9_keep_76 (by omega) (by omega) ?_
        refine g_iinc C hn dX9_keep_77 (p := 1) rfl rfl rfl ?_
        refine g_goto C (tgt := 51) dX9_keep_80 (by decide) ?_
        refine g_sub [1, 0] rfl ?_
        exact ihj (by omega) _ _ (by first | rfl | omega) (by exact over_step (by omega) (by omega) (by show σ 4 _ = σ 4 _; congr 1; omega))
    refine g_sub [1, 0] rfl ?_
    exact L51 0 (Nat.zero_le _) _ _ (by first | rfl | omega | simp) (by exact over_init (by omega))
  · refine g_iconst C dX9_keep_9 ?_
    refine g_istore_n C hn dX9_keep_10 rfl rfl rfl ?_
    have L11 : ∀ i : Nat, i ≤ 966 → ∀ (x1 : Int), ∀ (τ11 : Mem), x1 = (i : Int) → τ11 = (mr σ 6 (over (σ 6) (fun k => σ 6 (k + 42)) 0 (i : Int))) → G M ad 12 (cfM ad K) 11 [(0, .ref (ad 0)), (1, .int (iI x1))] [] τ11 := by
      refine loopUp 966 ?_
      rintro i hi ihi x1 τ11 rfl rfl
      refine g_iload_n C dX9_keep_11 (p := 1) (hi := rfl) (hv := rfl) ?_
      refine (g_sipush C dX9_keep_12 (by decide)) ?_
      refine g_icmp_ge C (tgt := 39) dX9_keep_15 (by decide) (by omega) (by omega) (fun h_3 => ?_) (fun h_3 => ?_)
      · have hiN : i = 966 := by omega
        refine g_aload_n C dX9_keep_39 (p := 0) (hi := rfl) (hv := rfl) ?_
        refine g_dup C dX9_keep_40 rfl ?_
        refine gm_g_acts C dX9_keep_41 wf_X9_171 ?_
        refine g_cI (b := (σ 0 8)) (by first | rfl | (rw [mr_app, if_pos rfl]; exact over_out (by omega)) | simp [mu_app, mr_app]) ?_
        refine g_iconst C dX9_keep_44 ?_
        refine g_isub C dX9_keep_45 ?_
        refine gm_p_acts C dX9_keep_46 wf_X9_171 ?_
        refine g_iconst C dX9_keep_49 ?_
        refine g_istore_n C hn dX9_keep_50 rfl rfl rfl ?_
        have L51 : ∀ j : Nat, j ≤ 42 → ∀ (x1 : Int), ∀ (τ51 : Mem), x1 = (j : Int) → τ51 = (mr (mu (mr σ 6 (over (σ 6) (fun k => σ 6 (k + 42)) 0 (i : Int))) 0 8 ((σ 0 8) - 1)) 6 (over ((mu (mr σ 6 (over (σ 6) (fun k => σ 6 (k + 42)) 0 (i : Int))) 0 8 ((σ 0 8) - 1)) 6) (fun k => σ 4 (k - 42 * ((σ 0 8) - 1))) (42 * ((σ 0 8) - 1)) (42 * ((σ 0 8) - 1) + (j : Int)))) → G M ad 12 (cfM ad K) 51 [(0, .ref (ad 0)), (1, .int (iI x1))] [] τ51 := by
          refine loopUp 42 ?_
          rintro j hj ihj x1 τ51 rfl rfl
          refine g_iload_n C dX9_keep_51 (p := 1) (hi := rfl) (hv := rfl) ?_
          refine (g_bipush C dX9_keep_52 (by decide)) ?_
          refine g_icmp_ge C (tgt := 83) dX9_keep_54 (by decide) (by omega) (by omega) (fun h_4 => ?_) (fun h_4 => ?_)
          · have hjN : j = 42 := by omega
            refine g_aload_n C dX9_keep_83 (p := 0) (hi := rfl) (hv := rfl) ?_
            refine g_dup C dX9_keep_84 rfl ?_
            refine gm_g_acts C dX9_keep_85 wf_X9_171 ?_
            refine g_cI (b := ((σ 0 8) - 1)) (by first | rfl | (rw [mr_app, if_pos rfl]; exact over_out (by omega)) | simp [mu_app, mr_app]) ?_
            refine g_iconst C dX9_keep_88 ?_
            refine g_iadd C dX9_keep_89 ?_
            refine gm_p_acts C dX9_keep_90 wf_X9_171 ?_
            exact hret _ _ _ dX9_keep_93 (by (try subst hiN); (try subst hjN); unfold kepF kepN; (repeat' split) <;> first | (exfalso; omega) | rfl | (rw [mr_mu_c (by decide), mu_mu]; rfl) | (rw [mr_mu_c (by decide), mu_mu, mr_mr]; rfl))
          · refine g_aload_n C dX9_keep_57 (p := 0) (hi := rfl) (hv := rfl) ?_
            refine gm_g_was C dX9_keep_58 wf_X9_25 ?_
            refine (g_bipush C dX9_keep_61 (by decide)) ?_
            refine g_aload_n C dX9_keep_63 (p := 0) (hi := rfl) (hv := rfl) ?_
            refine gm_g_acts C dX9_keep_64 wf_X9_171 ?_
            refine g_cI (b := ((σ 0 8) - 1)) (by first | rfl | (rw [mr_app, if_pos rfl]; exact over_out (by omega)) | simp [mu_app, mr_app]) ?_
            refine g_imul C dX9_keep_67 ?_
            refine g_iload_n C dX9_keep_68 (p := 1) (hi := rfl) (hv := rfl) ?_
            refine g_iadd C dX9_keep_69 ?_
            refine g_aload_n C dX9_keep_70 (p := 0) (hi := rfl) (hv := rfl) ?_
            refine gm_g_town C dX9_keep_71 wf_X9_19 ?_
            refine g_iload_n C dX9_keep_74 (p := 1) (hi := rfl) (hv := rfl) ?_
            refine gm_l_town C dX9_keep_75 (by omega) (by omega) ?_
            refine g_cI (b := (σ 4 (j : Int))) (by first | rfl | (rw [mr_app, if_pos rfl]; exact over_out (by omega)) | simp [mu_app, mr_app]) ?_
            refine gm_s_was C dX9_keep_76 (by omega) (by omega) ?_
            refine g_iinc C hn dX9_keep_77 (p := 1) rfl rfl rfl ?_
            refine g_goto C (tgt := 51) dX9_keep_80 (by decide) ?_
            refine g_sub [1, 0] rfl ?_
            exact ihj (by omega) _ _ (by first | rfl | omega) (by exact over_step (by omega) (by omega) (by show σ 4 _ = σ 4 _; congr 1; omega))
        refine g_sub [1, 0] rfl ?_
        exact L51 0 (Nat.zero_le _) _ _ (by first | rfl | omega | simp) (by exact over_init (by omega))
      · refine g_aload_n C dX9_keep_18 (p := 0) (hi := rfl) (hv := rfl) ?_
        refine gm_g_was C dX9_keep_19 wf_X9_25 ?_
        refine g_iload_n C dX9_keep_22 (p := 1) (hi := rfl) (hv := rfl) ?_
        refine g_aload_n C dX9_keep_23 (p := 0) (hi := rfl) (hv := rfl) ?_
        refine gm_g_was C dX9_keep_24 wf_X9_25 ?_
        refine g_iload_n C dX9_keep_27 (p := 1) (hi := rfl) (hv := rfl) ?_
        refine (g_bipush C dX9_keep_28 (by decide)) ?_
        refine g_iadd C dX9_keep_30 ?_
        refine gm_l_was C dX9_keep_31 (by omega) (by omega) ?_
        refine gm_s_was C dX9_keep_32 (by omega) (by omega) ?_
        refine g_iinc C hn dX9_keep_33 (p := 1) rfl rfl rfl ?_
        refine g_goto C (tgt := 11) dX9_keep_36 (by decide) ?_
        refine g_sub [1, 0] rfl ?_
        exact ihi (by omega) _ _ (by first | rfl | omega) (by exact over_step (by omega) (by omega) (by rw [mr_app, if_pos rfl]; exact over_out (by omega)))
    refine g_sub [1, 0] rfl ?_
    exact L11 0 (Nat.zero_le _) _ _ (by first | rfl | omega | simp) (by exact over_init (by omega))
set_option maxHeartbeats 4000000 in
set_option maxRecDepth 100000 in
theorem kX9_goRound {l : Launch} {K : Nat → ClassId} {D : va_G} {ad : Int → Nat} {E : gEnv} {σ : Mem} {t seed : Int} (hap : Apart ad 12) (hE : gEok E) (hT : TW (σ 4)) (hp1 : 1 ≤ σ 4 2 ∧ σ 4 2 ≤ 4) (hs : SW (σ 4 2) (σ 8)) (hac : 0 ≤ σ 0 8 ∧ σ 0 8 ≤ 24) (htt : 0 ≤ t ∧ t < 5) (hsd : 1 ≤ seed ∧ seed ≤ 999999) : CtI l K D ad 12 (cfM ad K) E yX9_goRound cX9_goRound 7 (some .int) 3 [.ref (ad 0), .int (iI t), .int (iI seed)] σ (toR (σ 8) (σ 4 2) seed) (mu (mr (mu (mr σ 6 (kepF σ)) 0 8 (kepN σ)) 4 (over ((mu (mr σ 6 (kepF σ)) 0 8 (kepN σ)) 4) (fun x => σ 4 x + coiB (σ 4 1) (σ 4 2) (σ 8) (σ 4 0) (x - 8) (toR (σ 8) (σ 4 2) seed)) 8 (8 + σ 4 2))) 4 (12 + 6 * t + 4) (toR (σ 8) (σ 4 2) seed)) := by
  have hp : 0 ≤ σ 4 2 ∧ σ 4 2 ≤ 4 := hT.2.2.1
  have hpay := hT.1
  have hlb := leaB_in hs hp (but := -1000000)
  have hlo := likO_in hs hp1
  have hse := sed_in hsd.1
  have hsf := sedF_in (k := likO (σ 8) (σ 4 2)) hsd.1 hlo.1
  refine ctI_of hap hE (by decide) rfl .int (nar_i _) (fun M C hn hret => ?_)
  have C : Good l K D ad 12 E 3 cX9_goRound RX9 M := C
  show G M ad 12 (cfM ad K) 0 [(0, .ref (ad 0)), (1, .int (iI t)), (2, .int (iI seed))] [] σ
  refine g_aload_n C dX9_goRound_0 (p := 0) (hi := rfl) (hv := rfl) ?_
  refine gm_callv C dX9_goRound_1 (kX9_keep (σ := σ) hap hE (by first | assumption | omega | exact hT | exact hp1 | exact hs | exact hac | exact htt | exact hsd)) mw_X9_keep wl_X9_203 (by decide) (by decide) rfl rfl (by simp [Value.category]) ?_
  refine g_iload_n C dX9_goRound_4 (p := 2) (hi := rfl) (hv := rfl) ?_
  refine g_i2l C (by omega) dX9_goRound_5 ?_
  refine g_ldc2 C (n := 16807) wk_X9_206 (by decide +kernel) dX9_goRound_6 ?_
  refine g_lmul C dX9_goRound_9 ?_
  refine g_ldc2 C (n := 2147483647) wk_X9_208 (by decide +kernel) dX9_goRound_10 ?_
  refine g_lrem C (by omega) (by omega) (by omega) dX9_goRound_13 ?_
  refine g_aload_n C dX9_goRound_14 (p := 0) (hi := rfl) (hv := rfl) ?_
  refine gm_call C dX9_goRound_15 (kX9_likeOnes (σ := (mu (mr σ 6 (kepF σ)) 0 8 (kepN σ))) hap hE (by first | assumption | omega | exact hT | exact hp1 | exact hs | exact hac | exact htt | exact hsd) (by exact hs)) mw_X9_likeOnes wl_X9_194 (by decide) (by decide) rfl rfl (by simp [Value.category]) ?_
  refine g_cI (b := (likO (σ 8) (σ 4 2))) (by first | rfl | (congr 1 <;> first | rfl | exact over_out (by omega)) | (congr 2 <;> first | rfl | exact over_out (by omega)) | simp [mu_app, mr_app]) ?_
  refine g_i2l C (by omega) dX9_goRound_18 ?_
  refine g_lrem C (by omega) (by omega) (by omega) dX9_goRound_19 ?_
  refine g_l2i C dX9_goRound_20 ?_
  refine g_cI (b := (sedF seed (likO (σ 8) (σ 4 2)))) (by exact oL2I_s ⟨by have := hsf.1; unfold sedF at this; omega, by have := hsf.2; unfold sedF at this; omega⟩) ?_
  refine g_istore_n C hn dX9_goRound_21 rfl rfl rfl ?_
  refine g_aload_n C dX9_goRound_22 (p := 1) (hi := rfl) (hv := rfl) ?_
  refine g_ldc C (n := (-1000000)) wk_X9_80 (by decide +kernel) dX9_goRound_23 ?_
  refine gm_call C dX9_goRound_25 (kX9_leastBut (σ := (mu (mr σ 6 (kepF σ)) 0 8 (kepN σ))) (but := (-1000000)) hap hE (by first | assumption | omega | exact hT | exact hp1 | exact hs | exact hac | exact htt | exact hsd) (by exact hs) (by first | assumption | omega | exact hT | exact hp1 | exact hs | exact hac | exact htt | exact hsd)) mw_X9_leastBut wl_X9_187 (by decide) (by decide) rfl rfl (by simp [Value.category]) ?_
  refine g_cI (b := (leaB (σ 8) (σ 4 2) (-1000000))) (by first | rfl | (congr 1 <;> first | rfl | exact over_out (by omega)) | (congr 2 <;> first | rfl | exact over_out (by omega)) | simp [mu_app, mr_app]) ?_
  refine g_istore C hn dX9_goRound_28 rfl rfl ?_
  refine g_ldc C (n := (-1000000)) wk_X9_80 (by decide +kernel) dX9_goRound_30 ?_
  refine g_istore C hn dX9_goRound_32 rfl rfl ?_
  refine g_iconst C dX9_goRound_34 ?_
  refine g_istore C hn dX9_goRound_35 rfl rfl ?_
  have L37 : ∀ i : Nat, i ≤ ((σ 4 2).toNat) → ∀ (x3 x5 x6 : Int), x3 = lefF (σ 8) (leaB (σ 8) (σ 4 2) (-1000000)) (sedF seed (likO (σ 8) (σ 4 2))) i → x5 = toF (σ 8) (leaB (σ 8) (σ 4 2) (-1000000)) (sedF seed (likO (σ 8) (σ 4 2))) i → x6 = (i : Int) → G M ad 12 (cfM ad K) 37 [(0, .ref (ad 0)), (1, .int (iI t)), (2, .int (iI seed)), (3, .int (iI x3)), (4, .int (iI (leaB (σ 8) (σ 4 2) (-1000000)))), (5, .int (iI x5)), (6, .int (iI x6))] [] (mu (mr σ 6 (kepF σ)) 0 8 (kepN σ)) := by
    refine loopUp ((σ 4 2).toNat) ?_
    rintro i hi ihi x3 x5 x6 rfl rfl rfl
    have hlf := lefF_in (f := σ 8) (v := leaB (σ 8) (σ 4 2) (-1000000)) (l0 := sedF seed (likO (σ 8) (σ 4 2))) i
    have htf := toF_in (f := σ 8) (v := leaB (σ 8) (σ 4 2) (-1000000)) (l0 := sedF seed (likO (σ 8) (σ 4 2))) i
    refine g_iload C dX9_goRound_37 (p := 6) rfl ?_
    refine g_aload_n C dX9_goRound_39 (p := 0) (hi := rfl) (hv := rfl) ?_
    refine gm_g_town C dX9_goRound_40 wf_X9_19 ?_
    refine g_iconst C dX9_goRound_43 ?_
    refine gm_l_town C dX9_goRound_44 (by omega) (by omega) ?_
    refine g_cI (b := (σ 4 2)) (by first | rfl | (rw [mr_app, if_pos rfl]; exact over_out (by omega)) | simp [mu_app, mr_app]) ?_
    refine g_icmp_ge C (tgt := 82) dX9_goRound_45 (by decide) (by omega) (by omega) (fun h_1 => ?_) (fun h_1 => ?_)
    · have hiN : i = ((σ 4 2).toNat) := by omega
      refine g_iconst C dX9_goRound_82 ?_
      refine g_istore C hn dX9_goRound_83 rfl rfl ?_
      have L85 : ∀ j : Nat, j ≤ ((σ 4 2).toNat) → ∀ (x6 : Int), ∀ (τ85 : Mem), x6 = (j : Int) → τ85 = (mr (mu (mr σ 6 (kepF σ)) 0 8 (kepN σ)) 4 (over ((mu (mr σ 6 (kepF σ)) 0 8 (kepN σ)) 4) (fun x => σ 4 x + coiB (σ 4 1) (σ 4 2) (σ 8) (σ 4 0) (x - 8) (toR (σ 8) (σ 4 2) seed)) 8 (8 + (j : Int)))) → G M ad 12 (cfM ad K) 85 [(0, .ref (ad 0)), (1, .int (iI t)), (2, .int (iI seed)), (3, .int (iI (lefF (σ 8) (leaB (σ 8) (σ 4 2) (-1000000)) (sedF seed (likO (σ 8) (σ 4 2))) i))), (4, .int (iI (leaB (σ 8) (σ 4 2) (-1000000)))), (5, .int (iI (toF (σ 8) (leaB (σ 8) (σ 4 2) (-1000000)) (sedF seed (likO (σ 8) (σ 4 2))) i))), (6, .int (iI x6))] [] τ85 := by
        refine loopUp ((σ 4 2).toNat) ?_
        rintro j hj ihj x6 τ85 rfl rfl
        refine g_iload C dX9_goRound_85 (p := 6) rfl ?_
        refine g_aload_n C dX9_goRound_87 (p := 0) (hi := rfl) (hv := rfl) ?_
        refine gm_g_town C dX9_goRound_88 wf_X9_19 ?_
        refine g_iconst C dX9_goRound_91 ?_
        refine gm_l_town C dX9_goRound_92 (by omega) (by omega) ?_
        refine g_cI (b := (σ 4 2)) (by first | rfl | (rw [mr_app, if_pos rfl]; exact over_out (by omega)) | simp [mu_app, mr_app]) ?_
        refine g_icmp_ge C (tgt := 129) dX9_goRound_93 (by decide) (by omega) (by omega) (fun h_2 => ?_) (fun h_2 => ?_)
        · have hjN : j = ((σ 4 2).toNat) := by omega
          refine g_aload_n C dX9_goRound_129 (p := 0) (hi := rfl) (hv := rfl) ?_
          refine gm_g_town C dX9_goRound_130 wf_X9_19 ?_
          refine (g_bipush C dX9_goRound_133 (by decide)) ?_
          refine (g_bipush C dX9_goRound_135 (by decide)) ?_
          refine g_iload_n C dX9_goRound_137 (p := 1) (hi := rfl) (hv := rfl) ?_
          refine g_imul C dX9_goRound_138 ?_
          refine g_iadd C dX9_goRound_139 ?_
          refine g_iconst C dX9_goRound_140 ?_
          refine g_iadd C dX9_goRound_141 ?_
          refine g_iload C dX9_goRound_142 (p := 5) rfl ?_
          refine gm_s_town C dX9_goRound_144 (by omega) (by omega) ?_
          refine g_iload C dX9_goRound_145 (p := 5) rfl ?_
          exact hret _ _ _ _ dX9_goRound_147 (by (try subst hiN); (try subst hjN); rfl) (by (try subst hiN); (try subst hjN); rw [show ((σ 4 2).toNat : Int) = σ 4 2 by omega]; rfl)
        · refine g_aload_n C dX9_goRound_96 (p := 0) (hi := rfl) (hv := rfl) ?_
          refine gm_g_town C dX9_goRound_97 wf_X9_19 ?_
          refine (g_bipush C dX9_goRound_100 (by decide)) ?_
          refine g_iload C dX9_goRound_102 (p := 6) rfl ?_
          refine g_iadd C dX9_goRound_104 ?_
          refine g_dup2 C dX9_goRound_105 rfl rfl ?_
          refine gm_l_town C dX9_goRound_106 (by omega) (by omega) ?_
          refine g_cI (b := (σ 4 (8 + (j : Int)))) (by first | rfl | (rw [mr_app, if_pos rfl]; exact over_out (by omega)) | simp [mu_app, mr_app]) ?_
          refine g_aload_n C dX9_goRound_107 (p := 0) (hi := rfl) (hv := rfl) ?_
          refine g_aload_n C dX9_goRound_108 (p := 0) (hi := rfl) (hv := rfl) ?_
          refine gm_g_town C dX9_goRound_109 wf_X9_19 ?_
          refine g_iconst C dX9_goRound_112 ?_
          refine gm_l_town C dX9_goRound_113 (by omega) (by omega) ?_
          refine g_cI (b := (σ 4 0)) (by first | rfl | (rw [mr_app, if_pos rfl]; exact over_out (by omega)) | simp [mu_app, mr_app]) ?_
          refine g_iload C dX9_goRound_114 (p := 6) rfl ?_
          refine g_iload C dX9_goRound_116 (p := 5) rfl ?_
          refine gm_call C dX9_goRound_118 (kX9_coinBy (σ := (mr (mu (mr σ 6 (kepF σ)) 0 8 (kepN σ)) 4 (over ((mu (mr σ 6 (kepF σ)) 0 8 (kepN σ)) 4) (fun x => σ 4 x + coiB (σ 4 1) (σ 4 2) (σ 8) (σ 4 0) (x - 8) (toR (σ 8) (σ 4 2) seed)) 8 (8 + (j : Int))))) (pays := σ 4 0) (p := (j : Int)) (to := toF (σ 8) (leaB (σ 8) (σ 4 2) (-1000000)) (sedF seed (likO (σ 8) (σ 4 2))) i) hap hE (by first | assumption | omega | exact hT | exact hp1 | exact hs | exact hac | exact htt | exact hsd) (by exact hs) (by first | assumption | omega | exact hT | exact hp1 | exact hs | exact hac | exact htt | exact hsd) (by first | assumption | omega | exact hT | exact hp1 | exact hs | exact hac | exact htt | exact hsd) (by first | assumption | omega | exact hT | exact hp1 | exact hs | exact hac | exact htt | exact hsd)) mw_X9_coinBy wl_X9_190 (by decide) (by decide) rfl rfl (by simp [Value.category]) ?_
          refine g_cI (b := (coiB (σ 4 1) (σ 4 2) (σ 8) (σ 4 0) (j : Int) (toF (σ 8) (leaB (σ 8) (σ 4 2) (-1000000)) (sedF seed (likO (σ 8) (σ 4 2))) i))) (by first | rfl | (congr 1 <;> first | rfl | exact over_out (by omega)) | (congr 2 <;> first | rfl | exact over_out (by omega)) | simp [mu_app, mr_app]) ?_
          refine g_iadd C dX9_goRound_121 ?_
          refine gm_s_town C dX9_goRound_122 (by omega) (by omega) ?_
          refine g_iinc C hn dX9_goRound_123 (p := 6) rfl rfl rfl ?_
          refine g_goto C (tgt := 85) dX9_goRound_126 (by decide) ?_
          refine g_sub [1, 2, 3, 4, 5, 6, 0] rfl ?_
          exact ihj (by omega) _ _ (by first | rfl | omega) (by (try subst hiN); exact over_step (by omega) (by omega) (by show _ = σ 4 (8 + (j : Int)) + coiB _ _ _ _ (8 + (j : Int) - 8) _; rw [show 8 + (j : Int) - 8 = (j : Int) by omega]; rfl))
      refine g_sub [1, 2, 3, 4, 5, 6, 0] rfl ?_
      exact L85 0 (Nat.zero_le _) _ _ (by first | rfl | omega | simp) (by exact over_init (by omega))
    · refine g_aload_n C dX9_goRound_48 (p := 0) (hi := rfl) (hv := rfl) ?_
      refine gm_g_says C dX9_goRound_49 wf_X9_31 ?_
      refine g_iload C dX9_goRound_52 (p := 6) rfl ?_
      refine gm_l_says C dX9_goRound_54 (by omega) (by omega) ?_
      refine g_cI (b := (σ 8 (i : Int))) (by first | rfl | (rw [mr_app, if_pos rfl]; exact over_out (by omega)) | simp [mu_app, mr_app]) ?_
      refine g_iload C dX9_goRound_55 (p := 4) rfl ?_
      refine g_icmp_ne C (tgt := 76) dX9_goRound_57 (by decide) (by have := hs (i : Int) (by omega) (by omega); omega) (by omega) (fun h_3 => ?_) (fun h_3 => ?_)
      · refine g_iinc C hn dX9_goRound_76 (p := 6) rfl rfl rfl ?_
        refine g_goto C (tgt := 37) dX9_goRound_79 (by decide) ?_
        refine g_sub [1, 2, 3, 4, 5, 6, 0] rfl ?_
        exact ihi (by omega) _ _ _ (by first | omega | (simp only [lefF, toF]; (repeat' split) <;> omega)) (by first | omega | (simp only [lefF, toF]; (repeat' split) <;> omega)) (by first | omega | (simp only [lefF, toF]; (repeat' split) <;> omega))
      · refine g_iload_n C dX9_goRound_60 (p := 3) (hi := rfl) (hv := rfl) ?_
        refine g_if_ne C (tgt := 69) dX9_goRound_61 (by decide) (by omega) (fun h_4 => ?_) (fun h_4 => ?_)
        · refine g_iload C dX9_goRound_69 (p := 5) rfl ?_
          refine g_istore C hn dX9_goRound_71 rfl rfl ?_
          refine g_iinc C hn dX9_goRound_73 (p := 4) rfl rfl rfl ?_
          refine g_iinc C hn dX9_goRound_76 (p := 6) rfl rfl rfl ?_
          refine g_goto C (tgt := 37) dX9_goRound_79 (by decide) ?_
          refine g_sub [3, 4, 5, 1, 6, 2, 0] rfl ?_
          exact ihi (by omega) _ _ _ (by first | omega | (simp only [lefF, toF]; (repeat' split) <;> omega)) (by first | omega | (simp only [lefF, toF]; (repeat' split) <;> omega)) (by first | omega | (simp only [lefF, toF]; (repeat' split) <;> omega))
        · refine g_iload C dX9_goRound_64 (p := 6) rfl ?_
          refine g_goto C (tgt := 71) dX9_goRound_66 (by decide) ?_
          refine g_istore C hn dX9_goRound_71 rfl rfl ?_
          refine g_iinc C hn dX9_goRound_73 (p := 4) rfl rfl rfl ?_
          refine g_iinc C hn dX9_goRound_76 (p := 6) rfl rfl rfl ?_
          refine g_goto C (tgt := 37) dX9_goRound_79 (by decide) ?_
          refine g_sub [3, 4, 5, 1, 6, 2, 0] rfl ?_
          exact ihi (by omega) _ _ _ (by first | omega | (simp only [lefF, toF]; (repeat' split) <;> omega)) (by first | omega | (simp only [lefF, toF]; (repeat' split) <;> omega)) (by first | omega | (simp only [lefF, toF]; (repeat' split) <;> omega))
  refine g_sub [4, 5, 6, 3, 2, 1, 0] rfl ?_
  exact L37 0 (Nat.zero_le _) _ _ _ (by first | rfl | omega | simp) (by first | rfl | omega | simp) (by first | rfl | omega | simp)
set_option maxHeartbeats 4000000 in
set_option maxRecDepth 100000 in
theorem kX9_told {l : Launch} {K : Nat → ClassId} {D : va_G} {ad : Int → Nat} {E : gEnv} {σ : Mem} {tw what : Int} (hap : Apart ad 12) (hE : gEok E) (htw : -1000000000 ≤ tw ∧ tw ≤ 1000000000) (hwh : R3 what) : CtI l K D ad 12 (cfM ad K) E yX9_told cX9_told 5 (some .int) 0 [.int (iI tw), .int (iI what)] σ (tolB tw what) σ := by
  have hgp := gcd_pos12 tw
  refine ctI_of hap hE (by decide) rfl .int (nar_i _) (fun M C hn hret => ?_)
  have C : Good l K D ad 12 E 0 cX9_told RX9 M := C
  show G M ad 12 (cfM ad K) 0 [(0, .int (iI tw)), (1, .int (iI what))] [] σ
  refine g_iload_n C dX9_told_0 (p := 0) (hi := rfl) (hv := rfl) ?_
  refine g_if_ge C (tgt := 9) dX9_told_1 (by decide) (by omega) (fun h_1 => ?_) (fun h_1 => ?_)
  · refine g_iload_n C dX9_told_9 (p := 0) (hi := rfl) (hv := rfl) ?_
    refine g_istore_n C hn dX9_told_10 rfl rfl rfl ?_
    refine (g_bipush C dX9_told_11 (by decide)) ?_
    refine g_istore_n C hn dX9_told_13 rfl rfl rfl ?_
    have L14 : ∀ (m : Nat) (x2 x3 : Int), (0 ≤ x2 ∧ x2 ≤ 1000000000 ∧ 0 ≤ x3 ∧ x3 ≤ 1000000000) → (Int.gcd x2 x3 = Int.gcd tw 12) → x3.toNat < m → G M ad 12 (cfM ad K) 14 [(0, .int (iI tw)), (1, .int (iI what)), (2, .int (iI x2)), (3, .int (iI x3))] [] σ := by
      intro m; induction m with
      | zero => intros; omega
      | succ m ihm =>
        intro x2 x3 hx hg hmeas
        refine g_iload_n C dX9_told_14 (p := 3) (hi := rfl) (hv := rfl) ?_
        refine g_if_eq C (tgt := 31) dX9_told_15 (by decide) (by omega) (fun h_2 => ?_) (fun h_2 => ?_)
        · have e2 : x2 = ((Int.gcd tw 12 : Nat) : Int) := by rw [← hg, show x3 = 0 by omega, Int.gcd_zero_right]; omega
          refine g_iload_n C dX9_told_31 (p := 1) (hi := rfl) (hv := rfl) ?_
          refine g_if_ne C (tgt := 39) dX9_told_32 (by decide) (by omega) (fun h_3 => ?_) (fun h_3 => ?_)
          · refine (g_bipush C dX9_told_39 (by decide)) ?_
            refine g_iload_n C dX9_told_41 (p := 2) (hi := rfl) (hv := rfl) ?_
            refine g_idiv C (by omega) (by omega) (by omega) dX9_told_42 ?_
            exact hret _ _ _ _ dX9_told_43 (by rw [e2]; unfold tolB; (repeat' split) <;> first | (exfalso; omega) | rfl) (by first | rfl | omega | ((repeat' split) <;> first | (exfalso; omega) | rfl | omega))
          · refine g_iload_n C dX9_told_35 (p := 0) (hi := rfl) (hv := rfl) ?_
            refine g_goto C (tgt := 41) dX9_told_36 (by decide) ?_
            refine g_iload_n C dX9_told_41 (p := 2) (hi := rfl) (hv := rfl) ?_
            refine g_idiv C (by omega) (by omega) (by omega) dX9_told_42 ?_
            exact hret _ _ _ _ dX9_told_43 (by rw [e2]; unfold tolB; (repeat' split) <;> first | (exfalso; omega) | rfl) (by first | rfl | omega | ((repeat' split) <;> first | (exfalso; omega) | rfl | omega))
        · refine g_iload_n C dX9_told_18 (p := 2) (hi := rfl) (hv := rfl) ?_
          refine g_iload_n C dX9_told_19 (p := 3) (hi := rfl) (hv := rfl) ?_
          refine g_irem C (by omega) (by omega) (by omega) dX9_told_20 ?_
          refine g_istore C hn dX9_told_21 rfl rfl ?_
          refine g_iload_n C dX9_told_23 (p := 4) (hi := rfl) (hv := rfl) ?_
          refine g_istore_n C hn dX9_told_24 rfl rfl rfl ?_
          refine g_iload C dX9_told_25 (p := 1) rfl ?_
          refine g_istore_n C hn dX9_told_27 rfl rfl rfl ?_
          refine g_goto C (tgt := 14) dX9_told_28 (by decide) ?_
          refine g_sub [3, 4, 1, 0] rfl ?_
          have hmm := gcd_step hx.1 (show 0 < x3 by omega)
          have hm0 := Int.tmod_nonneg (a := x2) x3 hx.1
          have hm1 := Int.tmod_lt_of_pos x2 (show 0 < x3 by omega)
          exact ihm _ _ (by omega) (by rw [hmm, hg]) (by omega)
    refine g_sub [2, 3, 1, 0] rfl ?_
    exact L14 _ _ _ (by first | rfl | assumption | omega) (by first | rfl | (rw [Int.neg_gcd])) (Nat.lt_succ_self _)
  · refine g_iload_n C dX9_told_4 (p := 0) (hi := rfl) (hv := rfl) ?_
    refine g_ineg C dX9_told_5 ?_
    refine g_goto C (tgt := 10) dX9_told_6 (by decide) ?_
    refine g_istore_n C hn dX9_told_10 rfl rfl rfl ?_
    refine (g_bipush C dX9_told_11 (by decide)) ?_
    refine g_istore_n C hn dX9_told_13 rfl rfl rfl ?_
    have L14 : ∀ (m : Nat) (x2 x3 : Int), (0 ≤ x2 ∧ x2 ≤ 1000000000 ∧ 0 ≤ x3 ∧ x3 ≤ 1000000000) → (Int.gcd x2 x3 = Int.gcd tw 12) → x3.toNat < m → G M ad 12 (cfM ad K) 14 [(0, .int (iI tw)), (1, .int (iI what)), (2, .int (iI x2)), (3, .int (iI x3))] [] σ := by
      intro m; induction m with
      | zero => intros; omega
      | succ m ihm =>
        intro x2 x3 hx hg hmeas
        refine g_iload_n C dX9_told_14 (p := 3) (hi := rfl) (hv := rfl) ?_
        refine g_if_eq C (tgt := 31) dX9_told_15 (by decide) (by omega) (fun h_4 => ?_) (fun h_4 => ?_)
        · have e2 : x2 = ((Int.gcd tw 12 : Nat) : Int) := by rw [← hg, show x3 = 0 by omega, Int.gcd_zero_right]; omega
          refine g_iload_n C dX9_told_31 (p := 1) (hi := rfl) (hv := rfl) ?_
          refine g_if_ne C (tgt := 39) dX9_told_32 (by decide) (by omega) (fun h_5 => ?_) (fun h_5 => ?_)
          · refine (g_bipush C dX9_told_39 (by decide)) ?_
            refine g_iload_n C dX9_told_41 (p := 2) (hi := rfl) (hv := rfl) ?_
            refine g_idiv C (by omega) (by omega) (by omega) dX9_told_42 ?_
            exact hret _ _ _ _ dX9_told_43 (by rw [e2]; unfold tolB; (repeat' split) <;> first | (exfalso; omega) | rfl) (by first | rfl | omega | ((repeat' split) <;> first | (exfalso; omega) | rfl | omega))
          · refine g_iload_n C dX9_told_35 (p := 0) (hi := rfl) (hv := rfl) ?_
            refine g_goto C (tgt := 41) dX9_told_36 (by decide) ?_
            refine g_iload_n C dX9_told_41 (p := 2) (hi := rfl) (hv := rfl) ?_
            refine g_idiv C (by omega) (by omega) (by omega) dX9_told_42 ?_
            exact hret _ _ _ _ dX9_told_43 (by rw [e2]; unfold tolB; (repeat' split) <;> first | (exfalso; omega) | rfl) (by first | rfl | omega | ((repeat' split) <;> first | (exfalso; omega) | rfl | omega))
        · refine g_iload_n C dX9_told_18 (p := 2) (hi := rfl) (hv := rfl) ?_
          refine g_iload_n C dX9_told_19 (p := 3) (hi := rfl) (hv := rfl) ?_
          refine g_irem C (by omega) (by omega) (by omega) dX9_told_20 ?_
          refine g_istore C hn dX9_told_21 rfl rfl ?_
          refine g_iload_n C dX9_told_23 (p := 4) (hi := rfl) (hv := rfl) ?_
          refine g_istore_n C hn dX9_told_24 rfl rfl rfl ?_
          refine g_iload C dX9_told_25 (p := 1) rfl ?_
          refine g_istore_n C hn dX9_told_27 rfl rfl rfl ?_
          refine g_goto C (tgt := 14) dX9_told_28 (by decide) ?_
          refine g_sub [3, 4, 1, 0] rfl ?_
          have hmm := gcd_step hx.1 (show 0 < x3 by omega)
          have hm0 := Int.tmod_nonneg (a := x2) x3 hx.1
          have hm1 := Int.tmod_lt_of_pos x2 (show 0 < x3 by omega)
          exact ihm _ _ (by omega) (by rw [hmm, hg]) (by omega)
    refine g_sub [2, 3, 1, 0] rfl ?_
    exact L14 _ _ _ (by first | rfl | assumption | omega) (by first | rfl | (rw [Int.neg_gcd])) (Nat.lt_succ_self _)
set_option maxHeartbeats 4000000 in
set_option maxRecDepth 100000 in
theorem kX9_layRow {l : Launch} {K : Nat → ClassId} {D : va_G} {ad : Int → Nat} {E : gEnv} {σ : Mem} {row : Int} (hap : Apart ad 12) (hE : gEok E) (hp : 0 ≤ σ 4 2 ∧ σ 4 2 ≤ 4) (hrw : 0 ≤ row ∧ row < 1296) : CtV l K D ad 12 (cfM ad K) E yX9_layRow cX9_layRow 4 none 0 [.ref (ad 0), .int (iI row)] σ (mr σ 8 (over (σ 8) (digG row (σ 4 2)) 0 (σ 4 2))) := by
  refine ctV_of hap hE (by decide) rfl (fun M C hn hret => ?_)
  have C : Good l K D ad 12 E 0 cX9_layRow RX9 M := C
  show G M ad 12 (cfM ad K) 0 [(0, .ref (ad 0)), (1, .int (iI row))] [] σ
  refine g_iload_n C dX9_layRow_0 (p := 1) (hi := rfl) (hv := rfl) ?_
  refine g_istore_n C hn dX9_layRow_1 rfl rfl rfl ?_
  refine g_aload_n C dX9_layRow_2 (p := 1) (hi := rfl) (hv := rfl) ?_
  refine gm_g_town C dX9_layRow_3 wf_X9_19 ?_
  refine g_iconst C dX9_layRow_6 ?_
  refine gm_l_town C dX9_layRow_7 (by omega) (by omega) ?_
  refine g_iconst C dX9_layRow_8 ?_
  refine g_isub C dX9_layRow_9 ?_
  refine g_istore_n C hn dX9_layRow_10 rfl rfl rfl ?_
  have L11 : ∀ i : Nat, i ≤ ((σ 4 2).toNat) → ∀ (x2 x3 : Int), ∀ (τ11 : Mem), x2 = digF row i → x3 = σ 4 2 - 1 - (i : Int) → τ11 = (mr σ 8 (over (σ 8) (digG row (σ 4 2)) (σ 4 2 - (i : Int)) (σ 4 2))) → G M ad 12 (cfM ad K) 11 [(0, .ref (ad 0)), (1, .int (iI row)), (2, .int (iI x2)), (3, .int (iI x3))] [] τ11 := by
    refine loopUp ((σ 4 2).toNat) ?_
    rintro i hi ihi x2 x3 τ11 rfl rfl rfl
    have hdi := digF_in hrw i
    refine g_iload_n C dX9_layRow_11 (p := 3) (hi := rfl) (hv := rfl) ?_
    refine g_if_lt C (tgt := 36) dX9_layRow_12 (by decide) (by omega) (fun h_1 => ?_) (fun h_1 => ?_)
    · have hiN : i = ((σ 4 2).toNat) := by omega
      exact hret _ _ _ dX9_layRow_36 (by (try subst hiN); rw [show σ 4 2 - ((σ 4 2).toNat : Int) = 0 by omega])
    · refine g_aload_n C dX9_layRow_15 (p := 0) (hi := rfl) (hv := rfl) ?_
      refine gm_g_says C dX9_layRow_16 wf_X9_31 ?_
      refine g_iload_n C dX9_layRow_19 (p := 3) (hi := rfl) (hv := rfl) ?_
      refine g_iload_n C dX9_layRow_20 (p := 2) (hi := rfl) (hv := rfl) ?_
      refine (g_bipush C dX9_layRow_21 (by decide)) ?_
      refine g_irem C (by omega) (by omega) (by omega) dX9_layRow_23 ?_
      refine gm_s_says C dX9_layRow_24 (by omega) (by omega) ?_
      refine g_iload_n C dX9_layRow_25 (p := 2) (hi := rfl) (hv := rfl) ?_
      refine (g_bipush C dX9_layRow_26 (by decide)) ?_
      refine g_idiv C (by omega) (by omega) (by omega) dX9_layRow_28 ?_
      refine g_istore_n C hn dX9_layRow_29 rfl rfl rfl ?_
      refine g_iinc C hn dX9_layRow_30 (p := 3) rfl rfl rfl ?_
      refine g_goto C (tgt := 11) dX9_layRow_33 (by decide) ?_
      refine g_sub [2, 3, 1, 0] rfl ?_
      exact ihi (by omega) _ _ _ (by first | rfl | omega) (by first | rfl | omega) (by exact over_stepD (by omega) (by omega) (by omega) (by show _ = (digF row (σ 4 2 - 1 - (σ 4 2 - 1 - (i : Int))).toNat).tmod 6; rw [show (σ 4 2 - 1 - (σ 4 2 - 1 - (i : Int))).toNat = i by omega]))
  refine g_sub [2, 3, 1, 0] rfl ?_
  exact L11 0 (Nat.zero_le _) _ _ _ (by first | rfl | omega | simp) (by first | rfl | omega | simp) (by exact over_init (by omega))
set_option maxHeartbeats 4000000 in
set_option maxRecDepth 100000 in
theorem kX9_extreme {l : Launch} {K : Nat → ClassId} {D : va_G} {ad : Int → Nat} {E : gEnv} {σ : Mem} {t s : Int} (hap : Apart ad 12) (hE : gEok E) (hT : TW (σ 4)) (hp1 : 1 ≤ σ 4 2 ∧ σ 4 2 ≤ 4) (htt : 0 ≤ t ∧ t < 5) (hsg : s = 1 ∨ s = -1) : CtI l K D ad 12 (cfM ad K) E yX9_extreme cX9_extreme 5 (some .int) 2 [.ref (ad 0), .int (iI t), .int (iI s)] σ (extF (σ 4) t s (σ 4 2 - 1).toNat) σ := by
  have hp : 0 ≤ σ 4 2 ∧ σ 4 2 ≤ 4 := hT.2.2.1
  have hms : ∀ p : Int, 0 ≤ p → p < 4 → -1230 ≤ s * woF (σ 4) t p ∧ s * woF (σ 4) t p ≤ 1230 := fun p h0 h1 => by have := woF_in hT htt ⟨h0, h1⟩; rcases hsg with e | e <;> rw [e] <;> omega
  refine ctI_of hap hE (by decide) rfl .int (nar_i _) (fun M C hn hret => ?_)
  have C : Good l K D ad 12 E 2 cX9_extreme RX9 M := C
  show G M ad 12 (cfM ad K) 0 [(0, .ref (ad 0)), (1, .int (iI t)), (2, .int (iI s))] [] σ
  refine g_iconst C dX9_extreme_0 ?_
  refine g_istore_n C hn dX9_extreme_1 rfl rfl rfl ?_
  refine g_iconst C dX9_extreme_2 ?_
  refine g_istore C hn dX9_extreme_3 rfl rfl ?_
  have L5 : ∀ i : Nat, i ≤ ((σ 4 2 - 1).toNat) → ∀ (x3 x4 : Int), x3 = extF (σ 4) t s i → x4 = (i : Int) + 1 → G M ad 12 (cfM ad K) 5 [(0, .ref (ad 0)), (1, .int (iI t)), (2, .int (iI s)), (3, .int (iI x3)), (4, .int (iI x4))] [] σ := by
    refine loopUp ((σ 4 2 - 1).toNat) ?_
    rintro i hi ihi x3 x4 rfl rfl
    have hex := extF_in (T := σ 4) (t := t) (s := s) i
    refine g_iload C dX9_extreme_5 (p := 4) rfl ?_
    refine g_aload_n C dX9_extreme_7 (p := 0) (hi := rfl) (hv := rfl) ?_
    refine gm_g_town C dX9_extreme_8 wf_X9_19 ?_
    refine g_iconst C dX9_extreme_11 ?_
    refine gm_l_town C dX9_extreme_12 (by omega) (by omega) ?_
    refine g_icmp_ge C (tgt := 49) dX9_extreme_13 (by decide) (by omega) (by omega) (fun h_1 => ?_) (fun h_1 => ?_)
    · have hiN : i = ((σ 4 2 - 1).toNat) := by omega
      refine g_iload_n C dX9_extreme_49 (p := 3) (hi := rfl) (hv := rfl) ?_
      exact hret _ _ _ _ dX9_extreme_50 (by (try subst hiN); first | rfl | omega | ((repeat' split) <;> first | (exfalso; omega) | rfl | omega)) (by (try subst hiN); first | rfl | omega | ((repeat' split) <;> first | (exfalso; omega) | rfl | omega))
    · refine g_iload_n C dX9_extreme_16 (p := 2) (hi := rfl) (hv := rfl) ?_
      refine g_aload_n C dX9_extreme_17 (p := 0) (hi := rfl) (hv := rfl) ?_
      refine g_iload_n C dX9_extreme_18 (p := 1) (hi := rfl) (hv := rfl) ?_
      refine g_iload C dX9_extreme_19 (p := 4) rfl ?_
      refine gm_call C dX9_extreme_21 (kX9_worthOf (σ := σ) (t := t) (p := (i : Int) + 1) hap hE (by first | assumption | omega | exact hT | exact hp1 | exact htt | exact hsg) (by first | assumption | omega | exact hT | exact hp1 | exact htt | exact hsg)) mw_X9_worthOf wl_X9_179 (by decide) (by decide) rfl rfl (by simp [Value.category]) ?_
      refine g_imul C dX9_extreme_24 ?_
      refine g_iload_n C dX9_extreme_25 (p := 2) (hi := rfl) (hv := rfl) ?_
      refine g_aload_n C dX9_extreme_26 (p := 0) (hi := rfl) (hv := rfl) ?_
      refine g_iload_n C dX9_extreme_27 (p := 1) (hi := rfl) (hv := rfl) ?_
      refine g_iload_n C dX9_extreme_28 (p := 3) (hi := rfl) (hv := rfl) ?_
      refine gm_call C dX9_extreme_29 (kX9_worthOf (σ := σ) (t := t) (p := extF (σ 4) t s i) hap hE (by first | assumption | omega | exact hT | exact hp1 | exact htt | exact hsg) (by first | assumption | omega | exact hT | exact hp1 | exact htt | exact hsg)) mw_X9_worthOf wl_X9_179 (by decide) (by decide) rfl rfl (by simp [Value.category]) ?_
      refine g_imul C dX9_extreme_32 ?_
      refine g_icmp_ge C (tgt := 41) dX9_extreme_33 (by decide) (by have := hms ((i : Int) + 1) (by omega) (by omega); omega) (by have := hms (extF (σ 4) t s i) (by omega) (by omega); omega) (fun h_2 => ?_) (fun h_2 => ?_)
      · refine g_iload_n C dX9_extreme_41 (p := 3) (hi := rfl) (hv := rfl) ?_
        refine g_istore_n C hn dX9_extreme_42 rfl rfl rfl ?_
        refine g_iinc C hn dX9_extreme_43 (p := 4) rfl rfl rfl ?_
        refine g_goto C (tgt := 5) dX9_extreme_46 (by decide) ?_
        refine g_sub [2, 3, 4, 1, 0] rfl ?_
        exact ihi (by omega) _ _ (by first | omega | (simp only [extF]; (repeat' split) <;> omega)) (by first | omega | (simp only [extF]; (repeat' split) <;> omega))
      · refine g_iload C dX9_extreme_36 (p := 4) rfl ?_
        refine g_goto C (tgt := 42) dX9_extreme_38 (by decide) ?_
        refine g_istore_n C hn dX9_extreme_42 rfl rfl rfl ?_
        refine g_iinc C hn dX9_extreme_43 (p := 4) rfl rfl rfl ?_
        refine g_goto C (tgt := 5) dX9_extreme_46 (by decide) ?_
        refine g_sub [2, 3, 4, 1, 0] rfl ?_
        exact ihi (by omega) _ _ (by first | omega | (simp only [extF]; (repeat' split) <;> omega)) (by first | omega | (simp only [extF]; (repeat' split) <;> omega))
  refine g_sub [2, 3, 4, 1, 0] rfl ?_
  exact L5 0 (Nat.zero_le _) _ _ (by first | rfl | omega | simp) (by first | rfl | omega | simp)
set_option maxHeartbeats 4000000 in
set_option maxRecDepth 100000 in
theorem kX9_thingsOf {l : Launch} {K : Nat → ClassId} {D : va_G} {ad : Int → Nat} {E : gEnv} {σ : Mem} {p : Int} (hap : Apart ad 12) (hE : gEok E) (hT : TW (σ 4)) (rp : R3 p) : CtI l K D ad 12 (cfM ad K) E yX9_thingsOf cX9_thingsOf 4 (some .int) 1 [.ref (ad 0), .int (iI p)] σ (thoF (σ 4) p (σ 4 3).toNat) σ := by
  have h3 := hT.2.2.2.1
  have hhs := hT.2.2.2.2.2.2.1
  refine ctI_of hap hE (by decide) rfl .int (nar_i _) (fun M C hn hret => ?_)
  have C : Good l K D ad 12 E 1 cX9_thingsOf RX9 M := C
  show G M ad 12 (cfM ad K) 0 [(0, .ref (ad 0)), (1, .int (iI p))] [] σ
  refine g_iconst C dX9_thingsOf_0 ?_
  refine g_istore_n C hn dX9_thingsOf_1 rfl rfl rfl ?_
  refine g_iconst C dX9_thingsOf_2 ?_
  refine g_istore_n C hn dX9_thingsOf_3 rfl rfl rfl ?_
  have L4 : ∀ i : Nat, i ≤ ((σ 4 3).toNat) → ∀ (x2 x3 : Int), x2 = thoF (σ 4) p i → x3 = (i : Int) → G M ad 12 (cfM ad K) 4 [(0, .ref (ad 0)), (1, .int (iI p)), (2, .int (iI x2)), (3, .int (iI x3))] [] σ := by
    refine loopUp ((σ 4 3).toNat) ?_
    rintro i hi ihi x2 x3 rfl rfl
    have hth := thoF_in (T := σ 4) (p := p) i
    refine g_iload_n C dX9_thingsOf_4 (p := 3) (hi := rfl) (hv := rfl) ?_
    refine g_aload_n C dX9_thingsOf_5 (p := 0) (hi := rfl) (hv := rfl) ?_
    refine gm_g_town C dX9_thingsOf_6 wf_X9_19 ?_
    refine g_iconst C dX9_thingsOf_9 ?_
    refine gm_l_town C dX9_thingsOf_10 (by omega) (by omega) ?_
    refine g_icmp_ge C (tgt := 38) dX9_thingsOf_11 (by decide) (by omega) (by omega) (fun h_1 => ?_) (fun h_1 => ?_)
    · have hiN : i = ((σ 4 3).toNat) := by omega
      refine g_iload_n C dX9_thingsOf_38 (p := 2) (hi := rfl) (hv := rfl) ?_
      exact hret _ _ _ _ dX9_thingsOf_39 (by (try subst hiN); first | rfl | omega | ((repeat' split) <;> first | (exfalso; omega) | rfl | omega)) (by (try subst hiN); first | rfl | omega | ((repeat' split) <;> first | (exfalso; omega) | rfl | omega))
    · refine g_iload_n C dX9_thingsOf_14 (p := 2) (hi := rfl) (hv := rfl) ?_
      refine g_aload_n C dX9_thingsOf_15 (p := 0) (hi := rfl) (hv := rfl) ?_
      refine g_iload_n C dX9_thingsOf_16 (p := 3) (hi := rfl) (hv := rfl) ?_
      refine g_iconst C dX9_thingsOf_17 ?_
      refine gm_call C dX9_thingsOf_18 (kX9_of (σ := σ) (t := (i : Int)) (w := 4) hap hE (by first | assumption | omega | exact hT | exact rp) (by first | assumption | omega | exact hT | exact rp)) mw_X9_of wl_X9_176 (by decide) (by decide) rfl rfl (by simp [Value.category]) ?_
      refine g_iload_n C dX9_thingsOf_21 (p := 1) (hi := rfl) (hv := rfl) ?_
      refine g_icmp_ne C (tgt := 29) dX9_thingsOf_22 (by decide) (by have := hhs (i : Int) (by omega) (by omega); omega) (by omega) (fun h_2 => ?_) (fun h_2 => ?_)
      · refine g_iconst C dX9_thingsOf_29 ?_
        refine g_iadd C dX9_thingsOf_30 ?_
        refine g_istore_n C hn dX9_thingsOf_31 rfl rfl rfl ?_
        refine g_iinc C hn dX9_thingsOf_32 (p := 3) rfl rfl rfl ?_
        refine g_goto C (tgt := 4) dX9_thingsOf_35 (by decide) ?_
        refine g_sub [2, 3, 1, 0] rfl ?_
        exact ihi (by omega) _ _ (by first | omega | (simp only [thoF]; (repeat' split) <;> omega)) (by first | omega | (simp only [thoF]; (repeat' split) <;> omega))
      · refine g_iconst C dX9_thingsOf_25 ?_
        refine g_goto C (tgt := 30) dX9_thingsOf_26 (by decide) ?_
        refine g_iadd C dX9_thingsOf_30 ?_
        refine g_istore_n C hn dX9_thingsOf_31 rfl rfl rfl ?_
        refine g_iinc C hn dX9_thingsOf_32 (p := 3) rfl rfl rfl ?_
        refine g_goto C (tgt := 4) dX9_thingsOf_35 (by decide) ?_
        refine g_sub [2, 3, 1, 0] rfl ?_
        exact ihi (by omega) _ _ (by first | omega | (simp only [thoF]; (repeat' split) <;> omega)) (by first | omega | (simp only [thoF]; (repeat' split) <;> omega))
  refine g_sub [2, 3, 1, 0] rfl ?_
  exact L4 0 (Nat.zero_le _) _ _ (by first | rfl | omega | simp) (by first | rfl | omega | simp)
set_option maxHeartbeats 4000000 in
set_option maxRecDepth 100000 in
theorem kX9_isOf {l : Launch} {K : Nat → ClassId} {D : va_G} {ad : Int → Nat} {E : gEnv} {σ : Mem} {k o : Int} (hap : Apart ad 12) (hE : gEok E) (hk : 0 ≤ k ∧ k ≤ 5) (ho : 0 ≤ o ∧ o ≤ 5) : CtI l K D ad 12 (cfM ad K) E yX9_isOf cX9_isOf 2 (some .boolean) 0 [.int (iI k), .int (iI o)] σ (if o = 0 ∨ k = o ∨ (o = 1 ∧ k < 4) ∨ (o = 4 ∧ k = 5) then 1 else 0) σ := by
  refine ctI_of hap hE (by decide) rfl .boolean (nar_z (by split <;> simp)) (fun M C hn hret => ?_)
  have C : Good l K D ad 12 E 0 cX9_isOf RX9 M := C
  show G M ad 12 (cfM ad K) 0 [(0, .int (iI k)), (1, .int (iI o))] [] σ
  refine g_iload_n C dX9_isOf_0 (p := 1) (hi := rfl) (hv := rfl) ?_
  refine g_if_eq C (tgt := 29) dX9_isOf_1 (by decide) (by omega) (fun h_1 => ?_) (fun h_1 => ?_)
  · refine g_iconst C dX9_isOf_29 ?_
    refine g_goto C (tgt := 34) dX9_isOf_30 (by decide) ?_
    exact hret _ _ _ _ dX9_isOf_34 (by first | rfl | omega | ((repeat' split) <;> first | (exfalso; omega) | rfl | omega)) (by first | rfl | omega | ((repeat' split) <;> first | (exfalso; omega) | rfl | omega))
  · refine g_iload_n C dX9_isOf_4 (p := 0) (hi := rfl) (hv := rfl) ?_
    refine g_iload_n C dX9_isOf_5 (p := 1) (hi := rfl) (hv := rfl) ?_
    refine g_icmp_eq C (tgt := 29) dX9_isOf_6 (by decide) (by omega) (by omega) (fun h_2 => ?_) (fun h_2 => ?_)
    · refine g_iconst C dX9_isOf_29 ?_
      refine g_goto C (tgt := 34) dX9_isOf_30 (by decide) ?_
      exact hret _ _ _ _ dX9_isOf_34 (by first | rfl | omega | ((repeat' split) <;> first | (exfalso; omega) | rfl | omega)) (by first | rfl | omega | ((repeat' split) <;> first | (exfalso; omega) | rfl | omega))
    · refine g_iload_n C dX9_isOf_9 (p := 1) (hi := rfl) (hv := rfl) ?_
      refine g_iconst C dX9_isOf_10 ?_
      refine g_icmp_ne C (tgt := 19) dX9_isOf_11 (by decide) (by omega) (by omega) (fun h_3 => ?_) (fun h_3 => ?_)
      · refine g_iload_n C dX9_isOf_19 (p := 1) (hi := rfl) (hv := rfl) ?_
        refine g_iconst C dX9_isOf_20 ?_
        refine g_icmp_ne C (tgt := 33) dX9_isOf_21 (by decide) (by omega) (by omega) (fun h_4 => ?_) (fun h_4 => ?_)
        · refine g_iconst C dX9_isOf_33 ?_
          exact hret _ _ _ _ dX9_isOf_34 (by first | rfl | omega | ((repeat' split) <;> first | (exfalso; omega) | rfl | omega)) (by first | rfl | omega | ((repeat' split) <;> first | (exfalso; omega) | rfl | omega))
        · refine g_iload_n C dX9_isOf_24 (p := 0) (hi := rfl) (hv := rfl) ?_
          refine g_iconst C dX9_isOf_25 ?_
          refine g_icmp_ne C (tgt := 33) dX9_isOf_26 (by decide) (by omega) (by omega) (fun h_5 => ?_) (fun h_5 => ?_)
          · refine g_iconst C dX9_isOf_33 ?_
            exact hret _ _ _ _ dX9_isOf_34 (by first | rfl | omega | ((repeat' split) <;> first | (exfalso; omega) | rfl | omega)) (by first | rfl | omega | ((repeat' split) <;> first | (exfalso; omega) | rfl | omega))
          · refine g_iconst C dX9_isOf_29 ?_
            refine g_goto C (tgt := 34) dX9_isOf_30 (by decide) ?_
            exact hret _ _ _ _ dX9_isOf_34 (by first | rfl | omega | ((repeat' split) <;> first | (exfalso; omega) | rfl | omega)) (by first | rfl | omega | ((repeat' split) <;> first | (exfalso; omega) | rfl | omega))
      · refine g_iload_n C dX9_isOf_14 (p := 0) (hi := rfl) (hv := rfl) ?_
        refine g_iconst C dX9_isOf_15 ?_
        refine g_icmp_lt C (tgt := 29) dX9_isOf_16 (by decide) (by omega) (by omega) (fun h_6 => ?_) (fun h_6 => ?_)
        · refine g_iconst C dX9_isOf_29 ?_
          refine g_goto C (tgt := 34) dX9_isOf_30 (by decide) ?_
          exact hret _ _ _ _ dX9_isOf_34 (by first | rfl | omega | ((repeat' split) <;> first | (exfalso; omega) | rfl | omega)) (by first | rfl | omega | ((repeat' split) <;> first | (exfalso; omega) | rfl | omega))
        · refine g_iload_n C dX9_isOf_19 (p := 1) (hi := rfl) (hv := rfl) ?_
          refine g_iconst C dX9_isOf_20 ?_
          refine g_icmp_ne C (tgt := 33) dX9_isOf_21 (by decide) (by omega) (by omega) (fun h_7 => ?_) (fun h_7 => ?_)
          · refine g_iconst C dX9_isOf_33 ?_
            exact hret _ _ _ _ dX9_isOf_34 (by first | rfl | omega | ((repeat' split) <;> first | (exfalso; omega) | rfl | omega)) (by first | rfl | omega | ((repeat' split) <;> first | (exfalso; omega) | rfl | omega))
          · refine g_iload_n C dX9_isOf_24 (p := 0) (hi := rfl) (hv := rfl) ?_
            refine g_iconst C dX9_isOf_25 ?_
            refine g_icmp_ne C (tgt := 33) dX9_isOf_26 (by decide) (by omega) (by omega) (fun h_8 => ?_) (fun h_8 => ?_)
            · refine g_iconst C dX9_isOf_33 ?_
              exact hret _ _ _ _ dX9_isOf_34 (by first | rfl | omega | ((repeat' split) <;> first | (exfalso; omega) | rfl | omega)) (by first | rfl | omega | ((repeat' split) <;> first | (exfalso; omega) | rfl | omega))
            · refine g_iconst C dX9_isOf_29 ?_
              refine g_goto C (tgt := 34) dX9_isOf_30 (by decide) ?_
              exact hret _ _ _ _ dX9_isOf_34 (by first | rfl | omega | ((repeat' split) <;> first | (exfalso; omega) | rfl | omega)) (by first | rfl | omega | ((repeat' split) <;> first | (exfalso; omega) | rfl | omega))

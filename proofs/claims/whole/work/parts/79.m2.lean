set_option maxHeartbeats 4000000 in
set_option maxRecDepth 100000 in
theorem kX9_bestBy {l : Launch} {K : Nat → ClassId} {D : va_G} {ad : Int → Nat} {E : gEnv} {σ : Mem} {pays t p : Int} (hap : Apart ad 12) (hE : gEok E) (hT : TW (σ 4)) (hp1 : 1 ≤ σ 4 2 ∧ σ 4 2 ≤ 4) (hs : SW (σ 4 2) (σ 8)) (hpa : 0 ≤ pays ∧ pays ≤ 3) (htt : 0 ≤ t ∧ t < 5) (hpp : 0 ≤ p ∧ p < 4) : CtI l K D ad 12 (cfM ad K) E yX9_bestBy cX9_bestBy 9 (some .int) 3 [.ref (ad 0), .int (iI pays), .int (iI t), .int (iI p)] σ (besB (σ 4 1) (σ 4 2) (σ 8) (woF (σ 4) t p) pays p) σ := by
  have hw := woF_in hT htt hpp
  have hg : ∀ v : Int, 0 ≤ v → v ≤ 5 → -100800 ≤ gaiB (σ 4 1) (σ 4 2) (ru (σ 8) p v) (woF (σ 4) t p) pays p ∧ gaiB (σ 4 1) (σ 4 2) (ru (σ 8) p v) (woF (σ 4) t p) pays p ≤ 100800 := fun v h0 h1 => gaiB_in (ru_in hs ⟨h0, h1⟩) hp1 hT.2.1 ⟨by omega, by omega⟩
  refine ctI_of hap hE (by decide) rfl .int (nar_i _) (fun M C hn hret => ?_)
  have C : Good l K D ad 12 E 3 cX9_bestBy RX9 M := C
  show G M ad 12 (cfM ad K) 0 [(0, .ref (ad 0)), (1, .int (iI pays)), (2, .int (iI t)), (3, .int (iI p))] [] σ
  refine g_aload_n C dX9_bestBy_0 (p := 0) (hi := rfl) (hv := rfl) ?_
  refine gm_g_says C dX9_bestBy_1 wf_X9_31 ?_
  refine g_iload_n C dX9_bestBy_4 (p := 3) (hi := rfl) (hv := rfl) ?_
  refine gm_l_says C dX9_bestBy_5 (by omega) (by omega) ?_
  refine g_istore C hn dX9_bestBy_6 rfl rfl ?_
  refine g_iconst C dX9_bestBy_8 ?_
  refine g_istore C hn dX9_bestBy_9 rfl rfl ?_
  refine g_ldc C (n := (-1000000)) wk_X9_80 (by decide +kernel) dX9_bestBy_11 ?_
  refine g_istore C hn dX9_bestBy_13 rfl rfl ?_
  refine g_iconst C dX9_bestBy_15 ?_
  refine g_istore C hn dX9_bestBy_16 rfl rfl ?_
  have L18 : ∀ i : Nat, i ≤ 6 → ∀ (x5 x6 x7 : Int), ∀ (τ18 : Mem), x5 = besF (fun v => gaiB (σ 4 1) (σ 4 2) (ru (σ 8) p v) (woF (σ 4) t p) pays p) i → x6 = mosF (fun v => gaiB (σ 4 1) (σ 4 2) (ru (σ 8) p v) (woF (σ 4) t p) pays p) i → x7 = (i : Int) → τ18 = (mu σ 8 p (if (i : Int) = 0 then σ 8 p else (i : Int) - 1)) → G M ad 12 (cfM ad K) 18 [(0, .ref (ad 0)), (1, .int (iI pays)), (2, .int (iI t)), (3, .int (iI p)), (4, .int (iI (σ 8 p))), (5, .int (iI x5)), (6, .int (iI x6)), (7, .int (iI x7))] [] τ18 := by
    refine loopUp 6 ?_
    rintro i hi ihi x5 x6 x7 τ18 rfl rfl rfl rfl
    have hm := mosF_in ⟨by omega, by omega⟩ hg i hi
    refine g_iload C dX9_bestBy_18 (p := 7) rfl ?_
    refine g_iconst C dX9_bestBy_20 ?_
    refine g_icmp_gt C (tgt := 79) dX9_bestBy_21 (by decide) (by omega) (by omega) (fun h_1 => ?_) (fun h_1 => ?_)
    · have hiN : i = 6 := by omega
      refine g_aload_n C dX9_bestBy_79 (p := 0) (hi := rfl) (hv := rfl) ?_
      refine gm_g_says C dX9_bestBy_80 wf_X9_31 ?_
      refine g_iload_n C dX9_bestBy_83 (p := 3) (hi := rfl) (hv := rfl) ?_
      refine g_iload C dX9_bestBy_84 (p := 4) rfl ?_
      refine gm_s_says C dX9_bestBy_86 (by omega) (by omega) ?_
      refine g_eq rfl rfl rfl mu_mu ?_
      refine g_iload C dX9_bestBy_87 (p := 5) rfl ?_
      exact hret _ _ _ _ dX9_bestBy_89 (by (try subst hiN); unfold besB; rfl) (by (try subst hiN); exact mu_self rfl)
    · refine g_aload_n C dX9_bestBy_24 (p := 0) (hi := rfl) (hv := rfl) ?_
      refine gm_g_says C dX9_bestBy_25 wf_X9_31 ?_
      refine g_iload_n C dX9_bestBy_28 (p := 3) (hi := rfl) (hv := rfl) ?_
      refine g_iload C dX9_bestBy_29 (p := 7) rfl ?_
      refine gm_s_says C dX9_bestBy_31 (by omega) (by omega) ?_
      refine g_eq rfl rfl rfl mu_mu ?_
      refine g_aload_n C dX9_bestBy_32 (p := 0) (hi := rfl) (hv := rfl) ?_
      refine g_iload_n C dX9_bestBy_33 (p := 1) (hi := rfl) (hv := rfl) ?_
      refine g_iload_n C dX9_bestBy_34 (p := 2) (hi := rfl) (hv := rfl) ?_
      refine g_iload_n C dX9_bestBy_35 (p := 3) (hi := rfl) (hv := rfl) ?_
      refine gm_call C dX9_bestBy_36 (kX9_gainBy (σ := (mu σ 8 p (i : Int))) (pays := pays) (t := t) (p := p) hap hE (by first | assumption | omega | exact hT | exact hp1 | exact hs | exact hpa | exact htt | exact hpp) (by first | assumption | omega | exact hT | exact hp1 | exact hs | exact hpa | exact htt | exact hpp) (by exact ru_in hs ⟨by omega, by omega⟩) (by first | assumption | omega | exact hT | exact hp1 | exact hs | exact hpa | exact htt | exact hpp) (by first | assumption | omega | exact hT | exact hp1 | exact hs | exact hpa | exact htt | exact hpp) (by first | assumption | omega | exact hT | exact hp1 | exact hs | exact hpa | exact htt | exact hpp)) mw_X9_gainBy wl_X9_197 (by decide) (by decide) rfl rfl (by simp [Value.category]) ?_
      refine g_cI (b := (gaiB (σ 4 1) (σ 4 2) (ru (σ 8) p (i : Int)) (woF (σ 4) t p) pays p)) (by first | rfl | (congr 1 <;> first | rfl | exact over_out (by omega)) | (congr 2 <;> first | rfl | exact over_out (by omega)) | simp [mu_app, mr_app]) ?_
      refine g_istore C hn dX9_bestBy_39 rfl rfl ?_
      refine g_iload C dX9_bestBy_41 (p := 0) rfl ?_
      refine g_iload C dX9_bestBy_43 (p := 7) rfl ?_
      refine g_icmp_le C (tgt := 53) dX9_bestBy_45 (by decide) (by have := hg (i : Int) (by omega) (by omega); omega) (by omega) (fun h_2 => ?_) (fun h_2 => ?_)
      · refine g_iload C dX9_bestBy_53 (p := 6) rfl ?_
        refine g_istore C hn dX9_bestBy_55 rfl rfl ?_
        refine g_iload C dX9_bestBy_57 (p := 1) rfl ?_
        refine g_iload C dX9_bestBy_59 (p := 7) rfl ?_
        refine g_icmp_le C (tgt := 69) dX9_bestBy_61 (by decide) (by have := hg (i : Int) (by omega) (by omega); omega) (by omega) (fun h_3 => ?_) (fun h_3 => ?_)
        · refine g_iload C dX9_bestBy_69 (p := 7) rfl ?_
          refine g_istore C hn dX9_bestBy_71 rfl rfl ?_
          refine g_iinc C hn dX9_bestBy_73 (p := 8) rfl rfl rfl ?_
          refine g_goto C (tgt := 18) dX9_bestBy_76 (by decide) ?_
          refine g_sub [4, 5, 6, 7, 8, 2, 1, 0] rfl ?_
          exact ihi (by omega) _ _ _ _ (by first | omega | (simp only [besF, mosF]; (repeat' split) <;> omega)) (by first | omega | (simp only [besF, mosF]; (repeat' split) <;> omega)) (by first | omega | (simp only [besF, mosF]; (repeat' split) <;> omega)) (by congr 1; (repeat' split) <;> omega)
        · refine g_iload C dX9_bestBy_64 (p := 1) rfl ?_
          refine g_goto C (tgt := 71) dX9_bestBy_66 (by decide) ?_
          refine g_istore C hn dX9_bestBy_71 rfl rfl ?_
          refine g_iinc C hn dX9_bestBy_73 (p := 8) rfl rfl rfl ?_
          refine g_goto C (tgt := 18) dX9_bestBy_76 (by decide) ?_
          refine g_sub [4, 5, 6, 7, 8, 2, 1, 0] rfl ?_
          exact ihi (by omega) _ _ _ _ (by first | omega | (simp only [besF, mosF]; (repeat' split) <;> omega)) (by first | omega | (simp only [besF, mosF]; (repeat' split) <;> omega)) (by first | omega | (simp only [besF, mosF]; (repeat' split) <;> omega)) (by congr 1; (repeat' split) <;> omega)
      · refine g_iload C dX9_bestBy_48 (p := 8) rfl ?_
        refine g_goto C (tgt := 55) dX9_bestBy_50 (by decide) ?_
        refine g_istore C hn dX9_bestBy_55 rfl rfl ?_
        refine g_iload C dX9_bestBy_57 (p := 1) rfl ?_
        refine g_iload C dX9_bestBy_59 (p := 7) rfl ?_
        refine g_icmp_le C (tgt := 69) dX9_bestBy_61 (by decide) (by have := hg (i : Int) (by omega) (by omega); omega) (by omega) (fun h_4 => ?_) (fun h_4 => ?_)
        · refine g_iload C dX9_bestBy_69 (p := 7) rfl ?_
          refine g_istore C hn dX9_bestBy_71 rfl rfl ?_
          refine g_iinc C hn dX9_bestBy_73 (p := 8) rfl rfl rfl ?_
          refine g_goto C (tgt := 18) dX9_bestBy_76 (by decide) ?_
          refine g_sub [4, 5, 6, 7, 8, 2, 1, 0] rfl ?_
          exact ihi (by omega) _ _ _ _ (by first | omega | (simp only [besF, mosF]; (repeat' split) <;> omega)) (by first | omega | (simp only [besF, mosF]; (repeat' split) <;> omega)) (by first | omega | (simp only [besF, mosF]; (repeat' split) <;> omega)) (by congr 1; (repeat' split) <;> omega)
        · refine g_iload C dX9_bestBy_64 (p := 1) rfl ?_
          refine g_goto C (tgt := 71) dX9_bestBy_66 (by decide) ?_
          refine g_istore C hn dX9_bestBy_71 rfl rfl ?_
          refine g_iinc C hn dX9_bestBy_73 (p := 8) rfl rfl rfl ?_
          refine g_goto C (tgt := 18) dX9_bestBy_76 (by decide) ?_
          refine g_sub [4, 5, 6, 7, 8, 2, 1, 0] rfl ?_
          exact ihi (by omega) _ _ _ _ (by first | omega | (simp only [besF, mosF]; (repeat' split) <;> omega)) (by first | omega | (simp only [besF, mosF]; (repeat' split) <;> omega)) (by first | omega | (simp only [besF, mosF]; (repeat' split) <;> omega)) (by congr 1; (repeat' split) <;> omega)
  refine g_sub [4, 5, 6, 7, 3, 2, 1, 0] rfl ?_
  exact L18 0 (Nat.zero_le _) _ _ _ _ (by first | rfl | omega | simp) (by first | rfl | omega | simp) (by first | rfl | omega | simp) (by exact (mu_self (if_pos rfl)).symm)
set_option maxHeartbeats 4000000 in
set_option maxRecDepth 100000 in
theorem kX9_isRest {l : Launch} {K : Nat → ClassId} {D : va_G} {ad : Int → Nat} {E : gEnv} {σ : Mem} {pays t : Int} (hap : Apart ad 12) (hE : gEok E) (hT : TW (σ 4)) (hp1 : 1 ≤ σ 4 2 ∧ σ 4 2 ≤ 4) (hs : SW (σ 4 2) (σ 8)) (hpa : 0 ≤ pays ∧ pays ≤ 3) (htt : 0 ≤ t ∧ t < 5) : CtI l K D ad 12 (cfM ad K) E yX9_isRest cX9_isRest 7 (some .boolean) 4 [.ref (ad 0), .int (iI pays), .int (iI t)] σ (resF (σ 4) (σ 8) pays t (σ 4 2).toNat) σ := by
  have hp : 0 ≤ σ 4 2 ∧ σ 4 2 ≤ 4 := hT.2.2.1
  have hg : ∀ p v : Int, 0 ≤ p → p < 4 → 0 ≤ v → v ≤ 5 → -100800 ≤ gaiB (σ 4 1) (σ 4 2) (ru (σ 8) p v) (woF (σ 4) t p) pays p ∧ gaiB (σ 4 1) (σ 4 2) (ru (σ 8) p v) (woF (σ 4) t p) pays p ≤ 100800 := fun p v g0 g1 h0 h1 => gaiB_in (ru_in hs ⟨h0, h1⟩) hp1 hT.2.1 (by have := woF_in hT htt ⟨g0, g1⟩; omega)
  have hg2 : ∀ p : Int, 0 ≤ p → p < 4 → -100800 ≤ gaiB (σ 4 1) (σ 4 2) (σ 8) (woF (σ 4) t p) pays p ∧ gaiB (σ 4 1) (σ 4 2) (σ 8) (woF (σ 4) t p) pays p ≤ 100800 := fun p g0 g1 => gaiB_in hs hp1 hT.2.1 (by have := woF_in hT htt ⟨g0, g1⟩; omega)
  refine ctI_of hap hE (by decide) rfl .boolean (nar_z (by exact resF_01 _ _ _ _ _)) (fun M C hn hret => ?_)
  have C : Good l K D ad 12 E 4 cX9_isRest RX9 M := C
  show G M ad 12 (cfM ad K) 0 [(0, .ref (ad 0)), (1, .int (iI pays)), (2, .int (iI t))] [] σ
  refine g_iconst C dX9_isRest_0 ?_
  refine g_istore_n C hn dX9_isRest_1 rfl rfl rfl ?_
  refine g_iconst C dX9_isRest_2 ?_
  refine g_istore C hn dX9_isRest_3 rfl rfl ?_
  have L5 : ∀ i : Nat, i ≤ ((σ 4 2).toNat) → ∀ (x3 x4 : Int), x3 = resF (σ 4) (σ 8) pays t i → x4 = (i : Int) → G M ad 12 (cfM ad K) 5 [(0, .ref (ad 0)), (1, .int (iI pays)), (2, .int (iI t)), (3, .int (iI x3)), (4, .int (iI x4))] [] σ := by
    refine loopUp ((σ 4 2).toNat) ?_
    rintro i hi ihi x3 x4 rfl rfl
    have h01 := resF_01 (σ 4) (σ 8) pays t i
    refine g_iload C dX9_isRest_5 (p := 4) rfl ?_
    refine g_aload_n C dX9_isRest_7 (p := 0) (hi := rfl) (hv := rfl) ?_
    refine gm_g_town C dX9_isRest_8 wf_X9_19 ?_
    refine g_iconst C dX9_isRest_11 ?_
    refine gm_l_town C dX9_isRest_12 (by omega) (by omega) ?_
    refine g_icmp_ge C (tgt := 88) dX9_isRest_13 (by decide) (by omega) (by omega) (fun h_1 => ?_) (fun h_1 => ?_)
    · have hiN : i = ((σ 4 2).toNat) := by omega
      refine g_iload_n C dX9_isRest_88 (p := 3) (hi := rfl) (hv := rfl) ?_
      exact hret _ _ _ _ dX9_isRest_89 (by (try subst hiN); first | rfl | (have h0 : resF (σ 4) (σ 8) pays t i = 0 := by omega); rw [h0, resF_0 h0 _ hi]) (by (try subst hiN); first | rfl | omega | ((repeat' split) <;> first | (exfalso; omega) | rfl | omega))
    · refine g_iload_n C dX9_isRest_16 (p := 3) (hi := rfl) (hv := rfl) ?_
      refine g_if_eq C (tgt := 88) dX9_isRest_17 (by decide) (by omega) (fun h_2 => ?_) (fun h_2 => ?_)
      · refine g_iload_n C dX9_isRest_88 (p := 3) (hi := rfl) (hv := rfl) ?_
        exact hret _ _ _ _ dX9_isRest_89 (by (try subst hiN); first | rfl | (have h0 : resF (σ 4) (σ 8) pays t i = 0 := by omega); rw [h0, resF_0 h0 _ hi]) (by (try subst hiN); first | rfl | omega | ((repeat' split) <;> first | (exfalso; omega) | rfl | omega))
      · refine g_aload_n C dX9_isRest_20 (p := 0) (hi := rfl) (hv := rfl) ?_
        refine gm_g_says C dX9_isRest_21 wf_X9_31 ?_
        refine g_iload C dX9_isRest_24 (p := 4) rfl ?_
        refine gm_l_says C dX9_isRest_26 (by omega) (by omega) ?_
        refine g_istore C hn dX9_isRest_27 rfl rfl ?_
        refine g_aload_n C dX9_isRest_29 (p := 1) (hi := rfl) (hv := rfl) ?_
        refine g_iload_n C dX9_isRest_30 (p := 2) (hi := rfl) (hv := rfl) ?_
        refine g_iload_n C dX9_isRest_31 (p := 3) (hi := rfl) (hv := rfl) ?_
        refine g_iload C dX9_isRest_32 (p := 5) rfl ?_
        refine gm_call C dX9_isRest_34 (kX9_gainBy (σ := σ) (pays := pays) (t := t) (p := (i : Int)) hap hE (by first | assumption | omega | exact hT | exact hp1 | exact hs | exact hpa | exact htt) (by first | assumption | omega | exact hT | exact hp1 | exact hs | exact hpa | exact htt) (by first | exact hs | exact ru_in hs besB_in) (by first | assumption | omega | exact hT | exact hp1 | exact hs | exact hpa | exact htt) (by first | assumption | omega | exact hT | exact hp1 | exact hs | exact hpa | exact htt) (by first | assumption | omega | exact hT | exact hp1 | exact hs | exact hpa | exact htt)) mw_X9_gainBy wl_X9_197 (by decide) (by decide) rfl rfl (by simp [Value.category]) ?_
        refine g_istore C hn dX9_isRest_37 rfl rfl ?_
        refine g_aload_n C dX9_isRest_39 (p := 2) (hi := rfl) (hv := rfl) ?_
        refine gm_g_says C dX9_isRest_40 wf_X9_31 ?_
        refine g_iload C dX9_isRest_43 (p := 6) rfl ?_
        refine g_aload_n C dX9_isRest_45 (p := 2) (hi := rfl) (hv := rfl) ?_
        refine g_iload_n C dX9_isRest_46 (p := 3) (hi := rfl) (hv := rfl) ?_
        refine g_iload_n C dX9_isRest_47 (p := 4) (hi := rfl) (hv := rfl) ?_
        refine g_iload C dX9_isRest_48 (p := 6) rfl ?_
        refine gm_call C dX9_isRest_50 (kX9_bestBy (σ := σ) (pays := pays) (t := t) (p := (i : Int)) hap hE (by first | assumption | omega | exact hT | exact hp1 | exact hs | exact hpa | exact htt) (by first | assumption | omega | exact hT | exact hp1 | exact hs | exact hpa | exact htt) (by first | assumption | omega | exact hT | exact hp1 | exact hs | exact hpa | exact htt) (by first | assumption | omega | exact hT | exact hp1 | exact hs | exact hpa | exact htt) (by first | assumption | omega | exact hT | exact hp1 | exact hs | exact hpa | exact htt) (by first | assumption | omega | exact hT | exact hp1 | exact hs | exact hpa | exact htt)) mw_X9_bestBy wl_X9_200 (by decide) (by decide) rfl rfl (by simp [Value.category]) ?_
        refine gm_s_says C dX9_isRest_53 (by omega) (by omega) ?_
        refine g_aload_n C dX9_isRest_54 (p := 2) (hi := rfl) (hv := rfl) ?_
        refine g_iload_n C dX9_isRest_55 (p := 3) (hi := rfl) (hv := rfl) ?_
        refine g_iload_n C dX9_isRest_56 (p := 4) (hi := rfl) (hv := rfl) ?_
        refine g_iload C dX9_isRest_57 (p := 6) rfl ?_
        refine gm_call C dX9_isRest_59 (kX9_gainBy (σ := (mu σ 8 (i : Int) (besB (σ 4 1) (σ 4 2) (σ 8) (woF (σ 4) t (i : Int)) pays (i : Int)))) (pays := pays) (t := t) (p := (i : Int)) hap hE (by first | assumption | omega | exact hT | exact hp1 | exact hs | exact hpa | exact htt) (by first | assumption | omega | exact hT | exact hp1 | exact hs | exact hpa | exact htt) (by first | exact hs | exact ru_in hs besB_in) (by first | assumption | omega | exact hT | exact hp1 | exact hs | exact hpa | exact htt) (by first | assumption | omega | exact hT | exact hp1 | exact hs | exact hpa | exact htt) (by first | assumption | omega | exact hT | exact hp1 | exact hs | exact hpa | exact htt)) mw_X9_gainBy wl_X9_197 (by decide) (by decide) rfl rfl (by simp [Value.category]) ?_
        refine g_cI (b := (gaiB (σ 4 1) (σ 4 2) (ru (σ 8) (i : Int) (besB (σ 4 1) (σ 4 2) (σ 8) (woF (σ 4) t (i : Int)) pays (i : Int))) (woF (σ 4) t (i : Int)) pays (i : Int))) (by first | rfl | (congr 1 <;> first | rfl | exact over_out (by omega)) | (congr 2 <;> first | rfl | exact over_out (by omega)) | simp [mu_app, mr_app]) ?_
        refine g_iload C dX9_isRest_62 (p := 0) rfl ?_
        refine g_icmp_gt C (tgt := 71) dX9_isRest_64 (by decide) (by have := hg (i : Int) (besB (σ 4 1) (σ 4 2) (σ 8) (woF (σ 4) t (i : Int)) pays (i : Int)) (by omega) (by omega) besB_in.1 besB_in.2; omega) (by have := hg2 (i : Int) (by omega) (by omega); omega) (fun h_3 => ?_) (fun h_3 => ?_)
        · refine g_iconst C dX9_isRest_71 ?_
          refine g_istore_n C hn dX9_isRest_72 rfl rfl rfl ?_
          refine g_aload_n C dX9_isRest_73 (p := 3) (hi := rfl) (hv := rfl) ?_
          refine gm_g_says C dX9_isRest_74 wf_X9_31 ?_
          refine g_iload C dX9_isRest_77 (p := 6) rfl ?_
          refine g_iload C dX9_isRest_79 (p := 2) rfl ?_
          refine gm_s_says C dX9_isRest_81 (by omega) (by omega) ?_
          refine g_eq rfl rfl rfl mu_mu ?_
          refine g_iinc C hn dX9_isRest_82 (p := 6) rfl rfl rfl ?_
          refine g_goto C (tgt := 5) dX9_isRest_85 (by decide) ?_
          refine g_sub [4, 5, 6, 1, 0] rfl ?_
          refine g_eq rfl rfl rfl (by exact mu_self rfl) ?_
          exact ihi (by omega) _ _ (by first | omega | (simp only [resF]; (repeat' split) <;> omega)) (by first | omega | (simp only [resF]; (repeat' split) <;> omega))
        · refine g_iconst C dX9_isRest_67 ?_
          refine g_goto C (tgt := 72) dX9_isRest_68 (by decide) ?_
          refine g_istore_n C hn dX9_isRest_72 rfl rfl rfl ?_
          refine g_aload_n C dX9_isRest_73 (p := 3) (hi := rfl) (hv := rfl) ?_
          refine gm_g_says C dX9_isRest_74 wf_X9_31 ?_
          refine g_iload C dX9_isRest_77 (p := 6) rfl ?_
          refine g_iload C dX9_isRest_79 (p := 2) rfl ?_
          refine gm_s_says C dX9_isRest_81 (by omega) (by omega) ?_
          refine g_eq rfl rfl rfl mu_mu ?_
          refine g_iinc C hn dX9_isRest_82 (p := 6) rfl rfl rfl ?_
          refine g_goto C (tgt := 5) dX9_isRest_85 (by decide) ?_
          refine g_sub [4, 5, 6, 1, 0] rfl ?_
          refine g_eq rfl rfl rfl (by exact mu_self rfl) ?_
          exact ihi (by omega) _ _ (by first | omega | (simp only [resF]; (repeat' split) <;> omega)) (by first | omega | (simp only [resF]; (repeat' split) <;> omega))
  refine g_sub [2, 3, 4, 1, 0] rfl ?_
  exact L5 0 (Nat.zero_le _) _ _ (by first | rfl | omega | simp) (by first | rfl | omega | simp)
set_option maxHeartbeats 4000000 in
set_option maxRecDepth 100000 in
theorem kX9_barred {l : Launch} {K : Nat → ClassId} {D : va_G} {ad : Int → Nat} {E : gEnv} {σ : Mem} {r : Int} (hap : Apart ad 12) (hE : gEok E) (hp : 0 ≤ σ 4 2 ∧ σ 4 2 ≤ 4) (hm : ∀ r : Int, 0 ≤ r → r ≤ 7 → (-1 ≤ σ 1 r ∧ σ 1 r ≤ 2) ∧ (0 ≤ σ 2 r ∧ σ 2 r ≤ 40)) (hit : ∀ j : Int, R3 (σ 3 j)) (hrr : 0 ≤ r ∧ r ≤ 7) : CtI l K D ad 12 (cfM ad K) E yX9_barred cX9_barred 3 (some .int) 1 [.ref (ad 0), .int (iI r)] σ (barR σ r) (barM σ r) := by
  have hmr := hm r hrr.1 hrr.2
  refine ctI_of hap hE (by decide) rfl .int (nar_i _) (fun M C hn hret => ?_)
  have C : Good l K D ad 12 E 1 cX9_barred RX9 M := C
  show G M ad 12 (cfM ad K) 0 [(0, .ref (ad 0)), (1, .int (iI r))] [] σ
  refine g_aload_n C dX9_barred_0 (p := 0) (hi := rfl) (hv := rfl) ?_
  refine gm_g_lane C dX9_barred_1 wf_X9_7 ?_
  refine g_iload_n C dX9_barred_4 (p := 1) (hi := rfl) (hv := rfl) ?_
  refine gm_l_lane C dX9_barred_5 (by omega) (by omega) ?_
  refine g_if_ge C (tgt := 15) dX9_barred_6 (by decide) (by omega) (fun h_1 => ?_) (fun h_1 => ?_)
  · refine g_aload_n C dX9_barred_15 (p := 0) (hi := rfl) (hv := rfl) ?_
    refine gm_g_town C dX9_barred_16 wf_X9_19 ?_
    refine g_iconst C dX9_barred_19 ?_
    refine gm_l_town C dX9_barred_20 (by omega) (by omega) ?_
    refine g_aload_n C dX9_barred_21 (p := 0) (hi := rfl) (hv := rfl) ?_
    refine gm_g_many C dX9_barred_22 wf_X9_13 ?_
    refine g_iload_n C dX9_barred_25 (p := 1) (hi := rfl) (hv := rfl) ?_
    refine gm_l_many C dX9_barred_26 (by omega) (by omega) ?_
    refine g_icmp_le C (tgt := 36) dX9_barred_27 (by decide) (by omega) (by omega) (fun h_2 => ?_) (fun h_2 => ?_)
    · refine g_iconst C dX9_barred_36 ?_
      refine g_istore_n C hn dX9_barred_37 rfl rfl rfl ?_
      have L38 : ∀ i : Nat, i ≤ ((σ 4 2).toNat) → ∀ (x2 : Int), ∀ (τ38 : Mem), x2 = (i : Int) → τ38 = (mr σ 8 (over (σ 8) (fun p => σ 3 (40 * r + p)) 0 (i : Int))) → fbF (fun p => σ 3 (40 * r + p)) i = (i : Int) → G M ad 12 (cfM ad K) 38 [(0, .ref (ad 0)), (1, .int (iI r)), (2, .int (iI x2))] [] τ38 := by
        refine loopUp ((σ 4 2).toNat) ?_
        rintro i hi ihi x2 τ38 rfl rfl hfb
        have hii := hit (40 * r + (i : Int))
        refine g_iload_n C dX9_barred_38 (p := 2) (hi := rfl) (hv := rfl) ?_
        refine g_aload_n C dX9_barred_39 (p := 0) (hi := rfl) (hv := rfl) ?_
        refine gm_g_town C dX9_barred_40 wf_X9_19 ?_
        refine g_iconst C dX9_barred_43 ?_
        refine gm_l_town C dX9_barred_44 (by omega) (by omega) ?_
        refine g_cI (b := (σ 4 2)) (by first | rfl | (rw [mr_app, if_pos rfl]; exact over_out (by omega)) | simp [mu_app, mr_app]) ?_
        refine g_icmp_ge C (tgt := 96) dX9_barred_45 (by decide) (by omega) (by omega) (fun h_3 => ?_) (fun h_3 => ?_)
        · have hiN : i = ((σ 4 2).toNat) := by omega
          refine g_aload_n C dX9_barred_96 (p := 0) (hi := rfl) (hv := rfl) ?_
          refine g_iconst C dX9_barred_97 ?_
          refine gm_p_status C dX9_barred_98 wf_X9_48 ?_
          refine g_iconst C dX9_barred_101 ?_
          exact hret _ _ _ _ dX9_barred_102 (by (try subst hiN); unfold barR; (repeat' split) <;> first | rfl | omega | (exfalso; have hz := fbF_bad hfb (show ¬ (0 ≤ σ 3 (40 * r + (i : Int)) ∧ σ 3 (40 * r + (i : Int)) ≤ 5) by omega) (show i < (σ 4 2).toNat by omega); omega)) (by (try subst hiN); unfold barM; (repeat' split) <;> first | rfl | omega | (rw [show ((σ 4 2).toNat : Int) = σ 4 2 by omega]) | (rw [fbF_bad hfb (show ¬ (0 ≤ σ 3 (40 * r + (i : Int)) ∧ σ 3 (40 * r + (i : Int)) ≤ 5) by omega) (show i < (σ 4 2).toNat by omega)]) | (exfalso; have hz := fbF_bad hfb (show ¬ (0 ≤ σ 3 (40 * r + (i : Int)) ∧ σ 3 (40 * r + (i : Int)) ≤ 5) by omega) (show i < (σ 4 2).toNat by omega); omega))
        · refine g_aload_n C dX9_barred_48 (p := 0) (hi := rfl) (hv := rfl) ?_
          refine gm_g_item C dX9_barred_49 wf_X9_16 ?_
          refine (g_bipush C dX9_barred_52 (by decide)) ?_
          refine g_iload_n C dX9_barred_54 (p := 1) (hi := rfl) (hv := rfl) ?_
          refine g_imul C dX9_barred_55 ?_
          refine g_iload_n C dX9_barred_56 (p := 2) (hi := rfl) (hv := rfl) ?_
          refine g_iadd C dX9_barred_57 ?_
          refine gm_l_item C dX9_barred_58 (by omega) (by omega) ?_
          refine g_cI (b := (σ 3 ((40 * r) + (i : Int)))) (by first | rfl | (rw [mr_app, if_pos rfl]; exact over_out (by omega)) | simp [mu_app, mr_app]) ?_
          refine g_i2l C (by omega) dX9_barred_59 ?_
          refine g_lconst C (z := 0) dX9_barred_60 rfl ?_
          refine g_ldc2 C (n := 5) wk_X9_185 (by decide +kernel) dX9_barred_61 ?_
          refine g_callS C dX9_barred_64 (kX9_in (σ := (mr σ 8 (over (σ 8) (fun p => σ 3 (40 * r + p)) 0 (i : Int)))) (v := σ 3 ((40 * r) + (i : Int))) (lo := 0) (hi := 5) hap hE (by omega) (by first | assumption | omega | exact hp | exact hm | exact hit | exact hrr) (by first | assumption | omega | exact hp | exact hm | exact hit | exact hrr)) mw_X9_in wl_X9_54 (by decide) (by decide) rfl rfl (by simp [Value.category]) ?_
          refine g_if_ne C (tgt := 73) dX9_barred_67 (by decide) (by omega) (fun h_4 => ?_) (fun h_4 => ?_)
          · refine g_aload_n C dX9_barred_73 (p := 0) (hi := rfl) (hv := rfl) ?_
            refine gm_g_says C dX9_barred_74 wf_X9_31 ?_
            refine g_iload_n C dX9_barred_77 (p := 2) (hi := rfl) (hv := rfl) ?_
            refine g_aload_n C dX9_barred_78 (p := 0) (hi := rfl) (hv := rfl) ?_
            refine gm_g_item C dX9_barred_79 wf_X9_16 ?_
            refine (g_bipush C dX9_barred_82 (by decide)) ?_
            refine g_iload_n C dX9_barred_84 (p := 1) (hi := rfl) (hv := rfl) ?_
            refine g_imul C dX9_barred_85 ?_
            refine g_iload_n C dX9_barred_86 (p := 2) (hi := rfl) (hv := rfl) ?_
            refine g_iadd C dX9_barred_87 ?_
            refine gm_l_item C dX9_barred_88 (by omega) (by omega) ?_
            refine g_cI (b := (σ 3 ((40 * r) + (i : Int)))) (by first | rfl | (rw [mr_app, if_pos rfl]; exact over_out (by omega)) | simp [mu_app, mr_app]) ?_
            refine gm_s_says C dX9_barred_89 (by omega) (by omega) ?_
            refine g_iinc C hn dX9_barred_90 (p := 2) rfl rfl rfl ?_
            refine g_goto C (tgt := 38) dX9_barred_93 (by decide) ?_
            refine g_sub [1, 2, 0] rfl ?_
            exact ihi (by omega) _ _ (by first | rfl | omega) (by exact over_step (by omega) (by omega) rfl) (by simp only [fbF]; (repeat' split) <;> omega)
          · refine g_ldc C (n := (-1000001)) wk_X9_64 (by decide +kernel) dX9_barred_70 ?_
            exact hret _ _ _ _ dX9_barred_72 (by (try subst hiN); unfold barR; (repeat' split) <;> first | rfl | omega | (exfalso; have hz := fbF_bad hfb (show ¬ (0 ≤ σ 3 (40 * r + (i : Int)) ∧ σ 3 (40 * r + (i : Int)) ≤ 5) by omega) (show i < (σ 4 2).toNat by omega); omega)) (by (try subst hiN); unfold barM; (repeat' split) <;> first | rfl | omega | (rw [show ((σ 4 2).toNat : Int) = σ 4 2 by omega]) | (rw [fbF_bad hfb (show ¬ (0 ≤ σ 3 (40 * r + (i : Int)) ∧ σ 3 (40 * r + (i : Int)) ≤ 5) by omega) (show i < (σ 4 2).toNat by omega)]) | (exfalso; have hz := fbF_bad hfb (show ¬ (0 ≤ σ 3 (40 * r + (i : Int)) ∧ σ 3 (40 * r + (i : Int)) ≤ 5) by omega) (show i < (σ 4 2).toNat by omega); omega))
      refine g_sub [1, 2, 0] rfl ?_
      exact L38 0 (Nat.zero_le _) _ _ (by first | rfl | omega | simp) (by exact over_init (by omega)) (by rfl)
    · refine g_aload_n C dX9_barred_30 (p := 0) (hi := rfl) (hv := rfl) ?_
      refine g_iconst C dX9_barred_31 ?_
      refine gm_call C dX9_barred_32 (kX9_finding (σ := σ) (k := 2) hap hE) mw_X9_finding wl_X9_65 (by decide) (by decide) rfl rfl (by simp [Value.category]) ?_
      exact hret _ _ _ _ dX9_barred_35 (by (try subst hiN); unfold barR; (repeat' split) <;> first | rfl | omega | (exfalso; have hz := fbF_bad hfb (show ¬ (0 ≤ σ 3 (40 * r + (i : Int)) ∧ σ 3 (40 * r + (i : Int)) ≤ 5) by omega) (show i < (σ 4 2).toNat by omega); omega)) (by (try subst hiN); unfold barM; (repeat' split) <;> first | rfl | omega | (rw [show ((σ 4 2).toNat : Int) = σ 4 2 by omega]) | (rw [fbF_bad hfb (show ¬ (0 ≤ σ 3 (40 * r + (i : Int)) ∧ σ 3 (40 * r + (i : Int)) ≤ 5) by omega) (show i < (σ 4 2).toNat by omega)]) | (exfalso; have hz := fbF_bad hfb (show ¬ (0 ≤ σ 3 (40 * r + (i : Int)) ∧ σ 3 (40 * r + (i : Int)) ≤ 5) by omega) (show i < (σ 4 2).toNat by omega); omega))
  · refine g_aload_n C dX9_barred_9 (p := 0) (hi := rfl) (hv := rfl) ?_
    refine g_iconst C dX9_barred_10 ?_
    refine gm_call C dX9_barred_11 (kX9_finding (σ := σ) (k := 1) hap hE) mw_X9_finding wl_X9_65 (by decide) (by decide) rfl rfl (by simp [Value.category]) ?_
    exact hret _ _ _ _ dX9_barred_14 (by (try subst hiN); unfold barR; (repeat' split) <;> first | rfl | omega | (exfalso; have hz := fbF_bad hfb (show ¬ (0 ≤ σ 3 (40 * r + (i : Int)) ∧ σ 3 (40 * r + (i : Int)) ≤ 5) by omega) (show i < (σ 4 2).toNat by omega); omega)) (by (try subst hiN); unfold barM; (repeat' split) <;> first | rfl | omega | (rw [show ((σ 4 2).toNat : Int) = σ 4 2 by omega]) | (rw [fbF_bad hfb (show ¬ (0 ≤ σ 3 (40 * r + (i : Int)) ∧ σ 3 (40 * r + (i : Int)) ≤ 5) by omega) (show i < (σ 4 2).toNat by omega)]) | (exfalso; have hz := fbF_bad hfb (show ¬ (0 ≤ σ 3 (40 * r + (i : Int)) ∧ σ 3 (40 * r + (i : Int)) ≤ 5) by omega) (show i < (σ 4 2).toNat by omega); omega))
theorem kX9_barred_ok {l : Launch} {K : Nat → ClassId} {D : va_G} {ad : Int → Nat} {E : gEnv} {σ : Mem} {r : Int} (hap : Apart ad 12) (hE : gEok E) (hp : 0 ≤ σ 4 2 ∧ σ 4 2 ≤ 4) (hm : ∀ r : Int, 0 ≤ r → r ≤ 7 → (-1 ≤ σ 1 r ∧ σ 1 r ≤ 2) ∧ (0 ≤ σ 2 r ∧ σ 2 r ≤ 40)) (hit : ∀ j : Int, R3 (σ 3 j)) (hrr : 0 ≤ r ∧ r ≤ 7) (hok : okB σ r) : CtI l K D ad 12 (cfM ad K) E yX9_barred cX9_barred 3 (some .int) 1 [.ref (ad 0), .int (iI r)] σ 0 (mu (mr σ 8 (over (σ 8) (fun p => σ 3 (40 * r + p)) 0 (σ 4 2))) 0 1 0) := by
  have h := kX9_barred (l := l) (K := K) (D := D) (E := E) hap hE hp hm hit hrr
  rw [barR_ok hok, barM_ok hok] at h
  exact h
theorem kX9_barred_no {l : Launch} {K : Nat → ClassId} {D : va_G} {ad : Int → Nat} {E : gEnv} {σ : Mem} {r : Int} (hap : Apart ad 12) (hE : gEok E) (hp : 0 ≤ σ 4 2 ∧ σ 4 2 ≤ 4) (hm : ∀ r : Int, 0 ≤ r → r ≤ 7 → (-1 ≤ σ 1 r ∧ σ 1 r ≤ 2) ∧ (0 ≤ σ 2 r ∧ σ 2 r ≤ 40)) (hit : ∀ j : Int, R3 (σ 3 j)) (hrr : 0 ≤ r ∧ r ≤ 7) (hno : ¬ okB σ r) : CtI l K D ad 12 (cfM ad K) E yX9_barred cX9_barred 3 (some .int) 1 [.ref (ad 0), .int (iI r)] σ (barR σ r) (barM σ r) := kX9_barred hap hE hp hm hit hrr

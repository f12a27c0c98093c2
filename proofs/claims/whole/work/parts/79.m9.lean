set_option maxHeartbeats 4000000 in
set_option maxRecDepth 100000 in
theorem kX9_readThing {l : Launch} {K : Nat → ClassId} {D : va_G} {ad : Int → Nat} {E : gEnv} {σ : Mem} (hap : Apart ad 12) (hE : gEok E) (hPW : PW σ) : CtV l K D ad 12 (cfM ad K) E yX9_readThing cX9_readThing 4 none 4 [.ref (ad 0)] σ (rtM σ) := by
  have htp := hPW.1
  have hb7 := htp.1
  have h12 := htp.2.1
  have h13 := htp.2.2
  have h15 := hPW.2.1
  have h14 := hPW.2.2.1
  have h17 := hPW.2.2.2.1
  have h143 := hPW.2.2.2.2.1
  have h52 := hPW.2.2.2.2.2.1
  have h53 := hPW.2.2.2.2.2.2
  have hg := begM_PW hPW (so := 3) (room := 5)
  have hgf := hg.2.2.2.1
  have hA := rtA_in hPW
  have hg3 := begM_c (σ := σ) (so := 3) (room := 5) (q := 5) (j := 3) (by decide)
  have hg2 := begM_c (σ := σ) (so := 3) (room := 5) (q := 5) (j := 2) (by decide)
  have hgz := @begM_f σ 3 5
  have hL := rtL_PW hg hA.1
  have hY := rtY_PW hPW
  have hYf := hY.2.2.2.1
  have hYc := rtY_c hPW (j := 3) (by decide)
  have hYz := rtY_f hPW
  refine ctV_of hap hE (by decide) rfl (fun M C hn hret => ?_)
  have C : Good l K D ad 12 E 4 cX9_readThing RX9 M := C
  show G M ad 12 (cfM ad K) 0 [(0, .ref (ad 0))] [] σ
  refine g_aload_n C dX9_readThing_0 (p := 0) (hi := rfl) (hv := rfl) ?_
  refine g_iconst C dX9_readThing_1 ?_
  refine g_iconst C dX9_readThing_2 ?_
  refine gm_callv C dX9_readThing_3 (kX9_begins (σ := σ) (so := 3) (room := 5) hap hE (by exact hPW) (by first | assumption | omega | exact hPW) (by first | assumption | omega | exact hPW)) mw_X9_begins wl_X9_133 (by decide) (by decide) rfl rfl (by simp [Value.category]) ?_
  refine g_aload_n C dX9_readThing_6 (p := 0) (hi := rfl) (hv := rfl) ?_
  refine gm_g_fault C dX9_readThing_7 wf_X9_102 ?_
  refine g_if_ne C (tgt := 28) dX9_readThing_10 (by decide) (by omega) (fun h_1 => ?_) (fun h_1 => ?_)
  · refine (g_bipush C dX9_readThing_28 (by decide)) ?_
    refine g_istore_n C hn dX9_readThing_30 rfl rfl rfl ?_
    refine g_iconst C dX9_readThing_31 ?_
    refine g_istore_n C hn dX9_readThing_32 rfl rfl rfl ?_
    have L33 : ∀ i : Nat, i ≤ ((σ 5 2).toNat) → ∀ (x1 x2 : Int), ∀ (τ33 : Mem), x1 = (rtA σ) → x2 = (i : Int) → τ33 = (rtL (begM σ 3 5) (rtA σ) i) → G M ad 12 (cfM ad K) 33 [(0, .ref (ad 0)), (1, .int (iI x1)), (2, .int (iI x2))] [] τ33 := by
      refine loopUp ((σ 5 2).toNat) ?_
      rintro i hi ihi x1 x2 τ33 rfl rfl rfl
      have hLi := hL i
      have hLc := rtL_c (s := begM σ 3 5) (q := 5) (j := 2) hA.1 (by decide) (fun _ => by decide) i
      have hNf := (numM_PW (lo := 0) (hi := 60) hLi).2.2.2.1
      refine g_iload_n C dX9_readThing_33 (p := 2) (hi := rfl) (hv := rfl) ?_
      refine g_aload_n C dX9_readThing_34 (p := 0) (hi := rfl) (hv := rfl) ?_
      refine gm_g_fresh C dX9_readThing_35 wf_X9_22 ?_
      refine g_iconst C dX9_readThing_38 ?_
      refine gm_l_fresh C dX9_readThing_39 (by omega) (by omega) ?_
      refine g_icmp_ge C (tgt := 77) dX9_readThing_40 (by decide) (by omega) (by omega) (fun h_2 => ?_) (fun h_2 => ?_)
      · have hiN : i = ((σ 5 2).toNat) := by omega
        refine g_aload_n C dX9_readThing_77 (p := 0) (hi := rfl) (hv := rfl) ?_
        refine gm_callv C dX9_readThing_78 (kX9_mustEnd (σ := (rtL (begM σ 3 5) (rtA σ) i)) hap hE (by exact hLi)) mw_X9_mustEnd wl_X9_145 (by decide) (by decide) rfl rfl (by simp [Value.category]) ?_
        refine g_eq (σ' := (rtY σ)) rfl rfl rfl (by try subst hiN; rfl) ?_
        refine g_aload_n C dX9_readThing_81 (p := 0) (hi := rfl) (hv := rfl) ?_
        refine gm_g_fault C dX9_readThing_82 wf_X9_102 ?_
        refine g_if_ne C (tgt := 117) dX9_readThing_85 (by decide) (by omega) (fun h_3 => ?_) (fun h_3 => ?_)
        · exact hret _ _ _ dX9_readThing_117 (by (try subst hiN); unfold rtM; (repeat' split) <;> first | (exfalso; omega) | rfl)
        · refine g_aload_n C dX9_readThing_88 (p := 0) (hi := rfl) (hv := rfl) ?_
          refine gm_g_fresh C dX9_readThing_89 wf_X9_22 ?_
          refine g_iload_n C dX9_readThing_92 (p := 1) (hi := rfl) (hv := rfl) ?_
          refine g_iconst C dX9_readThing_93 ?_
          refine g_iadd C dX9_readThing_94 ?_
          refine g_ldc C (n := (-1000000)) wk_X9_80 (by decide +kernel) dX9_readThing_95 ?_
          refine gm_s_fresh C dX9_readThing_97 (by omega) (by omega) ?_
          refine g_aload_n C dX9_readThing_98 (p := 0) (hi := rfl) (hv := rfl) ?_
          refine gm_g_fresh C dX9_readThing_99 wf_X9_22 ?_
          refine g_iload_n C dX9_readThing_102 (p := 1) (hi := rfl) (hv := rfl) ?_
          refine g_iconst C dX9_readThing_103 ?_
          refine g_iadd C dX9_readThing_104 ?_
          refine g_iconst C dX9_readThing_105 ?_
          refine gm_s_fresh C dX9_readThing_106 (by omega) (by omega) ?_
          refine g_aload_n C dX9_readThing_107 (p := 0) (hi := rfl) (hv := rfl) ?_
          refine gm_g_fresh C dX9_readThing_108 wf_X9_22 ?_
          refine g_iconst C dX9_readThing_111 ?_
          refine g_dup2 C dX9_readThing_112 rfl rfl ?_
          refine gm_l_fresh C dX9_readThing_113 (by omega) (by omega) ?_
          refine g_cI (b := ((ru (ru ((rtY σ) 5) ((rtA σ) + 4) (-1000000)) ((rtA σ) + 5) 0) 3)) (by first | rfl | (rw [mr_app, if_pos rfl]; exact over_out (by omega)) | simp [mu_app, mr_app]) ?_
          refine g_iconst C dX9_readThing_114 ?_
          refine g_iadd C dX9_readThing_115 ?_
          refine gm_s_fresh C dX9_readThing_116 (by omega) (by omega) ?_
          exact hret _ _ _ dX9_readThing_117 (by (try subst hiN); unfold rtM; (repeat' split) <;> first | (exfalso; omega) | rfl)
      · refine g_aload_n C dX9_readThing_43 (p := 0) (hi := rfl) (hv := rfl) ?_
        refine g_iconst C dX9_readThing_44 ?_
        refine (g_bipush C dX9_readThing_45 (by decide)) ?_
        refine gm_call C dX9_readThing_47 (kX9_number (σ := (rtL (begM σ 3 5) (rtA σ) i)) (lo := 0) (hi := 60) hap hE (by exact hLi) (by first | assumption | omega | exact hPW) (by first | assumption | omega | exact hPW)) mw_X9_number wl_X9_148 (by decide) (by decide) rfl rfl (by simp [Value.category]) ?_
        refine g_istore_n C hn dX9_readThing_50 rfl rfl rfl ?_
        refine g_aload_n C dX9_readThing_51 (p := 1) (hi := rfl) (hv := rfl) ?_
        refine gm_g_fresh C dX9_readThing_52 wf_X9_22 ?_
        refine g_iload_n C dX9_readThing_55 (p := 2) (hi := rfl) (hv := rfl) ?_
        refine g_iload_n C dX9_readThing_56 (p := 3) (hi := rfl) (hv := rfl) ?_
        refine g_iadd C dX9_readThing_57 ?_
        refine g_aload_n C dX9_readThing_58 (p := 1) (hi := rfl) (hv := rfl) ?_
        refine gm_g_fault C dX9_readThing_59 wf_X9_102 ?_
        refine g_if_ne C (tgt := 69) dX9_readThing_62 (by decide) (by omega) (fun h_4 => ?_) (fun h_4 => ?_)
        · refine g_iconst C dX9_readThing_69 ?_
          refine gm_s_fresh C dX9_readThing_70 (by omega) (by omega) ?_
          refine g_iinc C hn dX9_readThing_71 (p := 3) rfl rfl rfl ?_
          refine g_goto C (tgt := 33) dX9_readThing_74 (by decide) ?_
          refine g_sub [2, 3, 0] rfl ?_
          exact ihi (by omega) _ _ _ (by rfl) (by omega) (by simp only [rtL]; (repeat' split) <;> first | (exfalso; omega) | rfl)
        · refine g_iload_n C dX9_readThing_65 (p := 0) (hi := rfl) (hv := rfl) ?_
          refine g_goto C (tgt := 70) dX9_readThing_66 (by decide) ?_
          refine gm_s_fresh C dX9_readThing_70 (by omega) (by omega) ?_
          refine g_iinc C hn dX9_readThing_71 (p := 3) rfl rfl rfl ?_
          refine g_goto C (tgt := 33) dX9_readThing_74 (by decide) ?_
          refine g_sub [2, 3, 0] rfl ?_
          exact ihi (by omega) _ _ _ (by rfl) (by omega) (by simp only [rtL]; (repeat' split) <;> first | (exfalso; omega) | rfl)
    refine g_sub [2, 1, 0] rfl ?_
    exact L33 0 (Nat.zero_le _) _ _ _ (by unfold rtA; (repeat' split) <;> first | (exfalso; omega) | rfl) (by rfl) (by rfl)
  · refine (g_bipush C dX9_readThing_13 (by decide)) ?_
    refine (g_bipush C dX9_readThing_15 (by decide)) ?_
    refine g_aload_n C dX9_readThing_17 (p := 0) (hi := rfl) (hv := rfl) ?_
    refine gm_g_fresh C dX9_readThing_18 wf_X9_22 ?_
    refine g_iconst C dX9_readThing_21 ?_
    refine gm_l_fresh C dX9_readThing_22 (by omega) (by omega) ?_
    refine g_imul C dX9_readThing_23 ?_
    refine g_iadd C dX9_readThing_24 ?_
    refine g_goto C (tgt := 30) dX9_readThing_25 (by decide) ?_
    refine g_istore_n C hn dX9_readThing_30 rfl rfl rfl ?_
    refine g_iconst C dX9_readThing_31 ?_
    refine g_istore_n C hn dX9_readThing_32 rfl rfl rfl ?_
    have L33 : ∀ i : Nat, i ≤ ((σ 5 2).toNat) → ∀ (x1 x2 : Int), ∀ (τ33 : Mem), x1 = (rtA σ) → x2 = (i : Int) → τ33 = (rtL (begM σ 3 5) (rtA σ) i) → G M ad 12 (cfM ad K) 33 [(0, .ref (ad 0)), (1, .int (iI x1)), (2, .int (iI x2))] [] τ33 := by
      refine loopUp ((σ 5 2).toNat) ?_
      rintro i hi ihi x1 x2 τ33 rfl rfl rfl
      have hLi := hL i
      have hLc := rtL_c (s := begM σ 3 5) (q := 5) (j := 2) hA.1 (by decide) (fun _ => by decide) i
      have hNf := (numM_PW (lo := 0) (hi := 60) hLi).2.2.2.1
      refine g_iload_n C dX9_readThing_33 (p := 2) (hi := rfl) (hv := rfl) ?_
      refine g_aload_n C dX9_readThing_34 (p := 0) (hi := rfl) (hv := rfl) ?_
      refine gm_g_fresh C dX9_readThing_35 wf_X9_22 ?_
      refine g_iconst C dX9_readThing_38 ?_
      refine gm_l_fresh C dX9_readThing_39 (by omega) (by omega) ?_
      refine g_icmp_ge C (tgt := 77) dX9_readThing_40 (by decide) (by omega) (by omega) (fun h_5 => ?_) (fun h_5 => ?_)
      · have hiN : i = ((σ 5 2).toNat) := by omega
        refine g_aload_n C dX9_readThing_77 (p := 0) (hi := rfl) (hv := rfl) ?_
        refine gm_callv C dX9_readThing_78 (kX9_mustEnd (σ := (rtL (begM σ 3 5) (rtA σ) i)) hap hE (by exact hLi)) mw_X9_mustEnd wl_X9_145 (by decide) (by decide) rfl rfl (by simp [Value.category]) ?_
        refine g_eq (σ' := (rtY σ)) rfl rfl rfl (by try subst hiN; rfl) ?_
        refine g_aload_n C dX9_readThing_81 (p := 0) (hi := rfl) (hv := rfl) ?_
        refine gm_g_fault C dX9_readThing_82 wf_X9_102 ?_
        refine g_if_ne C (tgt := 117) dX9_readThing_85 (by decide) (by omega) (fun h_6 => ?_) (fun h_6 => ?_)
        · exact hret _ _ _ dX9_readThing_117 (by (try subst hiN); unfold rtM; (repeat' split) <;> first | (exfalso; omega) | rfl)
        · refine g_aload_n C dX9_readThing_88 (p := 0) (hi := rfl) (hv := rfl) ?_
          refine gm_g_fresh C dX9_readThing_89 wf_X9_22 ?_
          refine g_iload_n C dX9_readThing_92 (p := 1) (hi := rfl) (hv := rfl) ?_
          refine g_iconst C dX9_readThing_93 ?_
          refine g_iadd C dX9_readThing_94 ?_
          refine g_ldc C (n := (-1000000)) wk_X9_80 (by decide +kernel) dX9_readThing_95 ?_
          refine gm_s_fresh C dX9_readThing_97 (by omega) (by omega) ?_
          refine g_aload_n C dX9_readThing_98 (p := 0) (hi := rfl) (hv := rfl) ?_
          refine gm_g_fresh C dX9_readThing_99 wf_X9_22 ?_
          refine g_iload_n C dX9_readThing_102 (p := 1) (hi := rfl) (hv := rfl) ?_
          refine g_iconst C dX9_readThing_103 ?_
          refine g_iadd C dX9_readThing_104 ?_
          refine g_iconst C dX9_readThing_105 ?_
          refine gm_s_fresh C dX9_readThing_106 (by omega) (by omega) ?_
          refine g_aload_n C dX9_readThing_107 (p := 0) (hi := rfl) (hv := rfl) ?_
          refine gm_g_fresh C dX9_readThing_108 wf_X9_22 ?_
          refine g_iconst C dX9_readThing_111 ?_
          refine g_dup2 C dX9_readThing_112 rfl rfl ?_
          refine gm_l_fresh C dX9_readThing_113 (by omega) (by omega) ?_
          refine g_cI (b := ((ru (ru ((rtY σ) 5) ((rtA σ) + 4) (-1000000)) ((rtA σ) + 5) 0) 3)) (by first | rfl | (rw [mr_app, if_pos rfl]; exact over_out (by omega)) | simp [mu_app, mr_app]) ?_
          refine g_iconst C dX9_readThing_114 ?_
          refine g_iadd C dX9_readThing_115 ?_
          refine gm_s_fresh C dX9_readThing_116 (by omega) (by omega) ?_
          exact hret _ _ _ dX9_readThing_117 (by (try subst hiN); unfold rtM; (repeat' split) <;> first | (exfalso; omega) | rfl)
      · refine g_aload_n C dX9_readThing_43 (p := 0) (hi := rfl) (hv := rfl) ?_
        refine g_iconst C dX9_readThing_44 ?_
        refine (g_bipush C dX9_readThing_45 (by decide)) ?_
        refine gm_call C dX9_readThing_47 (kX9_number (σ := (rtL (begM σ 3 5) (rtA σ) i)) (lo := 0) (hi := 60) hap hE (by exact hLi) (by first | assumption | omega | exact hPW) (by first | assumption | omega | exact hPW)) mw_X9_number wl_X9_148 (by decide) (by decide) rfl rfl (by simp [Value.category]) ?_
        refine g_istore_n C hn dX9_readThing_50 rfl rfl rfl ?_
        refine g_aload_n C dX9_readThing_51 (p := 1) (hi := rfl) (hv := rfl) ?_
        refine gm_g_fresh C dX9_readThing_52 wf_X9_22 ?_
        refine g_iload_n C dX9_readThing_55 (p := 2) (hi := rfl) (hv := rfl) ?_
        refine g_iload_n C dX9_readThing_56 (p := 3) (hi := rfl) (hv := rfl) ?_
        refine g_iadd C dX9_readThing_57 ?_
        refine g_aload_n C dX9_readThing_58 (p := 1) (hi := rfl) (hv := rfl) ?_
        refine gm_g_fault C dX9_readThing_59 wf_X9_102 ?_
        refine g_if_ne C (tgt := 69) dX9_readThing_62 (by decide) (by omega) (fun h_7 => ?_) (fun h_7 => ?_)
        · refine g_iconst C dX9_readThing_69 ?_
          refine gm_s_fresh C dX9_readThing_70 (by omega) (by omega) ?_
          refine g_iinc C hn dX9_readThing_71 (p := 3) rfl rfl rfl ?_
          refine g_goto C (tgt := 33) dX9_readThing_74 (by decide) ?_
          refine g_sub [2, 3, 0] rfl ?_
          exact ihi (by omega) _ _ _ (by rfl) (by omega) (by simp only [rtL]; (repeat' split) <;> first | (exfalso; omega) | rfl)
        · refine g_iload_n C dX9_readThing_65 (p := 0) (hi := rfl) (hv := rfl) ?_
          refine g_goto C (tgt := 70) dX9_readThing_66 (by decide) ?_
          refine gm_s_fresh C dX9_readThing_70 (by omega) (by omega) ?_
          refine g_iinc C hn dX9_readThing_71 (p := 3) rfl rfl rfl ?_
          refine g_goto C (tgt := 33) dX9_readThing_74 (by decide) ?_
          refine g_sub [2, 3, 0] rfl ?_
          exact ihi (by omega) _ _ _ (by rfl) (by omega) (by simp only [rtL]; (repeat' split) <;> first | (exfalso; omega) | rfl)
    refine g_sub [2, 1, 0] rfl ?_
    exact L33 0 (Nat.zero_le _) _ _ _ (by unfold rtA; (repeat' split) <;> first | (exfalso; omega) | rfl) (by rfl) (by rfl)
set_option maxHeartbeats 4000000 in
set_option maxRecDepth 100000 in
theorem kX9_town {l : Launch} {K : Nat → ClassId} {D : va_G} {ad : Int → Nat} {E : gEnv} {σ : Mem} (hap : Apart ad 12) (hE : gEok E) (hb7 : ∀ k : Int, 0 ≤ σ 7 k ∧ σ 7 k ≤ 255) (hta : 0 ≤ σ 0 10 ∧ σ 0 10 ≤ 400) (hfr : (0 ≤ σ 5 2 ∧ σ 5 2 ≤ 4) ∧ (0 ≤ σ 5 3 ∧ σ 5 3 ≤ 5)) : CtI l K D ad 12 (cfM ad K) E yX9_town cX9_town 2 (some .int) 5 [.ref (ad 0)] σ (twR σ) (twM σ) := by
  have p1 : PW (tw1 σ) := tw1_PW hb7 hta
  have p2 : PW (tw2 σ) := mustM_PW p1
  have p3 : PW (tw3 σ) := PW_mu5s (numM_PW p2) (Or.inl rfl)
  have p4 : PW (tw4 σ) := PW_mu5s (numM_PW p3) (Or.inr rfl)
  have p5 : PW (tw5 σ) := endM_PW p4
  have p6 : PW (tw6 σ) := by unfold tw6; split <;> first | exact p5 | exact badM_PW p5 (by omega)
  have q1 := namR_R (tw1 σ)
  have q5 := namR_R (tw5 σ)
  refine ctI_of hap hE (by decide) rfl .int (nar_i _) (fun M C hn hret => ?_)
  have C : Good l K D ad 12 E 5 cX9_town RX9 M := C
  show G M ad 12 (cfM ad K) 0 [(0, .ref (ad 0))] [] σ
  refine g_aload_n C dX9_town_0 (p := 0) (hi := rfl) (hv := rfl) ?_
  refine g_iconst C dX9_town_1 ?_
  refine gm_p_thrown C dX9_town_2 wf_X9_44 ?_
  refine g_aload_n C dX9_town_5 (p := 0) (hi := rfl) (hv := rfl) ?_
  refine gm_callv C dX9_town_6 (kX9_begin (σ := (mu σ 0 0 0)) hap hE (by show ∀ k : Int, 0 ≤ (σ 7) k ∧ (σ 7) k ≤ 255; exact hb7) (by show 0 ≤ σ 0 10 ∧ σ 0 10 ≤ 400; exact hta)) mw_X9_begin wl_X9_152 (by decide) (by decide) rfl rfl (by simp [Value.category]) ?_
  refine g_iconst C dX9_town_9 ?_
  refine g_istore_n C hn dX9_town_10 rfl rfl rfl ?_
  have L11 : ∀ i : Nat, i ≤ 42 → ∀ (x1 : Int), ∀ (τ11 : Mem), x1 = (i : Int) → τ11 = (mr (bgnM (mu σ 0 0 0)) 5 (over ((bgnM (mu σ 0 0 0)) 5) (fun _ => 0) 0 (i : Int))) → G M ad 12 (cfM ad K) 11 [(0, .ref (ad 0)), (1, .int (iI x1))] [] τ11 := by
    refine loopUp 42 ?_
    rintro i hi ihi x1 τ11 rfl rfl
    refine g_iload_n C dX9_town_11 (p := 1) (hi := rfl) (hv := rfl) ?_
    refine (g_bipush C dX9_town_12 (by decide)) ?_
    refine g_icmp_ge C (tgt := 30) dX9_town_14 (by decide) (by omega) (by omega) (fun h_1 => ?_) (fun h_1 => ?_)
    · have hiN : i = 42 := by omega
      refine g_eq (σ' := (tw1 σ)) rfl rfl rfl (by subst hiN; rfl) ?_
      refine g_aload_n C dX9_town_30 (p := 0) (hi := rfl) (hv := rfl) ?_
      refine g_aload_n C dX9_town_31 (p := 0) (hi := rfl) (hv := rfl) ?_
      refine gm_calll C dX9_town_32 (kX9_name (σ := (tw1 σ)) hap hE (by first | exact p1 | exact p5 | exact hwp | exact hwt)) mw_X9_name wl_X9_137 (by decide) (by decide) rfl rfl (by simp [Value.category]) ?_
      refine g_ldc2 C (n := 7102839) wk_X9_155 (by decide +kernel) dX9_town_35 ?_
      refine g_lcmp C (by first | exact namR_R _ | omega) (by first | exact namR_R _ | omega) dX9_town_38 ?_
      refine g_if_ne C (tgt := 46) dX9_town_39 (by decide) (oCmp_R _ _) (fun h_2 => ?_) (fun h_2 => ?_)
      · replace h_2 := oCmp_ne.mp h_2
        refine g_iconst C dX9_town_46 ?_
        refine gm_callv C dX9_town_47 (kX9_must (σ := (tw1 σ)) (so := 0) hap hE (by exact p1) (by first | assumption | omega | exact hb7 | exact hta | exact hfr)) mw_X9_must wl_X9_119 (by decide) (by decide) rfl rfl (by simp [Value.category]) ?_
        refine g_eq (σ' := (tw2 σ)) rfl rfl rfl (by unfold tw2; first | rw [if_pos (by assumption)] | rw [if_neg (by assumption)]) ?_
        refine g_aload_n C dX9_town_50 (p := 0) (hi := rfl) (hv := rfl) ?_
        refine gm_g_fresh C dX9_town_51 wf_X9_22 ?_
        refine g_iconst C dX9_town_54 ?_
        refine g_aload_n C dX9_town_55 (p := 0) (hi := rfl) (hv := rfl) ?_
        refine g_iconst C dX9_town_56 ?_
        refine g_iconst C dX9_town_57 ?_
        refine gm_call C dX9_town_58 (kX9_number (σ := (tw2 σ)) (lo := 0) (hi := 3) hap hE (by first | exact p2 | exact p3) (by first | assumption | omega | exact hb7 | exact hta | exact hfr) (by first | assumption | omega | exact hb7 | exact hta | exact hfr)) mw_X9_number wl_X9_148 (by decide) (by decide) rfl rfl (by simp [Value.category]) ?_
        refine gm_s_fresh C dX9_town_61 (by omega) (by omega) ?_
        refine g_aload_n C dX9_town_62 (p := 0) (hi := rfl) (hv := rfl) ?_
        refine gm_g_fresh C dX9_town_63 wf_X9_22 ?_
        refine g_iconst C dX9_town_66 ?_
        refine g_aload_n C dX9_town_67 (p := 0) (hi := rfl) (hv := rfl) ?_
        refine g_iconst C dX9_town_68 ?_
        refine (g_bipush C dX9_town_69 (by decide)) ?_
        refine gm_call C dX9_town_71 (kX9_number (σ := (mu (numM (tw2 σ) 0 3) 5 0 (numR (tw2 σ)))) (lo := 0) (hi := 20) hap hE (by show PW (mu (numM (tw2 σ) 0 3) 5 0 (numR (tw2 σ))); first | exact p2 | exact p3) (by first | assumption | omega | exact hb7 | exact hta | exact hfr) (by first | assumption | omega | exact hb7 | exact hta | exact hfr)) mw_X9_number wl_X9_148 (by decide) (by decide) rfl rfl (by simp [Value.category]) ?_
        refine gm_s_fresh C dX9_town_74 (by omega) (by omega) ?_
        refine g_aload_n C dX9_town_75 (p := 0) (hi := rfl) (hv := rfl) ?_
        refine gm_callv C dX9_town_76 (kX9_mustEnd (σ := (mu (numM (mu (numM (tw2 σ) 0 3) 5 0 (numR (tw2 σ))) 0 20) 5 1 (numR (mu (numM (tw2 σ) 0 3) 5 0 (numR (tw2 σ)))))) hap hE (by show PW (mu (numM (mu (numM (tw2 σ) 0 3) 5 0 (numR (tw2 σ))) 0 20) 5 1 (numR (mu (numM (tw2 σ) 0 3) 5 0 (numR (tw2 σ))))); exact p4)) mw_X9_mustEnd wl_X9_145 (by decide) (by decide) rfl rfl (by simp [Value.category]) ?_
        refine g_eq (σ' := (tw5 σ)) rfl rfl rfl (by rfl) ?_
        refine g_aload_n C dX9_town_79 (p := 0) (hi := rfl) (hv := rfl) ?_
        refine gm_calll C dX9_town_80 (kX9_name (σ := (tw5 σ)) hap hE (by first | exact p1 | exact p5 | exact hwp | exact hwt)) mw_X9_name wl_X9_137 (by decide) (by decide) rfl rfl (by simp [Value.category]) ?_
        refine g_ldc2 C (n := 123581014175598) wk_X9_157 (by decide +kernel) dX9_town_83 ?_
        refine g_lcmp C (by first | exact namR_R _ | omega) (by first | exact namR_R _ | omega) dX9_town_86 ?_
        refine g_if_eq C (tgt := 95) dX9_town_87 (by decide) (oCmp_R _ _) (fun h_3 => ?_) (fun h_3 => ?_)
        · replace h_3 := oCmp_eq.mp h_3
          have L95 : ∀ (m : Nat) (τp : Mem) (kp : Nat), (PW τp) → (muP τp ≤ kp) → (itM rpM 123581014175598 kp τp = tw7 σ) → muP τp < m → G M ad 12 (cfM ad K) 95 [(0, .ref (ad 0))] [] τp := by
            intro m; induction m with
            | zero => intros; omega
            | succ m ihm =>
              intro τp kp hwp hkp hep hmeas
              have hRp := namR_R τp
              have hdecp := @muP_dec τp hwp
              refine g_aload_n C dX9_town_95 (p := 0) (hi := rfl) (hv := rfl) ?_
              refine gm_calll C dX9_town_96 (kX9_name (σ := τp) hap hE (by first | exact p1 | exact p5 | exact hwp | exact hwt)) mw_X9_name wl_X9_137 (by decide) (by decide) rfl rfl (by simp [Value.category]) ?_
              refine g_ldc2 C (n := 123581014175598) wk_X9_157 (by decide +kernel) dX9_town_99 ?_
              refine g_lcmp C (by first | exact namR_R _ | omega) (by first | exact namR_R _ | omega) dX9_town_102 ?_
              refine g_if_ne C (tgt := 113) dX9_town_103 (by decide) (oCmp_R _ _) (fun h_4 => ?_) (fun h_4 => ?_)
              · replace h_4 := oCmp_ne.mp h_4
                have hqp : τp = tw7 σ := by rw [← hep, itM_stop (by assumption)]
                have L113 : ∀ (m : Nat) (τt : Mem) (kt : Nat), (PW τt) → (muT τt ≤ kt) → (itM rtM 499967946343 kt τt = tw8 σ) → muT τt < m → G M ad 12 (cfM ad K) 113 [(0, .ref (ad 0))] [] τt := by
                  intro m; induction m with
                  | zero => intros; omega
                  | succ m ihm =>
                    intro τt kt hwt hkt het hmeas
                    have hRt := namR_R τt
                    have hdect := @muT_dec τt hwt
                    refine g_aload_n C dX9_town_113 (p := 0) (hi := rfl) (hv := rfl) ?_
                    refine gm_calll C dX9_town_114 (kX9_name (σ := τt) hap hE (by first | exact p1 | exact p5 | exact hwp | exact hwt)) mw_X9_name wl_X9_137 (by decide) (by decide) rfl rfl (by simp [Value.category]) ?_
                    refine g_ldc2 C (n := 499967946343) wk_X9_162 (by decide +kernel) dX9_town_117 ?_
                    refine g_lcmp C (by first | exact namR_R _ | omega) (by first | exact namR_R _ | omega) dX9_town_120 ?_
                    refine g_if_ne C (tgt := 131) dX9_town_121 (by decide) (oCmp_R _ _) (fun h_5 => ?_) (fun h_5 => ?_)
                    · replace h_5 := oCmp_ne.mp h_5
                      have hqt : τt = tw8 σ := by rw [← het, itM_stop (by assumption)]
                      refine g_aload_n C dX9_town_131 (p := 0) (hi := rfl) (hv := rfl) ?_
                      refine gm_g_fault C dX9_town_132 wf_X9_102 ?_
                      refine g_if_ne C (tgt := 151) dX9_town_135 (by decide) (by have hbb := hwt.2.2.2.1; omega) (fun h_6 => ?_) (fun h_6 => ?_)
                      · refine g_aload_n C dX9_town_151 (p := 0) (hi := rfl) (hv := rfl) ?_
                        refine gm_g_fault C dX9_town_152 wf_X9_102 ?_
                        refine g_if_le C (tgt := 174) dX9_town_155 (by decide) (by have hbb := hwt.2.2.2.1; omega) (fun h_7 => ?_) (fun h_7 => ?_)
                        · refine g_aload_n C dX9_town_174 (p := 0) (hi := rfl) (hv := rfl) ?_
                          refine g_iconst C dX9_town_175 ?_
                          refine gm_p_acts C dX9_town_176 wf_X9_171 ?_
                          refine g_iconst C dX9_town_179 ?_
                          refine g_istore_n C hn dX9_town_180 rfl rfl rfl ?_
                          have L181 : ∀ j : Nat, j ≤ 42 → ∀ (x1 : Int), ∀ (τ181 : Mem), x1 = (j : Int) → τ181 = (mr (mu τt 0 8 0) 4 (over (τt 4) (fun k => (τt 5) k) 0 (j : Int))) → G M ad 12 (cfM ad K) 181 [(0, .ref (ad 0)), (1, .int (iI x1))] [] τ181 := by
                            refine loopUp 42 ?_
                            rintro j hj ihj x1 τ181 rfl rfl
                            refine g_iload_n C dX9_town_181 (p := 1) (hi := rfl) (hv := rfl) ?_
                            refine (g_bipush C dX9_town_182 (by decide)) ?_
                            refine g_icmp_ge C (tgt := 205) dX9_town_184 (by decide) (by omega) (by omega) (fun h_8 => ?_) (fun h_8 => ?_)
                            · have hjN : j = 42 := by omega
                              refine g_aload_n C dX9_town_205 (p := 0) (hi := rfl) (hv := rfl) ?_
                              refine gm_g_town C dX9_town_206 wf_X9_19 ?_
                              refine g_iconst C dX9_town_209 ?_
                              refine gm_l_town C dX9_town_210 (by omega) (by omega) ?_
                              refine g_cI (b := ((over (τt 4) (fun k => (τt 5) k) 0 (j : Int)) 2)) (by first | rfl | (rw [mr_app, if_pos rfl]; exact over_out (by omega)) | simp [mu_app, mr_app]) ?_
                              exact hret _ _ _ _ dX9_town_211 (by (try subst hiN); (try subst hjN); subst hqt; unfold twR tw9; (repeat' split) <;> first | (exfalso; omega) | rfl) (by (try subst hiN); (try subst hjN); (try subst hjN); subst hqt; unfold twM tw9; (repeat' split) <;> first | (exfalso; omega) | rfl)
                            · refine g_aload_n C dX9_town_187 (p := 0) (hi := rfl) (hv := rfl) ?_
                              refine gm_g_town C dX9_town_188 wf_X9_19 ?_
                              refine g_iload_n C dX9_town_191 (p := 1) (hi := rfl) (hv := rfl) ?_
                              refine g_aload_n C dX9_town_192 (p := 0) (hi := rfl) (hv := rfl) ?_
                              refine gm_g_fresh C dX9_town_193 wf_X9_22 ?_
                              refine g_iload_n C dX9_town_196 (p := 1) (hi := rfl) (hv := rfl) ?_
                              refine gm_l_fresh C dX9_town_197 (by omega) (by omega) ?_
                              refine g_cI (b := (τt 5 (j : Int))) (by first | rfl | (rw [mr_app, if_pos rfl]; exact over_out (by omega)) | simp [mu_app, mr_app]) ?_
                              refine gm_s_town C dX9_town_198 (by omega) (by omega) ?_
                              refine g_iinc C hn dX9_town_199 (p := 1) rfl rfl rfl ?_
                              refine g_goto C (tgt := 181) dX9_town_202 (by decide) ?_
                              refine g_sub [1, 0] rfl ?_
                              exact ihj (by omega) _ _ (by first | rfl | omega) (by exact over_step (by omega) (by omega) rfl)
                          refine g_sub [1, 0] rfl ?_
                          exact L181 0 (Nat.zero_le _) _ _ (by first | rfl | omega | simp) (by exact over_init (by omega))
                        · refine g_aload_n C dX9_town_158 (p := 0) (hi := rfl) (hv := rfl) ?_
                          refine g_aload_n C dX9_town_159 (p := 0) (hi := rfl) (hv := rfl) ?_
                          refine gm_g_fault C dX9_town_160 wf_X9_102 ?_
                          refine gm_p_latest C dX9_town_163 wf_X9_167 ?_
                          refine g_ldc C (n := (-1000100)) wk_X9_170 (by decide +kernel) dX9_town_166 ?_
                          refine g_aload_n C dX9_town_168 (p := 0) (hi := rfl) (hv := rfl) ?_
                          refine gm_g_faultAt C dX9_town_169 wf_X9_108 ?_
                          refine g_cI (b := (τt 0 18)) (by first | rfl | (rw [mr_app, if_pos rfl]; exact over_out (by omega)) | simp [mu_app, mr_app]) ?_
                          refine g_isub C dX9_town_172 ?_
                          exact hret _ _ _ _ dX9_town_173 (by (try subst hiN); (try subst hjN); subst hqt; unfold twR tw9; (repeat' split) <;> first | (exfalso; omega) | rfl) (by (try subst hiN); (try subst hjN); (try subst hjN); subst hqt; unfold twM tw9; (repeat' split) <;> first | (exfalso; omega) | rfl)
                      · refine g_aload_n C dX9_town_138 (p := 0) (hi := rfl) (hv := rfl) ?_
                        refine gm_g_token C dX9_town_139 wf_X9_90 ?_
                        refine g_iconst C dX9_town_142 ?_
                        refine g_icmp_eq C (tgt := 151) dX9_town_143 (by decide) (by have hbb := hwt.2.2.1; omega) (by omega) (fun h_9 => ?_) (fun h_9 => ?_)
                        · refine g_aload_n C dX9_town_151 (p := 0) (hi := rfl) (hv := rfl) ?_
                          refine gm_g_fault C dX9_town_152 wf_X9_102 ?_
                          refine g_if_le C (tgt := 174) dX9_town_155 (by decide) (by have hbb := hwt.2.2.2.1; omega) (fun h_10 => ?_) (fun h_10 => ?_)
                          · refine g_aload_n C dX9_town_174 (p := 0) (hi := rfl) (hv := rfl) ?_
                            refine g_iconst C dX9_town_175 ?_
                            refine gm_p_acts C dX9_town_176 wf_X9_171 ?_
                            refine g_iconst C dX9_town_179 ?_
                            refine g_istore_n C hn dX9_town_180 rfl rfl rfl ?_
                            have L181 : ∀ j : Nat, j ≤ 42 → ∀ (x1 : Int), ∀ (τ181 : Mem), x1 = (j : Int) → τ181 = (mr (mu τt 0 8 0) 4 (over (τt 4) (fun k => (τt 5) k) 0 (j : Int))) → G M ad 12 (cfM ad K) 181 [(0, .ref (ad 0)), (1, .int (iI x1))] [] τ181 := by
                              refine loopUp 42 ?_
                              rintro j hj ihj x1 τ181 rfl rfl
                              refine g_iload_n C dX9_town_181 (p := 1) (hi := rfl) (hv := rfl) ?_
                              refine (g_bipush C dX9_town_182 (by decide)) ?_
                              refine g_icmp_ge C (tgt := 205) dX9_town_184 (by decide) (by omega) (by omega) (fun h_11 => ?_) (fun h_11 => ?_)
                              · have hjN : j = 42 := by omega
                                refine g_aload_n C dX9_town_205 (p := 0) (hi := rfl) (hv := rfl) ?_
                                refine gm_g_town C dX9_town_206 wf_X9_19 ?_
                                refine g_iconst C dX9_town_209 ?_
                                refine gm_l_town C dX9_town_210 (by omega) (by omega) ?_
                                refine g_cI (b := ((over (τt 4) (fun k => (τt 5) k) 0 (j : Int)) 2)) (by first | rfl | (rw [mr_app, if_pos rfl]; exact over_out (by omega)) | simp [mu_app, mr_app]) ?_
                                exact hret _ _ _ _ dX9_town_211 (by (try subst hiN); (try subst hjN); subst hqt; unfold twR tw9; (repeat' split) <;> first | (exfalso; omega) | rfl) (by (try subst hiN); (try subst hjN); (try subst hjN); subst hqt; unfold twM tw9; (repeat' split) <;> first | (exfalso; omega) | rfl)
                              · refine g_aload_n C dX9_town_187 (p := 0) (hi := rfl) (hv := rfl) ?_
                                refine gm_g_town C dX9_town_188 wf_X9_19 ?_
                                refine g_iload_n C dX9_town_191 (p := 1) (hi := rfl) (hv := rfl) ?_
                                refine g_aload_n C dX9_town_192 (p := 0) (hi := rfl) (hv := rfl) ?_
                                refine gm_g_fresh C dX9_town_193 wf_X9_22 ?_
                                refine g_iload_n C dX9_town_196 (p := 1) (hi := rfl) (hv := rfl) ?_
                                refine gm_l_fresh C dX9_town_197 (by omega) (by omega) ?_
                                refine g_cI (b := (τt 5 (j : Int))) (by first | rfl | (rw [mr_app, if_pos rfl]; exact over_out (by omega)) | simp [mu_app, mr_app]) ?_
                                refine gm_s_town C dX9_town_198 (by omega) (by omega) ?_
                                refine g_iinc C hn dX9_town_199 (p := 1) rfl rfl rfl ?_
                                refine g_goto C (tgt := 181) dX9_town_202 (by decide) ?_
                                refine g_sub [1, 0] rfl ?_
                                exact ihj (by omega) _ _ (by first | rfl | omega) (by exact over_step (by omega) (by omega) rfl)
                            refine g_sub [1, 0] rfl ?_
                            exact L181 0 (Nat.zero_le _) _ _ (by first | rfl | omega | simp) (by exact over_init (by omega))
                          · refine g_aload_n C dX9_town_158 (p := 0) (hi := rfl) (hv := rfl) ?_
                            refine g_aload_n C dX9_town_159 (p := 0) (hi := rfl) (hv := rfl) ?_
                            refine gm_g_fault C dX9_town_160 wf_X9_102 ?_
                            refine gm_p_latest C dX9_town_163 wf_X9_167 ?_
                            refine g_ldc C (n := (-1000100)) wk_X9_170 (by decide +kernel) dX9_town_166 ?_
                            refine g_aload_n C dX9_town_168 (p := 0) (hi := rfl) (hv := rfl) ?_
                            refine gm_g_faultAt C dX9_town_169 wf_X9_108 ?_
                            refine g_cI (b := (τt 0 18)) (by first | rfl | (rw [mr_app, if_pos rfl]; exact over_out (by omega)) | simp [mu_app, mr_app]) ?_
                            refine g_isub C dX9_town_172 ?_
                            exact hret _ _ _ _ dX9_town_173 (by (try subst hiN); (try subst hjN); subst hqt; unfold twR tw9; (repeat' split) <;> first | (exfalso; omega) | rfl) (by (try subst hiN); (try subst hjN); (try subst hjN); subst hqt; unfold twM tw9; (repeat' split) <;> first | (exfalso; omega) | rfl)
                        · refine g_aload_n C dX9_town_146 (p := 0) (hi := rfl) (hv := rfl) ?_
                          refine g_iconst C dX9_town_147 ?_
                          refine gm_callv C dX9_town_148 (kX9_bad (σ := τt) (k := 1) hap hE (by first | exact p5 | exact hwt)) mw_X9_bad wl_X9_111 (by decide) (by decide) rfl rfl (by simp [Value.category]) ?_
                          refine g_aload_n C dX9_town_151 (p := 0) (hi := rfl) (hv := rfl) ?_
                          refine gm_g_fault C dX9_town_152 wf_X9_102 ?_
                          refine g_if_le C (tgt := 174) dX9_town_155 (by decide) (by have hbb := (badM_PW hwt (k := 1) (by omega)).2.2.2.1; omega) (fun h_12 => ?_) (fun h_12 => ?_)
                          · refine g_aload_n C dX9_town_174 (p := 0) (hi := rfl) (hv := rfl) ?_
                            refine g_iconst C dX9_town_175 ?_
                            refine gm_p_acts C dX9_town_176 wf_X9_171 ?_
                            refine g_iconst C dX9_town_179 ?_
                            refine g_istore_n C hn dX9_town_180 rfl rfl rfl ?_
                            have L181 : ∀ j : Nat, j ≤ 42 → ∀ (x1 : Int), ∀ (τ181 : Mem), x1 = (j : Int) → τ181 = (mr (mu (badM τt 1) 0 8 0) 4 (over ((badM τt 1) 4) (fun k => ((badM τt 1) 5) k) 0 (j : Int))) → G M ad 12 (cfM ad K) 181 [(0, .ref (ad 0)), (1, .int (iI x1))] [] τ181 := by
                              refine loopUp 42 ?_
                              rintro j hj ihj x1 τ181 rfl rfl
                              refine g_iload_n C dX9_town_181 (p := 1) (hi := rfl) (hv := rfl) ?_
                              refine (g_bipush C dX9_town_182 (by decide)) ?_
                              refine g_icmp_ge C (tgt := 205) dX9_town_184 (by decide) (by omega) (by omega) (fun h_13 => ?_) (fun h_13 => ?_)
                              · have hjN : j = 42 := by omega
                                refine g_aload_n C dX9_town_205 (p := 0) (hi := rfl) (hv := rfl) ?_
                                refine gm_g_town C dX9_town_206 wf_X9_19 ?_
                                refine g_iconst C dX9_town_209 ?_
                                refine gm_l_town C dX9_town_210 (by omega) (by omega) ?_
                                refine g_cI (b := ((over ((badM τt 1) 4) (fun k => ((badM τt 1) 5) k) 0 (j : Int)) 2)) (by first | rfl | (rw [mr_app, if_pos rfl]; exact over_out (by omega)) | simp [mu_app, mr_app]) ?_
                                exact hret _ _ _ _ dX9_town_211 (by (try subst hiN); (try subst hjN); subst hqt; unfold twR tw9; (repeat' split) <;> first | (exfalso; omega) | rfl) (by (try subst hiN); (try subst hjN); (try subst hjN); subst hqt; unfold twM tw9; (repeat' split) <;> first | (exfalso; omega) | rfl)
                              · refine g_aload_n C dX9_town_187 (p := 0) (hi := rfl) (hv := rfl) ?_
                                refine gm_g_town C dX9_town_188 wf_X9_19 ?_
                                refine g_iload_n C dX9_town_191 (p := 1) (hi := rfl) (hv := rfl) ?_
                                refine g_aload_n C dX9_town_192 (p := 0) (hi := rfl) (hv := rfl) ?_
                                refine gm_g_fresh C dX9_town_193 wf_X9_22 ?_
                                refine g_iload_n C dX9_town_196 (p := 1) (hi := rfl) (hv := rfl) ?_
                                refine gm_l_fresh C dX9_town_197 (by omega) (by omega) ?_
                                refine g_cI (b := ((badM τt 1) 5 (j : Int))) (by first | rfl | (rw [mr_app, if_pos rfl]; exact over_out (by omega)) | simp [mu_app, mr_app]) ?_
                                refine gm_s_town C dX9_town_198 (by omega) (by omega) ?_
                                refine g_iinc C hn dX9_town_199 (p := 1) rfl rfl rfl ?_
                                refine g_goto C (tgt := 181) dX9_town_202 (by decide) ?_
                                refine g_sub [1, 0] rfl ?_
                                exact ihj (by omega) _ _ (by first | rfl | omega) (by exact over_step (by omega) (by omega) rfl)
                            refine g_sub [1, 0] rfl ?_
                            exact L181 0 (Nat.zero_le _) _ _ (by first | rfl | omega | simp) (by exact over_init (by omega))
                          · refine g_aload_n C dX9_town_158 (p := 0) (hi := rfl) (hv := rfl) ?_
                            refine g_aload_n C dX9_town_159 (p := 0) (hi := rfl) (hv := rfl) ?_
                            refine gm_g_fault C dX9_town_160 wf_X9_102 ?_
                            refine gm_p_latest C dX9_town_163 wf_X9_167 ?_
                            refine g_ldc C (n := (-1000100)) wk_X9_170 (by decide +kernel) dX9_town_166 ?_
                            refine g_aload_n C dX9_town_168 (p := 0) (hi := rfl) (hv := rfl) ?_
                            refine gm_g_faultAt C dX9_town_169 wf_X9_108 ?_
                            refine g_cI (b := ((badM τt 1) 0 18)) (by first | rfl | (rw [mr_app, if_pos rfl]; exact over_out (by omega)) | simp [mu_app, mr_app]) ?_
                            refine g_isub C dX9_town_172 ?_
                            exact hret _ _ _ _ dX9_town_173 (by (try subst hiN); (try subst hjN); subst hqt; unfold twR tw9; (repeat' split) <;> first | (exfalso; omega) | rfl) (by (try subst hiN); (try subst hjN); (try subst hjN); subst hqt; unfold twM tw9; (repeat' split) <;> first | (exfalso; omega) | rfl)
                    · replace h_5 := oCmp_eq.mp h_5
                      refine g_aload_n C dX9_town_124 (p := 0) (hi := rfl) (hv := rfl) ?_
                      refine gm_callv C dX9_town_125 (kX9_readThing (σ := τt) hap hE (by exact hwt)) mw_X9_readThing wl_X9_164 (by decide) (by decide) rfl rfl (by simp [Value.category]) ?_
                      refine g_goto C (tgt := 113) dX9_town_128 (by decide) ?_
                      refine g_sub [0] rfl ?_
                      exact ihm (rtM τt) (kt - 1) (by exact rtM_PW hwt) (by have hd := hdect (by assumption); omega) (by exact (itM_go (step := rtM) (nm := 499967946343) (s := τt) (k := kt) (by assumption) (by have hd := hdect (by assumption); omega)).symm.trans het) (by have hd := hdect (by assumption); omega)
                refine g_sub [0] rfl ?_
                exact L113 _ τp 7 (by exact hwp) (by exact muT_7 hwp) (by rw [hqp]; rfl) (Nat.lt_succ_self _)
              · replace h_4 := oCmp_eq.mp h_4
                refine g_aload_n C dX9_town_106 (p := 0) (hi := rfl) (hv := rfl) ?_
                refine gm_callv C dX9_town_107 (kX9_readPerson (σ := τp) hap hE (by exact hwp)) mw_X9_readPerson wl_X9_159 (by decide) (by decide) rfl rfl (by simp [Value.category]) ?_
                refine g_goto C (tgt := 95) dX9_town_110 (by decide) ?_
                refine g_sub [0] rfl ?_
                exact ihm (rpM τp) (kp - 1) (by exact rpM_PW hwp) (by have hd := hdecp (by assumption); omega) (by exact (itM_go (step := rpM) (nm := 123581014175598) (s := τp) (k := kp) (by assumption) (by have hd := hdecp (by assumption); omega)).symm.trans hep) (by have hd := hdecp (by assumption); omega)
          refine g_sub [0] rfl ?_
          exact L95 _ (tw5 σ) 6 (by first | exact p5 | exact badM_PW p5 (by omega)) (by exact muP_6 (by first | exact p5 | exact badM_PW p5 (by omega))) (by unfold tw7 tw6; first | rw [if_pos (by assumption)] | rw [if_neg (by assumption)]) (Nat.lt_succ_self _)
        · replace h_3 := oCmp_ne.mp h_3
          refine g_aload_n C dX9_town_90 (p := 0) (hi := rfl) (hv := rfl) ?_
          refine g_iconst C dX9_town_91 ?_
          refine gm_callv C dX9_town_92 (kX9_bad (σ := (tw5 σ)) (k := 1) hap hE (by first | exact p5 | exact hwt)) mw_X9_bad wl_X9_111 (by decide) (by decide) rfl rfl (by simp [Value.category]) ?_
          have L95 : ∀ (m : Nat) (τp : Mem) (kp : Nat), (PW τp) → (muP τp ≤ kp) → (itM rpM 123581014175598 kp τp = tw7 σ) → muP τp < m → G M ad 12 (cfM ad K) 95 [(0, .ref (ad 0))] [] τp := by
            intro m; induction m with
            | zero => intros; omega
            | succ m ihm =>
              intro τp kp hwp hkp hep hmeas
              have hRp := namR_R τp
              have hdecp := @muP_dec τp hwp
              refine g_aload_n C dX9_town_95 (p := 0) (hi := rfl) (hv := rfl) ?_
              refine gm_calll C dX9_town_96 (kX9_name (σ := τp) hap hE (by first | exact p1 | exact p5 | exact hwp | exact hwt)) mw_X9_name wl_X9_137 (by decide) (by decide) rfl rfl (by simp [Value.category]) ?_
              refine g_ldc2 C (n := 123581014175598) wk_X9_157 (by decide +kernel) dX9_town_99 ?_
              refine g_lcmp C (by first | exact namR_R _ | omega) (by first | exact namR_R _ | omega) dX9_town_102 ?_
              refine g_if_ne C (tgt := 113) dX9_town_103 (by decide) (oCmp_R _ _) (fun h_14 => ?_) (fun h_14 => ?_)
              · replace h_14 := oCmp_ne.mp h_14
                have hqp : τp = tw7 σ := by rw [← hep, itM_stop (by assumption)]
                have L113 : ∀ (m : Nat) (τt : Mem) (kt : Nat), (PW τt) → (muT τt ≤ kt) → (itM rtM 499967946343 kt τt = tw8 σ) → muT τt < m → G M ad 12 (cfM ad K) 113 [(0, .ref (ad 0))] [] τt := by
                  intro m; induction m with
                  | zero => intros; omega
                  | succ m ihm =>
                    intro τt kt hwt hkt het hmeas
                    have hRt := namR_R τt
                    have hdect := @muT_dec τt hwt
                    refine g_aload_n C dX9_town_113 (p := 0) (hi := rfl) (hv := rfl) ?_
                    refine gm_calll C dX9_town_114 (kX9_name (σ := τt) hap hE (by first | exact p1 | exact p5 | exact hwp | exact hwt)) mw_X9_name wl_X9_137 (by decide) (by decide) rfl rfl (by simp [Value.category]) ?_
                    refine g_ldc2 C (n := 499967946343) wk_X9_162 (by decide +kernel) dX9_town_117 ?_
                    refine g_lcmp C (by first | exact namR_R _ | omega) (by first | exact namR_R _ | omega) dX9_town_120 ?_
                    refine g_if_ne C (tgt := 131) dX9_town_121 (by decide) (oCmp_R _ _) (fun h_15 => ?_) (fun h_15 => ?_)
                    · replace h_15 := oCmp_ne.mp h_15
                      have hqt : τt = tw8 σ := by rw [← het, itM_stop (by assumption)]
                      refine g_aload_n C dX9_town_131 (p := 0) (hi := rfl) (hv := rfl) ?_
                      refine gm_g_fault C dX9_town_132 wf_X9_102 ?_
                      refine g_if_ne C (tgt := 151) dX9_town_135 (by decide) (by have hbb := hwt.2.2.2.1; omega) (fun h_16 => ?_) (fun h_16 => ?_)
                      · refine g_aload_n C dX9_town_151 (p := 0) (hi := rfl) (hv := rfl) ?_
                        refine gm_g_fault C dX9_town_152 wf_X9_102 ?_
                        refine g_if_le C (tgt := 174) dX9_town_155 (by decide) (by have hbb := hwt.2.2.2.1; omega) (fun h_17 => ?_) (fun h_17 => ?_)
                        · refine g_aload_n C dX9_town_174 (p := 0) (hi := rfl) (hv := rfl) ?_
                          refine g_iconst C dX9_town_175 ?_
                          refine gm_p_acts C dX9_town_176 wf_X9_171 ?_
                          refine g_iconst C dX9_town_179 ?_
                          refine g_istore_n C hn dX9_town_180 rfl rfl rfl ?_
                          have L181 : ∀ j : Nat, j ≤ 42 → ∀ (x1 : Int), ∀ (τ181 : Mem), x1 = (j : Int) → τ181 = (mr (mu τt 0 8 0) 4 (over (τt 4) (fun k => (τt 5) k) 0 (j : Int))) → G M ad 12 (cfM ad K) 181 [(0, .ref (ad 0)), (1, .int (iI x1))] [] τ181 := by
                            refine loopUp 42 ?_
                            rintro j hj ihj x1 τ181 rfl rfl
                            refine g_iload_n C dX9_town_181 (p := 1) (hi := rfl) (hv := rfl) ?_
                            refine (g_bipush C dX9_town_182 (by decide)) ?_
                            refine g_icmp_ge C (tgt := 205) dX9_town_184 (by decide) (by omega) (by omega) (fun h_18 => ?_) (fun h_18 => ?_)
                            · have hjN : j = 42 := by omega
                              refine g_aload_n C dX9_town_205 (p := 0) (hi := rfl) (hv := rfl) ?_
                              refine gm_g_town C dX9_town_206 wf_X9_19 ?_
                              refine g_iconst C dX9_town_209 ?_
                              refine gm_l_town C dX9_town_210 (by omega) (by omega) ?_
                              refine g_cI (b := ((over (τt 4) (fun k => (τt 5) k) 0 (j : Int)) 2)) (by first | rfl | (rw [mr_app, if_pos rfl]; exact over_out (by omega)) | simp [mu_app, mr_app]) ?_
                              exact hret _ _ _ _ dX9_town_211 (by (try subst hiN); (try subst hjN); subst hqt; unfold twR tw9; (repeat' split) <;> first | (exfalso; omega) | rfl) (by (try subst hiN); (try subst hjN); (try subst hjN); subst hqt; unfold twM tw9; (repeat' split) <;> first | (exfalso; omega) | rfl)
                            · refine g_aload_n C dX9_town_187 (p := 0) (hi := rfl) (hv := rfl) ?_
                              refine gm_g_town C dX9_town_188 wf_X9_19 ?_
                              refine g_iload_n C dX9_town_191 (p := 1) (hi := rfl) (hv := rfl) ?_
                              refine g_aload_n C dX9_town_192 (p := 0) (hi := rfl) (hv := rfl) ?_
                              refine gm_g_fresh C dX9_town_193 wf_X9_22 ?_
                              refine g_iload_n C dX9_town_196 (p := 1) (hi := rfl) (hv := rfl) ?_
                              refine gm_l_fresh C dX9_town_197 (by omega) (by omega) ?_
                              refine g_cI (b := (τt 5 (j : Int))) (by first | rfl | (rw [mr_app, if_pos rfl]; exact over_out (by omega)) | simp [mu_app, mr_app]) ?_
                              refine gm_s_town C dX9_town_198 (by omega) (by omega) ?_
                              refine g_iinc C hn dX9_town_199 (p := 1) rfl rfl rfl ?_
                              refine g_goto C (tgt := 181) dX9_town_202 (by decide) ?_
                              refine g_sub [1, 0] rfl ?_
                              exact ihj (by omega) _ _ (by first | rfl | omega) (by exact over_step (by omega) (by omega) rfl)
                          refine g_sub [1, 0] rfl ?_
                          exact L181 0 (Nat.zero_le _) _ _ (by first | rfl | omega | simp) (by exact over_init (by omega))
                        · refine g_aload_n C dX9_town_158 (p := 0) (hi := rfl) (hv := rfl) ?_
                          refine g_aload_n C dX9_town_159 (p := 0) (hi := rfl) (hv := rfl) ?_
                          refine gm_g_fault C dX9_town_160 wf_X9_102 ?_
                          refine gm_p_latest C dX9_town_163 wf_X9_167 ?_
                          refine g_ldc C (n := (-1000100)) wk_X9_170 (by decide +kernel) dX9_town_166 ?_
                          refine g_aload_n C dX9_town_168 (p := 0) (hi := rfl) (hv := rfl) ?_
                          refine gm_g_faultAt C dX9_town_169 wf_X9_108 ?_
                          refine g_cI (b := (τt 0 18)) (by first | rfl | (rw [mr_app, if_pos rfl]; exact over_out (by omega)) | simp [mu_app, mr_app]) ?_
                          refine g_isub C dX9_town_172 ?_
                          exact hret _ _ _ _ dX9_town_173 (by (try subst hiN); (try subst hjN); subst hqt; unfold twR tw9; (repeat' split) <;> first | (exfalso; omega) | rfl) (by (try subst hiN); (try subst hjN); (try subst hjN); subst hqt; unfold twM tw9; (repeat' split) <;> first | (exfalso; omega) | rfl)
                      · refine g_aload_n C dX9_town_138 (p := 0) (hi := rfl) (hv := rfl) ?_
                        refine gm_g_token C dX9_town_139 wf_X9_90 ?_
                        refine g_iconst C dX9_town_142 ?_
                        refine g_icmp_eq C (tgt := 151) dX9_town_143 (by decide) (by have hbb := hwt.2.2.1; omega) (by omega) (fun h_19 => ?_) (fun h_19 => ?_)
                        · refine g_aload_n C dX9_town_151 (p := 0) (hi := rfl) (hv := rfl) ?_
                          refine gm_g_fault C dX9_town_152 wf_X9_102 ?_
                          refine g_if_le C (tgt := 174) dX9_town_155 (by decide) (by have hbb := hwt.2.2.2.1; omega) (fun h_20 => ?_) (fun h_20 => ?_)
                          · refine g_aload_n C dX9_town_174 (p := 0) (hi := rfl) (hv := rfl) ?_
                            refine g_iconst C dX9_town_175 ?_
                            refine gm_p_acts C dX9_town_176 wf_X9_171 ?_
                            refine g_iconst C dX9_town_179 ?_
                            refine g_istore_n C hn dX9_town_180 rfl rfl rfl ?_
                            have L181 : ∀ j : Nat, j ≤ 42 → ∀ (x1 : Int), ∀ (τ181 : Mem), x1 = (j : Int) → τ181 = (mr (mu τt 0 8 0) 4 (over (τt 4) (fun k => (τt 5) k) 0 (j : Int))) → G M ad 12 (cfM ad K) 181 [(0, .ref (ad 0)), (1, .int (iI x1))] [] τ181 := by
                              refine loopUp 42 ?_
                              rintro j hj ihj x1 τ181 rfl rfl
                              refine g_iload_n C dX9_town_181 (p := 1) (hi := rfl) (hv := rfl) ?_
                              refine (g_bipush C dX9_town_182 (by decide)) ?_
                              refine g_icmp_ge C (tgt := 205) dX9_town_184 (by decide) (by omega) (by omega) (fun h_21 => ?_) (fun h_21 => ?_)
                              · have hjN : j = 42 := by omega
                                refine g_aload_n C dX9_town_205 (p := 0) (hi := rfl) (hv := rfl) ?_
                                refine gm_g_town C dX9_town_206 wf_X9_19 ?_
                                refine g_iconst C dX9_town_209 ?_
                                refine gm_l_town C dX9_town_210 (by omega) (by omega) ?_
                                refine g_cI (b := ((over (τt 4) (fun k => (τt 5) k) 0 (j : Int)) 2)) (by first | rfl | (rw [mr_app, if_pos rfl]; exact over_out (by omega)) | simp [mu_app, mr_app]) ?_
                                exact hret _ _ _ _ dX9_town_211 (by (try subst hiN); (try subst hjN); subst hqt; unfold twR tw9; (repeat' split) <;> first | (exfalso; omega) | rfl) (by (try subst hiN); (try subst hjN); (try subst hjN); subst hqt; unfold twM tw9; (repeat' split) <;> first | (exfalso; omega) | rfl)
                              · refine g_aload_n C dX9_town_187 (p := 0) (hi := rfl) (hv := rfl) ?_
                                refine gm_g_town C dX9_town_188 wf_X9_19 ?_
                                refine g_iload_n C dX9_town_191 (p := 1) (hi := rfl) (hv := rfl) ?_
                                refine g_aload_n C dX9_town_192 (p := 0) (hi := rfl) (hv := rfl) ?_
                                refine gm_g_fresh C dX9_town_193 wf_X9_22 ?_
                                refine g_iload_n C dX9_town_196 (p := 1) (hi := rfl) (hv := rfl) ?_
                                refine gm_l_fresh C dX9_town_197 (by omega) (by omega) ?_
                                refine g_cI (b := (τt 5 (j : Int))) (by first | rfl | (rw [mr_app, if_pos rfl]; exact over_out (by omega)) | simp [mu_app, mr_app]) ?_
                                refine gm_s_town C dX9_town_198 (by omega) (by omega) ?_
                                refine g_iinc C hn dX9_town_199 (p := 1) rfl rfl rfl ?_
                                refine g_goto C (tgt := 181) dX9_town_202 (by decide) ?_
                                refine g_sub [1, 0] rfl ?_
                                exact ihj (by omega) _ _ (by first | rfl | omega) (by exact over_step (by omega) (by omega) rfl)
                            refine g_sub [1, 0] rfl ?_
                            exact L181 0 (Nat.zero_le _) _ _ (by first | rfl | omega | simp) (by exact over_init (by omega))
                          · refine g_aload_n C dX9_town_158 (p := 0) (hi := rfl) (hv := rfl) ?_
                            refine g_aload_n C dX9_town_159 (p := 0) (hi := rfl) (hv := rfl) ?_
                            refine gm_g_fault C dX9_town_160 wf_X9_102 ?_
                            refine gm_p_latest C dX9_town_163 wf_X9_167 ?_
                            refine g_ldc C (n := (-1000100)) wk_X9_170 (by decide +kernel) dX9_town_166 ?_
                            refine g_aload_n C dX9_town_168 (p := 0) (hi := rfl) (hv := rfl) ?_
                            refine gm_g_faultAt C dX9_town_169 wf_X9_108 ?_
                            refine g_cI (b := (τt 0 18)) (by first | rfl | (rw [mr_app, if_pos rfl]; exact over_out (by omega)) | simp [mu_app, mr_app]) ?_
                            refine g_isub C dX9_town_172 ?_
                            exact hret _ _ _ _ dX9_town_173 (by (try subst hiN); (try subst hjN); subst hqt; unfold twR tw9; (repeat' split) <;> first | (exfalso; omega) | rfl) (by (try subst hiN); (try subst hjN); (try subst hjN); subst hqt; unfold twM tw9; (repeat' split) <;> first | (exfalso; omega) | rfl)
                        · refine g_aload_n C dX9_town_146 (p := 0) (hi := rfl) (hv := rfl) ?_
                          refine g_iconst C dX9_town_147 ?_
                          refine gm_callv C dX9_town_148 (kX9_bad (σ := τt) (k := 1) hap hE (by first | exact p5 | exact hwt)) mw_X9_bad wl_X9_111 (by decide) (by decide) rfl rfl (by simp [Value.category]) ?_
                          refine g_aload_n C dX9_town_151 (p := 0) (hi := rfl) (hv := rfl) ?_
                          refine gm_g_fault C dX9_town_152 wf_X9_102 ?_
                          refine g_if_le C (tgt := 174) dX9_town_155 (by decide) (by have hbb := (badM_PW hwt (k := 1) (by omega)).2.2.2.1; omega) (fun h_22 => ?_) (fun h_22 => ?_)
                          · refine g_aload_n C dX9_town_174 (p := 0) (hi := rfl) (hv := rfl) ?_
                            refine g_iconst C dX9_town_175 ?_
                            refine gm_p_acts C dX9_town_176 wf_X9_171 ?_
                            refine g_iconst C dX9_town_179 ?_
                            refine g_istore_n C hn dX9_town_180 rfl rfl rfl ?_
                            have L181 : ∀ j : Nat, j ≤ 42 → ∀ (x1 : Int), ∀ (τ181 : Mem), x1 = (j : Int) → τ181 = (mr (mu (badM τt 1) 0 8 0) 4 (over ((badM τt 1) 4) (fun k => ((badM τt 1) 5) k) 0 (j : Int))) → G M ad 12 (cfM ad K) 181 [(0, .ref (ad 0)), (1, .int (iI x1))] [] τ181 := by
                              refine loopUp 42 ?_
                              rintro j hj ihj x1 τ181 rfl rfl
                              refine g_iload_n C dX9_town_181 (p := 1) (hi := rfl) (hv := rfl) ?_
                              refine (g_bipush C dX9_town_182 (by decide)) ?_
                              refine g_icmp_ge C (tgt := 205) dX9_town_184 (by decide) (by omega) (by omega) (fun h_23 => ?_) (fun h_23 => ?_)
                              · have hjN : j = 42 := by omega
                                refine g_aload_n C dX9_town_205 (p := 0) (hi := rfl) (hv := rfl) ?_
                                refine gm_g_town C dX9_town_206 wf_X9_19 ?_
                                refine g_iconst C dX9_town_209 ?_
                                refine gm_l_town C dX9_town_210 (by omega) (by omega) ?_
                                refine g_cI (b := ((over ((badM τt 1) 4) (fun k => ((badM τt 1) 5) k) 0 (j : Int)) 2)) (by first | rfl | (rw [mr_app, if_pos rfl]; exact over_out (by omega)) | simp [mu_app, mr_app]) ?_
                                exact hret _ _ _ _ dX9_town_211 (by (try subst hiN); (try subst hjN); subst hqt; unfold twR tw9; (repeat' split) <;> first | (exfalso; omega) | rfl) (by (try subst hiN); (try subst hjN); (try subst hjN); subst hqt; unfold twM tw9; (repeat' split) <;> first | (exfalso; omega) | rfl)
                              · refine g_aload_n C dX9_town_187 (p := 0) (hi := rfl) (hv := rfl) ?_
                                refine gm_g_town C dX9_town_188 wf_X9_19 ?_
                                refine g_iload_n C dX9_town_191 (p := 1) (hi := rfl) (hv := rfl) ?_
                                refine g_aload_n C dX9_town_192 (p := 0) (hi := rfl) (hv := rfl) ?_
                                refine gm_g_fresh C dX9_town_193 wf_X9_22 ?_
                                refine g_iload_n C dX9_town_196 (p := 1) (hi := rfl) (hv := rfl) ?_
                                refine gm_l_fresh C dX9_town_197 (by omega) (by omega) ?_
                                refine g_cI (b := ((badM τt 1) 5 (j : Int))) (by first | rfl | (rw [mr_app, if_pos rfl]; exact over_out (by omega)) | simp [mu_app, mr_app]) ?_
                                refine gm_s_town C dX9_town_198 (by omega) (by omega) ?_
                                refine g_iinc C hn dX9_town_199 (p := 1) rfl rfl rfl ?_
                                refine g_goto C (tgt := 181) dX9_town_202 (by decide) ?_
                                refine g_sub [1, 0] rfl ?_
                                exact ihj (by omega) _ _ (by first | rfl | omega) (by exact over_step (by omega) (by omega) rfl)
                            refine g_sub [1, 0] rfl ?_
                            exact L181 0 (Nat.zero_le _) _ _ (by first | rfl | omega | simp) (by exact over_init (by omega))
                          · refine g_aload_n C dX9_town_158 (p := 0) (hi := rfl) (hv := rfl) ?_
                            refine g_aload_n C dX9_town_159 (p := 0) (hi := rfl) (hv := rfl) ?_
                            refine gm_g_fault C dX9_town_160 wf_X9_102 ?_
                            refine gm_p_latest C dX9_town_163 wf_X9_167 ?_
                            refine g_ldc C (n := (-1000100)) wk_X9_170 (by decide +kernel) dX9_town_166 ?_
                            refine g_aload_n C dX9_town_168 (p := 0) (hi := rfl) (hv := rfl) ?_
                            refine gm_g_faultAt C dX9_town_169 wf_X9_108 ?_
                            refine g_cI (b := ((badM τt 1) 0 18)) (by first | rfl | (rw [mr_app, if_pos rfl]; exact over_out (by omega)) | simp [mu_app, mr_app]) ?_
                            refine g_isub C dX9_town_172 ?_
                            exact hret _ _ _ _ dX9_town_173 (by (try subst hiN); (try subst hjN); subst hqt; unfold twR tw9; (repeat' split) <;> first | (exfalso; omega) | rfl) (by (try subst hiN); (try subst hjN); (try subst hjN); subst hqt; unfold twM tw9; (repeat' split) <;> first | (exfalso; omega) | rfl)
                    · replace h_15 := oCmp_eq.mp h_15
                      refine g_aload_n C dX9_town_124 (p := 0) (hi := rfl) (hv := rfl) ?_
                      refine gm_callv C dX9_town_125 (kX9_readThing (σ := τt) hap hE (by exact hwt)) mw_X9_readThing wl_X9_164 (by decide) (by decide) rfl rfl (by simp [Value.category]) ?_
                      refine g_goto C (tgt := 113) dX9_town_128 (by decide) ?_
                      refine g_sub [0] rfl ?_
                      exact ihm (rtM τt) (kt - 1) (by exact rtM_PW hwt) (by have hd := hdect (by assumption); omega) (by exact (itM_go (step := rtM) (nm := 499967946343) (s := τt) (k := kt) (by assumption) (by have hd := hdect (by assumption); omega)).symm.trans het) (by have hd := hdect (by assumption); omega)
                refine g_sub [0] rfl ?_
                exact L113 _ τp 7 (by exact hwp) (by exact muT_7 hwp) (by rw [hqp]; rfl) (Nat.lt_succ_self _)
              · replace h_14 := oCmp_eq.mp h_14
                refine g_aload_n C dX9_town_106 (p := 0) (hi := rfl) (hv := rfl) ?_
                refine gm_callv C dX9_town_107 (kX9_readPerson (σ := τp) hap hE (by exact hwp)) mw_X9_readPerson wl_X9_159 (by decide) (by decide) rfl rfl (by simp [Value.category]) ?_
                refine g_goto C (tgt := 95) dX9_town_110 (by decide) ?_
                refine g_sub [0] rfl ?_
                exact ihm (rpM τp) (kp - 1) (by exact rpM_PW hwp) (by have hd := hdecp (by assumption); omega) (by exact (itM_go (step := rpM) (nm := 123581014175598) (s := τp) (k := kp) (by assumption) (by have hd := hdecp (by assumption); omega)).symm.trans hep) (by have hd := hdecp (by assumption); omega)
          refine g_sub [0] rfl ?_
          exact L95 _ (badM (tw5 σ) 1) 6 (by first | exact p5 | exact badM_PW p5 (by omega)) (by exact muP_6 (by first | exact p5 | exact badM_PW p5 (by omega))) (by unfold tw7 tw6; first | rw [if_pos (by assumption)] | rw [if_neg (by assumption)]) (Nat.lt_succ_self _)
      · replace h_2 := oCmp_eq.mp h_2
        refine g_iconst C dX9_town_42 ?_
        refine g_goto C (tgt := 47) dX9_town_43 (by decide) ?_
        refine gm_callv C dX9_town_47 (kX9_must (σ := (tw1 σ)) (so := 1) hap hE (by exact p1) (by first | assumption | omega | exact hb7 | exact hta | exact hfr)) mw_X9_must wl_X9_119 (by decide) (by decide) rfl rfl (by simp [Value.category]) ?_
        refine g_eq (σ' := (tw2 σ)) rfl rfl rfl (by unfold tw2; first | rw [if_pos (by assumption)] | rw [if_neg (by assumption)]) ?_
        refine g_aload_n C dX9_town_50 (p := 0) (hi := rfl) (hv := rfl) ?_
        refine gm_g_fresh C dX9_town_51 wf_X9_22 ?_
        refine g_iconst C dX9_town_54 ?_
        refine g_aload_n C dX9_town_55 (p := 0) (hi := rfl) (hv := rfl) ?_
        refine g_iconst C dX9_town_56 ?_
        refine g_iconst C dX9_town_57 ?_
        refine gm_call C dX9_town_58 (kX9_number (σ := (tw2 σ)) (lo := 0) (hi := 3) hap hE (by first | exact p2 | exact p3) (by first | assumption | omega | exact hb7 | exact hta | exact hfr) (by first | assumption | omega | exact hb7 | exact hta | exact hfr)) mw_X9_number wl_X9_148 (by decide) (by decide) rfl rfl (by simp [Value.category]) ?_
        refine gm_s_fresh C dX9_town_61 (by omega) (by omega) ?_
        refine g_aload_n C dX9_town_62 (p := 0) (hi := rfl) (hv := rfl) ?_
        refine gm_g_fresh C dX9_town_63 wf_X9_22 ?_
        refine g_iconst C dX9_town_66 ?_
        refine g_aload_n C dX9_town_67 (p := 0) (hi := rfl) (hv := rfl) ?_
        refine g_iconst C dX9_town_68 ?_
        refine (g_bipush C dX9_town_69 (by decide)) ?_
        refine gm_call C dX9_town_71 (kX9_number (σ := (mu (numM (tw2 σ) 0 3) 5 0 (numR (tw2 σ)))) (lo := 0) (hi := 20) hap hE (by show PW (mu (numM (tw2 σ) 0 3) 5 0 (numR (tw2 σ))); first | exact p2 | exact p3) (by first | assumption | omega | exact hb7 | exact hta | exact hfr) (by first | assumption | omega | exact hb7 | exact hta | exact hfr)) mw_X9_number wl_X9_148 (by decide) (by decide) rfl rfl (by simp [Value.category]) ?_
        refine gm_s_fresh C dX9_town_74 (by omega) (by omega) ?_
        refine g_aload_n C dX9_town_75 (p := 0) (hi := rfl) (hv := rfl) ?_
        refine gm_callv C dX9_town_76 (kX9_mustEnd (σ := (mu (numM (mu (numM (tw2 σ) 0 3) 5 0 (numR (tw2 σ))) 0 20) 5 1 (numR (mu (numM (tw2 σ) 0 3) 5 0 (numR (tw2 σ)))))) hap hE (by show PW (mu (numM (mu (numM (tw2 σ) 0 3) 5 0 (numR (tw2 σ))) 0 20) 5 1 (numR (mu (numM (tw2 σ) 0 3) 5 0 (numR (tw2 σ))))); exact p4)) mw_X9_mustEnd wl_X9_145 (by decide) (by decide) rfl rfl (by simp [Value.category]) ?_
        refine g_eq (σ' := (tw5 σ)) rfl rfl rfl (by rfl) ?_
        refine g_aload_n C dX9_town_79 (p := 0) (hi := rfl) (hv := rfl) ?_
        refine gm_calll C dX9_town_80 (kX9_name (σ := (tw5 σ)) hap hE (by first | exact p1 | exact p5 | exact hwp | exact hwt)) mw_X9_name wl_X9_137 (by decide) (by decide) rfl rfl (by simp [Value.category]) ?_
        refine g_ldc2 C (n := 123581014175598) wk_X9_157 (by decide +kernel) dX9_town_83 ?_
        refine g_lcmp C (by first | exact namR_R _ | omega) (by first | exact namR_R _ | omega) dX9_town_86 ?_
        refine g_if_eq C (tgt := 95) dX9_town_87 (by decide) (oCmp_R _ _) (fun h_24 => ?_) (fun h_24 => ?_)
        · replace h_24 := oCmp_eq.mp h_24
          have L95 : ∀ (m : Nat) (τp : Mem) (kp : Nat), (PW τp) → (muP τp ≤ kp) → (itM rpM 123581014175598 kp τp = tw7 σ) → muP τp < m → G M ad 12 (cfM ad K) 95 [(0, .ref (ad 0))] [] τp := by
            intro m; induction m with
            | zero => intros; omega
            | succ m ihm =>
              intro τp kp hwp hkp hep hmeas
              have hRp := namR_R τp
              have hdecp := @muP_dec τp hwp
              refine g_aload_n C dX9_town_95 (p := 0) (hi := rfl) (hv := rfl) ?_
              refine gm_calll C dX9_town_96 (kX9_name (σ := τp) hap hE (by first | exact p1 | exact p5 | exact hwp | exact hwt)) mw_X9_name wl_X9_137 (by decide) (by decide) rfl rfl (by simp [Value.category]) ?_
              refine g_ldc2 C (n := 123581014175598) wk_X9_157 (by decide +kernel) dX9_town_99 ?_
              refine g_lcmp C (by first | exact namR_R _ | omega) (by first | exact namR_R _ | omega) dX9_town_102 ?_
              refine g_if_ne C (tgt := 113) dX9_town_103 (by decide) (oCmp_R _ _) (fun h_25 => ?_) (fun h_25 => ?_)
              · replace h_25 := oCmp_ne.mp h_25
                have hqp : τp = tw7 σ := by rw [← hep, itM_stop (by assumption)]
                have L113 : ∀ (m : Nat) (τt : Mem) (kt : Nat), (PW τt) → (muT τt ≤ kt) → (itM rtM 499967946343 kt τt = tw8 σ) → muT τt < m → G M ad 12 (cfM ad K) 113 [(0, .ref (ad 0))] [] τt := by
                  intro m; induction m with
                  | zero => intros; omega
                  | succ m ihm =>
                    intro τt kt hwt hkt het hmeas
                    have hRt := namR_R τt
                    have hdect := @muT_dec τt hwt
                    refine g_aload_n C dX9_town_113 (p := 0) (hi := rfl) (hv := rfl) ?_
                    refine gm_calll C dX9_town_114 (kX9_name (σ := τt) hap hE (by first | exact p1 | exact p5 | exact hwp | exact hwt)) mw_X9_name wl_X9_137 (by decide) (by decide) rfl rfl (by simp [Value.category]) ?_
                    refine g_ldc2 C (n := 499967946343) wk_X9_162 (by decide +kernel) dX9_town_117 ?_
                    refine g_lcmp C (by first | exact namR_R _ | omega) (by first | exact namR_R _ | omega) dX9_town_120 ?_
                    refine g_if_ne C (tgt := 131) dX9_town_121 (by decide) (oCmp_R _ _) (fun h_26 => ?_) (fun h_26 => ?_)
                    · replace h_26 := oCmp_ne.mp h_26
                      have hqt : τt = tw8 σ := by rw [← het, itM_stop (by assumption)]
                      refine g_aload_n C dX9_town_131 (p := 0) (hi := rfl) (hv := rfl) ?_
                      refine gm_g_fault C dX9_town_132 wf_X9_102 ?_
                      refine g_if_ne C (tgt := 151) dX9_town_135 (by decide) (by have hbb := hwt.2.2.2.1; omega) (fun h_27 => ?_) (fun h_27 => ?_)
                      · refine g_aload_n C dX9_town_151 (p := 0) (hi := rfl) (hv := rfl) ?_
                        refine gm_g_fault C dX9_town_152 wf_X9_102 ?_
                        refine g_if_le C (tgt := 174) dX9_town_155 (by decide) (by have hbb := hwt.2.2.2.1; omega) (fun h_28 => ?_) (fun h_28 => ?_)
                        · refine g_aload_n C dX9_town_174 (p := 0) (hi := rfl) (hv := rfl) ?_
                          refine g_iconst C dX9_town_175 ?_
                          refine gm_p_acts C dX9_town_176 wf_X9_171 ?_
                          refine g_iconst C dX9_town_179 ?_
                          refine g_istore_n C hn dX9_town_180 rfl rfl rfl ?_
                          have L181 : ∀ j : Nat, j ≤ 42 → ∀ (x1 : Int), ∀ (τ181 : Mem), x1 = (j : Int) → τ181 = (mr (mu τt 0 8 0) 4 (over (τt 4) (fun k => (τt 5) k) 0 (j : Int))) → G M ad 12 (cfM ad K) 181 [(0, .ref (ad 0)), (1, .int (iI x1))] [] τ181 := by
                            refine loopUp 42 ?_
                            rintro j hj ihj x1 τ181 rfl rfl
                            refine g_iload_n C dX9_town_181 (p := 1) (hi := rfl) (hv := rfl) ?_
                            refine (g_bipush C dX9_town_182 (by decide)) ?_
                            refine g_icmp_ge C (tgt := 205) dX9_town_184 (by decide) (by omega) (by omega) (fun h_29 => ?_) (fun h_29 => ?_)
                            · have hjN : j = 42 := by omega
                              refine g_aload_n C dX9_town_205 (p := 0) (hi := rfl) (hv := rfl) ?_
                              refine gm_g_town C dX9_town_206 wf_X9_19 ?_
                              refine g_iconst C dX9_town_209 ?_
                              refine gm_l_town C dX9_town_210 (by omega) (by omega) ?_
                              refine g_cI (b := ((over (τt 4) (fun k => (τt 5) k) 0 (j : Int)) 2)) (by first | rfl | (rw [mr_app, if_pos rfl]; exact over_out (by omega)) | simp [mu_app, mr_app]) ?_
                              exact hret _ _ _ _ dX9_town_211 (by (try subst hiN); (try subst hjN); subst hqt; unfold twR tw9; (repeat' split) <;> first | (exfalso; omega) | rfl) (by (try subst hiN); (try subst hjN); (try subst hjN); subst hqt; unfold twM tw9; (repeat' split) <;> first | (exfalso; omega) | rfl)
                            · refine g_aload_n C dX9_town_187 (p := 0) (hi := rfl) (hv := rfl) ?_
                              refine gm_g_town C dX9_town_188 wf_X9_19 ?_
                              refine g_iload_n C dX9_town_191 (p := 1) (hi := rfl) (hv := rfl) ?_
                              refine g_aload_n C dX9_town_192 (p := 0) (hi := rfl) (hv := rfl) ?_
                              refine gm_g_fresh C dX9_town_193 wf_X9_22 ?_
                              refine g_iload_n C dX9_town_196 (p := 1) (hi := rfl) (hv := rfl) ?_
                              refine gm_l_fresh C dX9_town_197 (by omega) (by omega) ?_
                              refine g_cI (b := (τt 5 (j : Int))) (by first | rfl | (rw [mr_app, if_pos rfl]; exact over_out (by omega)) | simp [mu_app, mr_app]) ?_
                              refine gm_s_town C dX9_town_198 (by omega) (by omega) ?_
                              refine g_iinc C hn dX9_town_199 (p := 1) rfl rfl rfl ?_
                              refine g_goto C (tgt := 181) dX9_town_202 (by decide) ?_
                              refine g_sub [1, 0] rfl ?_
                              exact ihj (by omega) _ _ (by first | rfl | omega) (by exact over_step (by omega) (by omega) rfl)
                          refine g_sub [1, 0] rfl ?_
                          exact L181 0 (Nat.zero_le _) _ _ (by first | rfl | omega | simp) (by exact over_init (by omega))
                        · refine g_aload_n C dX9_town_158 (p := 0) (hi := rfl) (hv := rfl) ?_
                          refine g_aload_n C dX9_town_159 (p := 0) (hi := rfl) (hv := rfl) ?_
                          refine gm_g_fault C dX9_town_160 wf_X9_102 ?_
                          refine gm_p_latest C dX9_town_163 wf_X9_167 ?_
                          refine g_ldc C (n := (-1000100)) wk_X9_170 (by decide +kernel) dX9_town_166 ?_
                          refine g_aload_n C dX9_town_168 (p := 0) (hi := rfl) (hv := rfl) ?_
                          refine gm_g_faultAt C dX9_town_169 wf_X9_108 ?_
                          refine g_cI (b := (τt 0 18)) (by first | rfl | (rw [mr_app, if_pos rfl]; exact over_out (by omega)) | simp [mu_app, mr_app]) ?_
                          refine g_isub C dX9_town_172 ?_
                          exact hret _ _ _ _ dX9_town_173 (by (try subst hiN); (try subst hjN); subst hqt; unfold twR tw9; (repeat' split) <;> first | (exfalso; omega) | rfl) (by (try subst hiN); (try subst hjN); (try subst hjN); subst hqt; unfold twM tw9; (repeat' split) <;> first | (exfalso; omega) | rfl)
                      · refine g_aload_n C dX9_town_138 (p := 0) (hi := rfl) (hv := rfl) ?_
                        refine gm_g_token C dX9_town_139 wf_X9_90 ?_
                        refine g_iconst C dX9_town_142 ?_
                        refine g_icmp_eq C (tgt := 151) dX9_town_143 (by decide) (by have hbb := hwt.2.2.1; omega) (by omega) (fun h_30 => ?_) (fun h_30 => ?_)
                        · refine g_aload_n C dX9_town_151 (p := 0) (hi := rfl) (hv := rfl) ?_
                          refine gm_g_fault C dX9_town_152 wf_X9_102 ?_
                          refine g_if_le C (tgt := 174) dX9_town_155 (by decide) (by have hbb := hwt.2.2.2.1; omega) (fun h_31 => ?_) (fun h_31 => ?_)
                          · refine g_aload_n C dX9_town_174 (p := 0) (hi := rfl) (hv := rfl) ?_
                            refine g_iconst C dX9_town_175 ?_
                            refine gm_p_acts C dX9_town_176 wf_X9_171 ?_
                            refine g_iconst C dX9_town_179 ?_
                            refine g_istore_n C hn dX9_town_180 rfl rfl rfl ?_
                            have L181 : ∀ j : Nat, j ≤ 42 → ∀ (x1 : Int), ∀ (τ181 : Mem), x1 = (j : Int) → τ181 = (mr (mu τt 0 8 0) 4 (over (τt 4) (fun k => (τt 5) k) 0 (j : Int))) → G M ad 12 (cfM ad K) 181 [(0, .ref (ad 0)), (1, .int (iI x1))] [] τ181 := by
                              refine loopUp 42 ?_
                              rintro j hj ihj x1 τ181 rfl rfl
                              refine g_iload_n C dX9_town_181 (p := 1) (hi := rfl) (hv := rfl) ?_
                              refine (g_bipush C dX9_town_182 (by decide)) ?_
                              refine g_icmp_ge C (tgt := 205) dX9_town_184 (by decide) (by omega) (by omega) (fun h_32 => ?_) (fun h_32 => ?_)
                              · have hjN : j = 42 := by omega
                                refine g_aload_n C dX9_town_205 (p := 0) (hi := rfl) (hv := rfl) ?_
                                refine gm_g_town C dX9_town_206 wf_X9_19 ?_
                                refine g_iconst C dX9_town_209 ?_
                                refine gm_l_town C dX9_town_210 (by omega) (by omega) ?_
                                refine g_cI (b := ((over (τt 4) (fun k => (τt 5) k) 0 (j : Int)) 2)) (by first | rfl | (rw [mr_app, if_pos rfl]; exact over_out (by omega)) | simp [mu_app, mr_app]) ?_
                                exact hret _ _ _ _ dX9_town_211 (by (try subst hiN); (try subst hjN); subst hqt; unfold twR tw9; (repeat' split) <;> first | (exfalso; omega) | rfl) (by (try subst hiN); (try subst hjN); (try subst hjN); subst hqt; unfold twM tw9; (repeat' split) <;> first | (exfalso; omega) | rfl)
                              · refine g_aload_n C dX9_town_187 (p := 0) (hi := rfl) (hv := rfl) ?_
                                refine gm_g_town C dX9_town_188 wf_X9_19 ?_
                                refine g_iload_n C dX9_town_191 (p := 1) (hi := rfl) (hv := rfl) ?_
                                refine g_aload_n C dX9_town_192 (p := 0) (hi := rfl) (hv := rfl) ?_
                                refine gm_g_fresh C dX9_town_193 wf_X9_22 ?_
                                refine g_iload_n C dX9_town_196 (p := 1) (hi := rfl) (hv := rfl) ?_
                                refine gm_l_fresh C dX9_town_197 (by omega) (by omega) ?_
                                refine g_cI (b := (τt 5 (j : Int))) (by first | rfl | (rw [mr_app, if_pos rfl]; exact over_out (by omega)) | simp [mu_app, mr_app]) ?_
                                refine gm_s_town C dX9_town_198 (by omega) (by omega) ?_
                                refine g_iinc C hn dX9_town_199 (p := 1) rfl rfl rfl ?_
                                refine g_goto C (tgt := 181) dX9_town_202 (by decide) ?_
                                refine g_sub [1, 0] rfl ?_
                                exact ihj (by omega) _ _ (by first | rfl | omega) (by exact over_step (by omega) (by omega) rfl)
                            refine g_sub [1, 0] rfl ?_
                            exact L181 0 (Nat.zero_le _) _ _ (by first | rfl | omega | simp) (by exact over_init (by omega))
                          · refine g_aload_n C dX9_town_158 (p := 0) (hi := rfl) (hv := rfl) ?_
                            refine g_aload_n C dX9_town_159 (p := 0) (hi := rfl) (hv := rfl) ?_
                            refine gm_g_fault C dX9_town_160 wf_X9_102 ?_
                            refine gm_p_latest C dX9_town_163 wf_X9_167 ?_
                            refine g_ldc C (n := (-1000100)) wk_X9_170 (by decide +kernel) dX9_town_166 ?_
                            refine g_aload_n C dX9_town_168 (p := 0) (hi := rfl) (hv := rfl) ?_
                            refine gm_g_faultAt C dX9_town_169 wf_X9_108 ?_
                            refine g_cI (b := (τt 0 18)) (by first | rfl | (rw [mr_app, if_pos rfl]; exact over_out (by omega)) | simp [mu_app, mr_app]) ?_
                            refine g_isub C dX9_town_172 ?_
                            exact hret _ _ _ _ dX9_town_173 (by (try subst hiN); (try subst hjN); subst hqt; unfold twR tw9; (repeat' split) <;> first | (exfalso; omega) | rfl) (by (try subst hiN); (try subst hjN); (try subst hjN); subst hqt; unfold twM tw9; (repeat' split) <;> first | (exfalso; omega) | rfl)
                        · refine g_aload_n C dX9_town_146 (p := 0) (hi := rfl) (hv := rfl) ?_
                          refine g_iconst C dX9_town_147 ?_
                          refine gm_callv C dX9_town_148 (kX9_bad (σ := τt) (k := 1) hap hE (by first | exact p5 | exact hwt)) mw_X9_bad wl_X9_111 (by decide) (by decide) rfl rfl (by simp [Value.category]) ?_
                          refine g_aload_n C dX9_town_151 (p := 0) (hi := rfl) (hv := rfl) ?_
                          refine gm_g_fault C dX9_town_152 wf_X9_102 ?_
                          refine g_if_le C (tgt := 174) dX9_town_155 (by decide) (by have hbb := (badM_PW hwt (k := 1) (by omega)).2.2.2.1; omega) (fun h_33 => ?_) (fun h_33 => ?_)
                          · refine g_aload_n C dX9_town_174 (p := 0) (hi := rfl) (hv := rfl) ?_
                            refine g_iconst C dX9_town_175 ?_
                            refine gm_p_acts C dX9_town_176 wf_X9_171 ?_
                            refine g_iconst C dX9_town_179 ?_
                            refine g_istore_n C hn dX9_town_180 rfl rfl rfl ?_
                            have L181 : ∀ j : Nat, j ≤ 42 → ∀ (x1 : Int), ∀ (τ181 : Mem), x1 = (j : Int) → τ181 = (mr (mu (badM τt 1) 0 8 0) 4 (over ((badM τt 1) 4) (fun k => ((badM τt 1) 5) k) 0 (j : Int))) → G M ad 12 (cfM ad K) 181 [(0, .ref (ad 0)), (1, .int (iI x1))] [] τ181 := by
                              refine loopUp 42 ?_
                              rintro j hj ihj x1 τ181 rfl rfl
                              refine g_iload_n C dX9_town_181 (p := 1) (hi := rfl) (hv := rfl) ?_
                              refine (g_bipush C dX9_town_182 (by decide)) ?_
                              refine g_icmp_ge C (tgt := 205) dX9_town_184 (by decide) (by omega) (by omega) (fun h_34 => ?_) (fun h_34 => ?_)
                              · have hjN : j = 42 := by omega
                                refine g_aload_n C dX9_town_205 (p := 0) (hi := rfl) (hv := rfl) ?_
                                refine gm_g_town C dX9_town_206 wf_X9_19 ?_
                                refine g_iconst C dX9_town_209 ?_
                                refine gm_l_town C dX9_town_210 (by omega) (by omega) ?_
                                refine g_cI (b := ((over ((badM τt 1) 4) (fun k => ((badM τt 1) 5) k) 0 (j : Int)) 2)) (by first | rfl | (rw [mr_app, if_pos rfl]; exact over_out (by omega)) | simp [mu_app, mr_app]) ?_
                                exact hret _ _ _ _ dX9_town_211 (by (try subst hiN); (try subst hjN); subst hqt; unfold twR tw9; (repeat' split) <;> first | (exfalso; omega) | rfl) (by (try subst hiN); (try subst hjN); (try subst hjN); subst hqt; unfold twM tw9; (repeat' split) <;> first | (exfalso; omega) | rfl)
                              · refine g_aload_n C dX9_town_187 (p := 0) (hi := rfl) (hv := rfl) ?_
                                refine gm_g_town C dX9_town_188 wf_X9_19 ?_
                                refine g_iload_n C dX9_town_191 (p := 1) (hi := rfl) (hv := rfl) ?_
                                refine g_aload_n C dX9_town_192 (p := 0) (hi := rfl) (hv := rfl) ?_
                                refine gm_g_fresh C dX9_town_193 wf_X9_22 ?_
                                refine g_iload_n C dX9_town_196 (p := 1) (hi := rfl) (hv := rfl) ?_
                                refine gm_l_fresh C dX9_town_197 (by omega) (by omega) ?_
                                refine g_cI (b := ((badM τt 1) 5 (j : Int))) (by first | rfl | (rw [mr_app, if_pos rfl]; exact over_out (by omega)) | simp [mu_app, mr_app]) ?_
                                refine gm_s_town C dX9_town_198 (by omega) (by omega) ?_
                                refine g_iinc C hn dX9_town_199 (p := 1) rfl rfl rfl ?_
                                refine g_goto C (tgt := 181) dX9_town_202 (by decide) ?_
                                refine g_sub [1, 0] rfl ?_
                                exact ihj (by omega) _ _ (by first | rfl | omega) (by exact over_step (by omega) (by omega) rfl)
                            refine g_sub [1, 0] rfl ?_
                            exact L181 0 (Nat.zero_le _) _ _ (by first | rfl | omega | simp) (by exact over_init (by omega))
                          · refine g_aload_n C dX9_town_158 (p := 0) (hi := rfl) (hv := rfl) ?_
                            refine g_aload_n C dX9_town_159 (p := 0) (hi := rfl) (hv := rfl) ?_
                            refine gm_g_fault C dX9_town_160 wf_X9_102 ?_
                            refine gm_p_latest C dX9_town_163 wf_X9_167 ?_
                            refine g_ldc C (n := (-1000100)) wk_X9_170 (by decide +kernel) dX9_town_166 ?_
                            refine g_aload_n C dX9_town_168 (p := 0) (hi := rfl) (hv := rfl) ?_
                            refine gm_g_faultAt C dX9_town_169 wf_X9_108 ?_
                            refine g_cI (b := ((badM τt 1) 0 18)) (by first | rfl | (rw [mr_app, if_pos rfl]; exact over_out (by omega)) | simp [mu_app, mr_app]) ?_
                            refine g_isub C dX9_town_172 ?_
                            exact hret _ _ _ _ dX9_town_173 (by (try subst hiN); (try subst hjN); subst hqt; unfold twR tw9; (repeat' split) <;> first | (exfalso; omega) | rfl) (by (try subst hiN); (try subst hjN); (try subst hjN); subst hqt; unfold twM tw9; (repeat' split) <;> first | (exfalso; omega) | rfl)
                    · replace h_26 := oCmp_eq.mp h_26
                      refine g_aload_n C dX9_town_124 (p := 0) (hi := rfl) (hv := rfl) ?_
                      refine gm_callv C dX9_town_125 (kX9_readThing (σ := τt) hap hE (by exact hwt)) mw_X9_readThing wl_X9_164 (by decide) (by decide) rfl rfl (by simp [Value.category]) ?_
                      refine g_goto C (tgt := 113) dX9_town_128 (by decide) ?_
                      refine g_sub [0] rfl ?_
                      exact ihm (rtM τt) (kt - 1) (by exact rtM_PW hwt) (by have hd := hdect (by assumption); omega) (by exact (itM_go (step := rtM) (nm := 499967946343) (s := τt) (k := kt) (by assumption) (by have hd := hdect (by assumption); omega)).symm.trans het) (by have hd := hdect (by assumption); omega)
                refine g_sub [0] rfl ?_
                exact L113 _ τp 7 (by exact hwp) (by exact muT_7 hwp) (by rw [hqp]; rfl) (Nat.lt_succ_self _)
              · replace h_25 := oCmp_eq.mp h_25
                refine g_aload_n C dX9_town_106 (p := 0) (hi := rfl) (hv := rfl) ?_
                refine gm_callv C dX9_town_107 (kX9_readPerson (σ := τp) hap hE (by exact hwp)) mw_X9_readPerson wl_X9_159 (by decide) (by decide) rfl rfl (by simp [Value.category]) ?_
                refine g_goto C (tgt := 95) dX9_town_110 (by decide) ?_
                refine g_sub [0] rfl ?_
                exact ihm (rpM τp) (kp - 1) (by exact rpM_PW hwp) (by have hd := hdecp (by assumption); omega) (by exact (itM_go (step := rpM) (nm := 123581014175598) (s := τp) (k := kp) (by assumption) (by have hd := hdecp (by assumption); omega)).symm.trans hep) (by have hd := hdecp (by assumption); omega)
          refine g_sub [0] rfl ?_
          exact L95 _ (tw5 σ) 6 (by first | exact p5 | exact badM_PW p5 (by omega)) (by exact muP_6 (by first | exact p5 | exact badM_PW p5 (by omega))) (by unfold tw7 tw6; first | rw [if_pos (by assumption)] | rw [if_neg (by assumption)]) (Nat.lt_succ_self _)
        · replace h_24 := oCmp_ne.mp h_24
          refine g_aload_n C dX9_town_90 (p := 0) (hi := rfl) (hv := rfl) ?_
          refine g_iconst C dX9_town_91 ?_
          refine gm_callv C dX9_town_92 (kX9_bad (σ := (tw5 σ)) (k := 1) hap hE (by first | exact p5 | exact hwt)) mw_X9_bad wl_X9_111 (by decide) (by decide) rfl rfl (by simp [Value.category]) ?_
          have L95 : ∀ (m : Nat) (τp : Mem) (kp : Nat), (PW τp) → (muP τp ≤ kp) → (itM rpM 123581014175598 kp τp = tw7 σ) → muP τp < m → G M ad 12 (cfM ad K) 95 [(0, .ref (ad 0))] [] τp := by
            intro m; induction m with
            | zero => intros; omega
            | succ m ihm =>
              intro τp kp hwp hkp hep hmeas
              have hRp := namR_R τp
              have hdecp := @muP_dec τp hwp
              refine g_aload_n C dX9_town_95 (p := 0) (hi := rfl) (hv := rfl) ?_
              refine gm_calll C dX9_town_96 (kX9_name (σ := τp) hap hE (by first | exact p1 | exact p5 | exact hwp | exact hwt)) mw_X9_name wl_X9_137 (by decide) (by decide) rfl rfl (by simp [Value.category]) ?_
              refine g_ldc2 C (n := 123581014175598) wk_X9_157 (by decide +kernel) dX9_town_99 ?_
              refine g_lcmp C (by first | exact namR_R _ | omega) (by first | exact namR_R _ | omega) dX9_town_102 ?_
              refine g_if_ne C (tgt := 113) dX9_town_103 (by decide) (oCmp_R _ _) (fun h_35 => ?_) (fun h_35 => ?_)
              · replace h_35 := oCmp_ne.mp h_35
                have hqp : τp = tw7 σ := by rw [← hep, itM_stop (by assumption)]
                have L113 : ∀ (m : Nat) (τt : Mem) (kt : Nat), (PW τt) → (muT τt ≤ kt) → (itM rtM 499967946343 kt τt = tw8 σ) → muT τt < m → G M ad 12 (cfM ad K) 113 [(0, .ref (ad 0))] [] τt := by
                  intro m; induction m with
                  | zero => intros; omega
                  | succ m ihm =>
                    intro τt kt hwt hkt het hmeas
                    have hRt := namR_R τt
                    have hdect := @muT_dec τt hwt
                    refine g_aload_n C dX9_town_113 (p := 0) (hi := rfl) (hv := rfl) ?_
                    refine gm_calll C dX9_town_114 (kX9_name (σ := τt) hap hE (by first | exact p1 | exact p5 | exact hwp | exact hwt)) mw_X9_name wl_X9_137 (by decide) (by decide) rfl rfl (by simp [Value.category]) ?_
                    refine g_ldc2 C (n := 499967946343) wk_X9_162 (by decide +kernel) dX9_town_117 ?_
                    refine g_lcmp C (by first | exact namR_R _ | omega) (by first | exact namR_R _ | omega) dX9_town_120 ?_
                    refine g_if_ne C (tgt := 131) dX9_town_121 (by decide) (oCmp_R _ _) (fun h_36 => ?_) (fun h_36 => ?_)
                    · replace h_36 := oCmp_ne.mp h_36
                      have hqt : τt = tw8 σ := by rw [← het, itM_stop (by assumption)]
                      refine g_aload_n C dX9_town_131 (p := 0) (hi := rfl) (hv := rfl) ?_
                      refine gm_g_fault C dX9_town_132 wf_X9_102 ?_
                      refine g_if_ne C (tgt := 151) dX9_town_135 (by decide) (by have hbb := hwt.2.2.2.1; omega) (fun h_37 => ?_) (fun h_37 => ?_)
                      · refine g_aload_n C dX9_town_151 (p := 0) (hi := rfl) (hv := rfl) ?_
                        refine gm_g_fault C dX9_town_152 wf_X9_102 ?_
                        refine g_if_le C (tgt := 174) dX9_town_155 (by decide) (by have hbb := hwt.2.2.2.1; omega) (fun h_38 => ?_) (fun h_38 => ?_)
                        · refine g_aload_n C dX9_town_174 (p := 0) (hi := rfl) (hv := rfl) ?_
                          refine g_iconst C dX9_town_175 ?_
                          refine gm_p_acts C dX9_town_176 wf_X9_171 ?_
                          refine g_iconst C dX9_town_179 ?_
                          refine g_istore_n C hn dX9_town_180 rfl rfl rfl ?_
                          have L181 : ∀ j : Nat, j ≤ 42 → ∀ (x1 : Int), ∀ (τ181 : Mem), x1 = (j : Int) → τ181 = (mr (mu τt 0 8 0) 4 (over (τt 4) (fun k => (τt 5) k) 0 (j : Int))) → G M ad 12 (cfM ad K) 181 [(0, .ref (ad 0)), (1, .int (iI x1))] [] τ181 := by
                            refine loopUp 42 ?_
                            rintro j hj ihj x1 τ181 rfl rfl
                            refine g_iload_n C dX9_town_181 (p := 1) (hi := rfl) (hv := rfl) ?_
                            refine (g_bipush C dX9_town_182 (by decide)) ?_
                            refine g_icmp_ge C (tgt := 205) dX9_town_184 (by decide) (by omega) (by omega) (fun h_39 => ?_) (fun h_39 => ?_)
                            · have hjN : j = 42 := by omega
                              refine g_aload_n C dX9_town_205 (p := 0) (hi := rfl) (hv := rfl) ?_
                              refine gm_g_town C dX9_town_206 wf_X9_19 ?_
                              refine g_iconst C dX9_town_209 ?_
                              refine gm_l_town C dX9_town_210 (by omega) (by omega) ?_
                              refine g_cI (b := ((over (τt 4) (fun k => (τt 5) k) 0 (j : Int)) 2)) (by first | rfl | (rw [mr_app, if_pos rfl]; exact over_out (by omega)) | simp [mu_app, mr_app]) ?_
                              exact hret _ _ _ _ dX9_town_211 (by (try subst hiN); (try subst hjN); subst hqt; unfold twR tw9; (repeat' split) <;> first | (exfalso; omega) | rfl) (by (try subst hiN); (try subst hjN); (try subst hjN); subst hqt; unfold twM tw9; (repeat' split) <;> first | (exfalso; omega) | rfl)
                            · refine g_aload_n C dX9_town_187 (p := 0) (hi := rfl) (hv := rfl) ?_
                              refine gm_g_town C dX9_town_188 wf_X9_19 ?_
                              refine g_iload_n C dX9_town_191 (p := 1) (hi := rfl) (hv := rfl) ?_
                              refine g_aload_n C dX9_town_192 (p := 0) (hi := rfl) (hv := rfl) ?_
                              refine gm_g_fresh C dX9_town_193 wf_X9_22 ?_
                              refine g_iload_n C dX9_town_196 (p := 1) (hi := rfl) (hv := rfl) ?_
                              refine gm_l_fresh C dX9_town_197 (by omega) (by omega) ?_
                              refine g_cI (b := (τt 5 (j : Int))) (by first | rfl | (rw [mr_app, if_pos rfl]; exact over_out (by omega)) | simp [mu_app, mr_app]) ?_
                              refine gm_s_town C dX9_town_198 (by omega) (by omega) ?_
                              refine g_iinc C hn dX9_town_199 (p := 1) rfl rfl rfl ?_
                              refine g_goto C (tgt := 181) dX9_town_202 (by decide) ?_
                              refine g_sub [1, 0] rfl ?_
                              exact ihj (by omega) _ _ (by first | rfl | omega) (by exact over_step (by omega) (by omega) rfl)
                          refine g_sub [1, 0] rfl ?_
                          exact L181 0 (Nat.zero_le _) _ _ (by first | rfl | omega | simp) (by exact over_init (by omega))
                        · refine g_aload_n C dX9_town_158 (p := 0) (hi := rfl) (hv := rfl) ?_
                          refine g_aload_n C dX9_town_159 (p := 0) (hi := rfl) (hv := rfl) ?_
                          refine gm_g_fault C dX9_town_160 wf_X9_102 ?_
                          refine gm_p_latest C dX9_town_163 wf_X9_167 ?_
                          refine g_ldc C (n := (-1000100)) wk_X9_170 (by decide +kernel) dX9_town_166 ?_
                          refine g_aload_n C dX9_town_168 (p := 0) (hi := rfl) (hv := rfl) ?_
                          refine gm_g_faultAt C dX9_town_169 wf_X9_108 ?_
                          refine g_cI (b := (τt 0 18)) (by first | rfl | (rw [mr_app, if_pos rfl]; exact over_out (by omega)) | simp [mu_app, mr_app]) ?_
                          refine g_isub C dX9_town_172 ?_
                          exact hret _ _ _ _ dX9_town_173 (by (try subst hiN); (try subst hjN); subst hqt; unfold twR tw9; (repeat' split) <;> first | (exfalso; omega) | rfl) (by (try subst hiN); (try subst hjN); (try subst hjN); subst hqt; unfold twM tw9; (repeat' split) <;> first | (exfalso; omega) | rfl)
                      · refine g_aload_n C dX9_town_138 (p := 0) (hi := rfl) (hv := rfl) ?_
                        refine gm_g_token C dX9_town_139 wf_X9_90 ?_
                        refine g_iconst C dX9_town_142 ?_
                        refine g_icmp_eq C (tgt := 151) dX9_town_143 (by decide) (by have hbb := hwt.2.2.1; omega) (by omega) (fun h_40 => ?_) (fun h_40 => ?_)
                        · refine g_aload_n C dX9_town_151 (p := 0) (hi := rfl) (hv := rfl) ?_
                          refine gm_g_fault C dX9_town_152 wf_X9_102 ?_
                          refine g_if_le C (tgt := 174) dX9_town_155 (by decide) (by have hbb := hwt.2.2.2.1; omega) (fun h_41 => ?_) (fun h_41 => ?_)
                          · refine g_aload_n C dX9_town_174 (p := 0) (hi := rfl) (hv := rfl) ?_
                            refine g_iconst C dX9_town_175 ?_
                            refine gm_p_acts C dX9_town_176 wf_X9_171 ?_
                            refine g_iconst C dX9_town_179 ?_
                            refine g_istore_n C hn dX9_town_180 rfl rfl rfl ?_
                            have L181 : ∀ j : Nat, j ≤ 42 → ∀ (x1 : Int), ∀ (τ181 : Mem), x1 = (j : Int) → τ181 = (mr (mu τt 0 8 0) 4 (over (τt 4) (fun k => (τt 5) k) 0 (j : Int))) → G M ad 12 (cfM ad K) 181 [(0, .ref (ad 0)), (1, .int (iI x1))] [] τ181 := by
                              refine loopUp 42 ?_
                              rintro j hj ihj x1 τ181 rfl rfl
                              refine g_iload_n C dX9_town_181 (p := 1) (hi := rfl) (hv := rfl) ?_
                              refine (g_bipush C dX9_town_182 (by decide)) ?_
                              refine g_icmp_ge C (tgt := 205) dX9_town_184 (by decide) (by omega) (by omega) (fun h_42 => ?_) (fun h_42 => ?_)
                              · have hjN : j = 42 := by omega
                                refine g_aload_n C dX9_town_205 (p := 0) (hi := rfl) (hv := rfl) ?_
                                refine gm_g_town C dX9_town_206 wf_X9_19 ?_
                                refine g_iconst C dX9_town_209 ?_
                                refine gm_l_town C dX9_town_210 (by omega) (by omega) ?_
                                refine g_cI (b := ((over (τt 4) (fun k => (τt 5) k) 0 (j : Int)) 2)) (by first | rfl | (rw [mr_app, if_pos rfl]; exact over_out (by omega)) | simp [mu_app, mr_app]) ?_
                                exact hret _ _ _ _ dX9_town_211 (by (try subst hiN); (try subst hjN); subst hqt; unfold twR tw9; (repeat' split) <;> first | (exfalso; omega) | rfl) (by (try subst hiN); (try subst hjN); (try subst hjN); subst hqt; unfold twM tw9; (repeat' split) <;> first | (exfalso; omega) | rfl)
                              · refine g_aload_n C dX9_town_187 (p := 0) (hi := rfl) (hv := rfl) ?_
                                refine gm_g_town C dX9_town_188 wf_X9_19 ?_
                                refine g_iload_n C dX9_town_191 (p := 1) (hi := rfl) (hv := rfl) ?_
                                refine g_aload_n C dX9_town_192 (p := 0) (hi := rfl) (hv := rfl) ?_
                                refine gm_g_fresh C dX9_town_193 wf_X9_22 ?_
                                refine g_iload_n C dX9_town_196 (p := 1) (hi := rfl) (hv := rfl) ?_
                                refine gm_l_fresh C dX9_town_197 (by omega) (by omega) ?_
                                refine g_cI (b := (τt 5 (j : Int))) (by first | rfl | (rw [mr_app, if_pos rfl]; exact over_out (by omega)) | simp [mu_app, mr_app]) ?_
                                refine gm_s_town C dX9_town_198 (by omega) (by omega) ?_
                                refine g_iinc C hn dX9_town_199 (p := 1) rfl rfl rfl ?_
                                refine g_goto C (tgt := 181) dX9_town_202 (by decide) ?_
                                refine g_sub [1, 0] rfl ?_
                                exact ihj (by omega) _ _ (by first | rfl | omega) (by exact over_step (by omega) (by omega) rfl)
                            refine g_sub [1, 0] rfl ?_
                            exact L181 0 (Nat.zero_le _) _ _ (by first | rfl | omega | simp) (by exact over_init (by omega))
                          · refine g_aload_n C dX9_town_158 (p := 0) (hi := rfl) (hv := rfl) ?_
                            refine g_aload_n C dX9_town_159 (p := 0) (hi := rfl) (hv := rfl) ?_
                            refine gm_g_fault C dX9_town_160 wf_X9_102 ?_
                            refine gm_p_latest C dX9_town_163 wf_X9_167 ?_
                            refine g_ldc C (n := (-1000100)) wk_X9_170 (by decide +kernel) dX9_town_166 ?_
                            refine g_aload_n C dX9_town_168 (p := 0) (hi := rfl) (hv := rfl) ?_
                            refine gm_g_faultAt C dX9_town_169 wf_X9_108 ?_
                            refine g_cI (b := (τt 0 18)) (by first | rfl | (rw [mr_app, if_pos rfl]; exact over_out (by omega)) | simp [mu_app, mr_app]) ?_
                            refine g_isub C dX9_town_172 ?_
                            exact hret _ _ _ _ dX9_town_173 (by (try subst hiN); (try subst hjN); subst hqt; unfold twR tw9; (repeat' split) <;> first | (exfalso; omega) | rfl) (by (try subst hiN); (try subst hjN); (try subst hjN); subst hqt; unfold twM tw9; (repeat' split) <;> first | (exfalso; omega) | rfl)
                        · refine g_aload_n C dX9_town_146 (p := 0) (hi := rfl) (hv := rfl) ?_
                          refine g_iconst C dX9_town_147 ?_
                          refine gm_callv C dX9_town_148 (kX9_bad (σ := τt) (k := 1) hap hE (by first | exact p5 | exact hwt)) mw_X9_bad wl_X9_111 (by decide) (by decide) rfl rfl (by simp [Value.category]) ?_
                          refine g_aload_n C dX9_town_151 (p := 0) (hi := rfl) (hv := rfl) ?_
                          refine gm_g_fault C dX9_town_152 wf_X9_102 ?_
                          refine g_if_le C (tgt := 174) dX9_town_155 (by decide) (by have hbb := (badM_PW hwt (k := 1) (by omega)).2.2.2.1; omega) (fun h_43 => ?_) (fun h_43 => ?_)
                          · refine g_aload_n C dX9_town_174 (p := 0) (hi := rfl) (hv := rfl) ?_
                            refine g_iconst C dX9_town_175 ?_
                            refine gm_p_acts C dX9_town_176 wf_X9_171 ?_
                            refine g_iconst C dX9_town_179 ?_
                            refine g_istore_n C hn dX9_town_180 rfl rfl rfl ?_
                            have L181 : ∀ j : Nat, j ≤ 42 → ∀ (x1 : Int), ∀ (τ181 : Mem), x1 = (j : Int) → τ181 = (mr (mu (badM τt 1) 0 8 0) 4 (over ((badM τt 1) 4) (fun k => ((badM τt 1) 5) k) 0 (j : Int))) → G M ad 12 (cfM ad K) 181 [(0, .ref (ad 0)), (1, .int (iI x1))] [] τ181 := by
                              refine loopUp 42 ?_
                              rintro j hj ihj x1 τ181 rfl rfl
                              refine g_iload_n C dX9_town_181 (p := 1) (hi := rfl) (hv := rfl) ?_
                              refine (g_bipush C dX9_town_182 (by decide)) ?_
                              refine g_icmp_ge C (tgt := 205) dX9_town_184 (by decide) (by omega) (by omega) (fun h_44 => ?_) (fun h_44 => ?_)
                              · have hjN : j = 42 := by omega
                                refine g_aload_n C dX9_town_205 (p := 0) (hi := rfl) (hv := rfl) ?_
                                refine gm_g_town C dX9_town_206 wf_X9_19 ?_
                                refine g_iconst C dX9_town_209 ?_
                                refine gm_l_town C dX9_town_210 (by omega) (by omega) ?_
                                refine g_cI (b := ((over ((badM τt 1) 4) (fun k => ((badM τt 1) 5) k) 0 (j : Int)) 2)) (by first | rfl | (rw [mr_app, if_pos rfl]; exact over_out (by omega)) | simp [mu_app, mr_app]) ?_
                                exact hret _ _ _ _ dX9_town_211 (by (try subst hiN); (try subst hjN); subst hqt; unfold twR tw9; (repeat' split) <;> first | (exfalso; omega) | rfl) (by (try subst hiN); (try subst hjN); (try subst hjN); subst hqt; unfold twM tw9; (repeat' split) <;> first | (exfalso; omega) | rfl)
                              · refine g_aload_n C dX9_town_187 (p := 0) (hi := rfl) (hv := rfl) ?_
                                refine gm_g_town C dX9_town_188 wf_X9_19 ?_
                                refine g_iload_n C dX9_town_191 (p := 1) (hi := rfl) (hv := rfl) ?_
                                refine g_aload_n C dX9_town_192 (p := 0) (hi := rfl) (hv := rfl) ?_
                                refine gm_g_fresh C dX9_town_193 wf_X9_22 ?_
                                refine g_iload_n C dX9_town_196 (p := 1) (hi := rfl) (hv := rfl) ?_
                                refine gm_l_fresh C dX9_town_197 (by omega) (by omega) ?_
                                refine g_cI (b := ((badM τt 1) 5 (j : Int))) (by first | rfl | (rw [mr_app, if_pos rfl]; exact over_out (by omega)) | simp [mu_app, mr_app]) ?_
                                refine gm_s_town C dX9_town_198 (by omega) (by omega) ?_
                                refine g_iinc C hn dX9_town_199 (p := 1) rfl rfl rfl ?_
                                refine g_goto C (tgt := 181) dX9_town_202 (by decide) ?_
                                refine g_sub [1, 0] rfl ?_
                                exact ihj (by omega) _ _ (by first | rfl | omega) (by exact over_step (by omega) (by omega) rfl)
                            refine g_sub [1, 0] rfl ?_
                            exact L181 0 (Nat.zero_le _) _ _ (by first | rfl | omega | simp) (by exact over_init (by omega))
                          · refine g_aload_n C dX9_town_158 (p := 0) (hi := rfl) (hv := rfl) ?_
                            refine g_aload_n C dX9_town_159 (p := 0) (hi := rfl) (hv := rfl) ?_
                            refine gm_g_fault C dX9_town_160 wf_X9_102 ?_
                            refine gm_p_latest C dX9_town_163 wf_X9_167 ?_
                            refine g_ldc C (n := (-1000100)) wk_X9_170 (by decide +kernel) dX9_town_166 ?_
                            refine g_aload_n C dX9_town_168 (p := 0) (hi := rfl) (hv := rfl) ?_
                            refine gm_g_faultAt C dX9_town_169 wf_X9_108 ?_
                            refine g_cI (b := ((badM τt 1) 0 18)) (by first | rfl | (rw [mr_app, if_pos rfl]; exact over_out (by omega)) | simp [mu_app, mr_app]) ?_
                            refine g_isub C dX9_town_172 ?_
                            exact hret _ _ _ _ dX9_town_173 (by (try subst hiN); (try subst hjN); subst hqt; unfold twR tw9; (repeat' split) <;> first | (exfalso; omega) | rfl) (by (try subst hiN); (try subst hjN); (try subst hjN); subst hqt; unfold twM tw9; (repeat' split) <;> first | (exfalso; omega) | rfl)
                    · replace h_36 := oCmp_eq.mp h_36
                      refine g_aload_n C dX9_town_124 (p := 0) (hi := rfl) (hv := rfl) ?_
                      refine gm_callv C dX9_town_125 (kX9_readThing (σ := τt) hap hE (by exact hwt)) mw_X9_readThing wl_X9_164 (by decide) (by decide) rfl rfl (by simp [Value.category]) ?_
                      refine g_goto C (tgt := 113) dX9_town_128 (by decide) ?_
                      refine g_sub [0] rfl ?_
                      exact ihm (rtM τt) (kt - 1) (by exact rtM_PW hwt) (by have hd := hdect (by assumption); omega) (by exact (itM_go (step := rtM) (nm := 499967946343) (s := τt) (k := kt) (by assumption) (by have hd := hdect (by assumption); omega)).symm.trans het) (by have hd := hdect (by assumption); omega)
                refine g_sub [0] rfl ?_
                exact L113 _ τp 7 (by exact hwp) (by exact muT_7 hwp) (by rw [hqp]; rfl) (Nat.lt_succ_self _)
              · replace h_35 := oCmp_eq.mp h_35
                refine g_aload_n C dX9_town_106 (p := 0) (hi := rfl) (hv := rfl) ?_
                refine gm_callv C dX9_town_107 (kX9_readPerson (σ := τp) hap hE (by exact hwp)) mw_X9_readPerson wl_X9_159 (by decide) (by decide) rfl rfl (by simp [Value.category]) ?_
                refine g_goto C (tgt := 95) dX9_town_110 (by decide) ?_
                refine g_sub [0] rfl ?_
                exact ihm (rpM τp) (kp - 1) (by exact rpM_PW hwp) (by have hd := hdecp (by assumption); omega) (by exact (itM_go (step := rpM) (nm := 123581014175598) (s := τp) (k := kp) (by assumption) (by have hd := hdecp (by assumption); omega)).symm.trans hep) (by have hd := hdecp (by assumption); omega)
          refine g_sub [0] rfl ?_
          exact L95 _ (badM (tw5 σ) 1) 6 (by first | exact p5 | exact badM_PW p5 (by omega)) (by exact muP_6 (by first | exact p5 | exact badM_PW p5 (by omega))) (by unfold tw7 tw6; first | rw [if_pos (by assumption)] | rw [if_neg (by assumption)]) (Nat.lt_succ_self _)
    · refine g_aload_n C dX9_town_17 (p := 0) (hi := rfl) (hv := rfl) ?_
      refine gm_g_fresh C dX9_town_18 wf_X9_22 ?_
      refine g_iload_n C dX9_town_21 (p := 1) (hi := rfl) (hv := rfl) ?_
      refine g_iconst C dX9_town_22 ?_
      refine gm_s_fresh C dX9_town_23 (by omega) (by omega) ?_
      refine g_iinc C hn dX9_town_24 (p := 1) rfl rfl rfl ?_
      refine g_goto C (tgt := 11) dX9_town_27 (by decide) ?_
      refine g_sub [1, 0] rfl ?_
      exact ihi (by omega) _ _ (by first | rfl | omega) (by exact over_step (by omega) (by omega) rfl)
  refine g_sub [1, 0] rfl ?_
  exact L11 0 (Nat.zero_le _) _ _ (by first | rfl | omega | simp) (by exact over_init (by omega))

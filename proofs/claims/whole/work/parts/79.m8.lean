set_option maxHeartbeats 4000000 in
set_option maxRecDepth 100000 in
theorem kX9_byteAt {l : Launch} {K : Nat → ClassId} {D : va_G} {ad : Int → Nat} {E : gEnv} {σ : Mem} {k : Int} (hap : Apart ad 12) (hE : gEok E) (hl12 : 0 ≤ σ 0 12 ∧ σ 0 12 ≤ 400) (hk0 : 0 ≤ k ∧ k ≤ 400) : CtI l K D ad 12 (cfM ad K) E yX9_byteAt cX9_byteAt 2 (some .int) 0 [.ref (ad 0), .int (iI k)] σ (byF (σ 7) (σ 0 12) k) σ := by
  refine ctI_of hap hE (by decide) rfl .int (nar_i _) (fun M C hn hret => ?_)
  have C : Good l K D ad 12 E 0 cX9_byteAt RX9 M := C
  show G M ad 12 (cfM ad K) 0 [(0, .ref (ad 0)), (1, .int (iI k))] [] σ
  refine g_iload_n C dX9_byteAt_0 (p := 1) (hi := rfl) (hv := rfl) ?_
  refine g_aload_n C dX9_byteAt_1 (p := 0) (hi := rfl) (hv := rfl) ?_
  refine gm_g_length C dX9_byteAt_2 wf_X9_77 ?_
  refine g_icmp_ge C (tgt := 17) dX9_byteAt_5 (by decide) (by omega) (by omega) (fun h_1 => ?_) (fun h_1 => ?_)
  · refine g_ldc C (n := (-1000000)) wk_X9_80 (by decide +kernel) dX9_byteAt_17 ?_
    exact hret _ _ _ _ dX9_byteAt_19 (by first | rfl | omega | (unfold byF; (repeat' split) <;> first | (exfalso; omega) | rfl | exact mu_mu | omega)) (by first | rfl | omega | (unfold byF; (repeat' split) <;> first | (exfalso; omega) | rfl | exact mu_mu | omega))
  · refine g_aload_n C dX9_byteAt_8 (p := 0) (hi := rfl) (hv := rfl) ?_
    refine gm_g_tape C dX9_byteAt_9 wf_X9_28 ?_
    refine g_iload_n C dX9_byteAt_12 (p := 1) (hi := rfl) (hv := rfl) ?_
    refine gm_l_tape C dX9_byteAt_13 (by omega) (by omega) ?_
    refine g_goto C (tgt := 19) dX9_byteAt_14 (by decide) ?_
    exact hret _ _ _ _ dX9_byteAt_19 (by first | rfl | omega | (unfold byF; (repeat' split) <;> first | (exfalso; omega) | rfl | exact mu_mu | omega)) (by first | rfl | omega | (unfold byF; (repeat' split) <;> first | (exfalso; omega) | rfl | exact mu_mu | omega))
set_option maxHeartbeats 4000000 in
set_option maxRecDepth 100000 in
theorem kX9_isLetter {l : Launch} {K : Nat → ClassId} {D : va_G} {ad : Int → Nat} {E : gEnv} {σ : Mem} {c : Int} (hap : Apart ad 12) (hE : gEok E) (rc : R3 c) : CtI l K D ad 12 (cfM ad K) E yX9_isLetter cX9_isLetter 1 (some .boolean) 0 [.int (iI c)] σ (if 97 ≤ c ∧ c ≤ 122 then 1 else 0) σ := by
  refine ctI_of hap hE (by decide) rfl .boolean (nar_z (by split <;> simp)) (fun M C hn hret => ?_)
  have C : Good l K D ad 12 E 0 cX9_isLetter RX9 M := C
  show G M ad 12 (cfM ad K) 0 [(0, .int (iI c))] [] σ
  refine g_iload_n C dX9_isLetter_0 (p := 0) (hi := rfl) (hv := rfl) ?_
  refine (g_bipush C dX9_isLetter_1 (by decide)) ?_
  refine g_icmp_lt C (tgt := 16) dX9_isLetter_3 (by decide) (by omega) (by omega) (fun h_1 => ?_) (fun h_1 => ?_)
  · refine g_iconst C dX9_isLetter_16 ?_
    exact hret _ _ _ _ dX9_isLetter_17 (by first | rfl | omega | ((repeat' split) <;> first | (exfalso; omega) | rfl | exact mu_mu | omega)) (by first | rfl | omega | ((repeat' split) <;> first | (exfalso; omega) | rfl | exact mu_mu | omega))
  · refine g_iload_n C dX9_isLetter_6 (p := 0) (hi := rfl) (hv := rfl) ?_
    refine (g_bipush C dX9_isLetter_7 (by decide)) ?_
    refine g_icmp_gt C (tgt := 16) dX9_isLetter_9 (by decide) (by omega) (by omega) (fun h_2 => ?_) (fun h_2 => ?_)
    · refine g_iconst C dX9_isLetter_16 ?_
      exact hret _ _ _ _ dX9_isLetter_17 (by first | rfl | omega | ((repeat' split) <;> first | (exfalso; omega) | rfl | exact mu_mu | omega)) (by first | rfl | omega | ((repeat' split) <;> first | (exfalso; omega) | rfl | exact mu_mu | omega))
    · refine g_iconst C dX9_isLetter_12 ?_
      refine g_goto C (tgt := 17) dX9_isLetter_13 (by decide) ?_
      exact hret _ _ _ _ dX9_isLetter_17 (by first | rfl | omega | ((repeat' split) <;> first | (exfalso; omega) | rfl | exact mu_mu | omega)) (by first | rfl | omega | ((repeat' split) <;> first | (exfalso; omega) | rfl | exact mu_mu | omega))
set_option maxHeartbeats 4000000 in
set_option maxRecDepth 100000 in
theorem kX9_isFigure {l : Launch} {K : Nat → ClassId} {D : va_G} {ad : Int → Nat} {E : gEnv} {σ : Mem} {c : Int} (hap : Apart ad 12) (hE : gEok E) (rc : R3 c) : CtI l K D ad 12 (cfM ad K) E yX9_isFigure cX9_isFigure 1 (some .boolean) 0 [.int (iI c)] σ (if 48 ≤ c ∧ c ≤ 57 then 1 else 0) σ := by
  refine ctI_of hap hE (by decide) rfl .boolean (nar_z (by split <;> simp)) (fun M C hn hret => ?_)
  have C : Good l K D ad 12 E 0 cX9_isFigure RX9 M := C
  show G M ad 12 (cfM ad K) 0 [(0, .int (iI c))] [] σ
  refine g_iload_n C dX9_isFigure_0 (p := 0) (hi := rfl) (hv := rfl) ?_
  refine (g_bipush C dX9_isFigure_1 (by decide)) ?_
  refine g_icmp_lt C (tgt := 16) dX9_isFigure_3 (by decide) (by omega) (by omega) (fun h_1 => ?_) (fun h_1 => ?_)
  · refine g_iconst C dX9_isFigure_16 ?_
    exact hret _ _ _ _ dX9_isFigure_17 (by first | rfl | omega | ((repeat' split) <;> first | (exfalso; omega) | rfl | exact mu_mu | omega)) (by first | rfl | omega | ((repeat' split) <;> first | (exfalso; omega) | rfl | exact mu_mu | omega))
  · refine g_iload_n C dX9_isFigure_6 (p := 0) (hi := rfl) (hv := rfl) ?_
    refine (g_bipush C dX9_isFigure_7 (by decide)) ?_
    refine g_icmp_gt C (tgt := 16) dX9_isFigure_9 (by decide) (by omega) (by omega) (fun h_2 => ?_) (fun h_2 => ?_)
    · refine g_iconst C dX9_isFigure_16 ?_
      exact hret _ _ _ _ dX9_isFigure_17 (by first | rfl | omega | ((repeat' split) <;> first | (exfalso; omega) | rfl | exact mu_mu | omega)) (by first | rfl | omega | ((repeat' split) <;> first | (exfalso; omega) | rfl | exact mu_mu | omega))
    · refine g_iconst C dX9_isFigure_12 ?_
      refine g_goto C (tgt := 17) dX9_isFigure_13 (by decide) ?_
      exact hret _ _ _ _ dX9_isFigure_17 (by first | rfl | omega | ((repeat' split) <;> first | (exfalso; omega) | rfl | exact mu_mu | omega)) (by first | rfl | omega | ((repeat' split) <;> first | (exfalso; omega) | rfl | exact mu_mu | omega))
set_option maxHeartbeats 4000000 in
set_option maxRecDepth 100000 in
theorem kX9_next {l : Launch} {K : Nat → ClassId} {D : va_G} {ad : Int → Nat} {E : gEnv} {σ : Mem} (hap : Apart ad 12) (hE : gEok E) (htp : TPW σ) : CtV l K D ad 12 (cfM ad K) E yX9_next cX9_next 2 none 1 [.ref (ad 0)] σ (nxtM σ) := by
  have hb7 := htp.1
  have h12 := htp.2.1
  have h13 := htp.2.2
  refine ctV_of hap hE (by decide) rfl (fun M C hn hret => ?_)
  have C : Good l K D ad 12 E 1 cX9_next RX9 M := C
  show G M ad 12 (cfM ad K) 0 [(0, .ref (ad 0))] [] σ
  have L0 : ∀ (m : Nat) (xa : Int), ((0 : Int) ≤ xa ∧ xa ≤ σ 0 12) → (scan (blB (σ 7) (σ 0 12)) (σ 0 12) xa = scan (blB (σ 7) (σ 0 12)) (σ 0 12) (σ 0 13)) → (σ 0 12 - xa).toNat < m → G M ad 12 (cfM ad K) 0 [(0, .ref (ad 0))] [] (mu σ 0 13 xa) := by
    intro m; induction m with
    | zero => intros; omega
    | succ m ihm =>
      intro xa hxxa hsxa hmeas
      have hby := byF_x (n := σ 0 12) (k := xa) hb7
      have hbx := @blB_x (σ 7) (σ 0 12) xa
      refine g_aload_n C dX9_next_0 (p := 0) (hi := rfl) (hv := rfl) ?_
      refine g_aload_n C dX9_next_1 (p := 0) (hi := rfl) (hv := rfl) ?_
      refine gm_g_cursor C dX9_next_2 wf_X9_81 ?_
      refine g_cI (b := xa) (by first | rfl | (rw [mr_app, if_pos rfl]; exact over_out (by omega)) | simp [mu_app, mr_app]) ?_
      refine gm_call C dX9_next_5 (kX9_byteAt (σ := (mu σ 0 13 xa)) (k := xa) hap hE (by show 0 ≤ σ 0 12 ∧ σ 0 12 ≤ 400; first | assumption | omega | exact htp) (by first | assumption | omega | exact htp)) mw_X9_byteAt wl_X9_84 (by decide) (by decide) rfl rfl (by simp [Value.category]) ?_
      refine g_cI (b := (byF (σ 7) (σ 0 12) xa)) (by first | rfl | (congr 1 <;> first | rfl | exact over_out (by omega)) | (congr 2 <;> first | rfl | exact over_out (by omega)) | simp [mu_app, mr_app]) ?_
      refine (g_bipush C dX9_next_8 (by decide)) ?_
      refine g_icmp_eq C (tgt := 26) dX9_next_10 (by decide) (by omega) (by omega) (fun h_1 => ?_) (fun h_1 => ?_)
      · refine g_aload_n C dX9_next_26 (p := 0) (hi := rfl) (hv := rfl) ?_
        refine g_dup C dX9_next_27 rfl ?_
        refine gm_g_cursor C dX9_next_28 wf_X9_81 ?_
        refine g_cI (b := xa) (by first | rfl | (rw [mr_app, if_pos rfl]; exact over_out (by omega)) | simp [mu_app, mr_app]) ?_
        refine g_iconst C dX9_next_31 ?_
        refine g_iadd C dX9_next_32 ?_
        refine gm_p_cursor C dX9_next_33 wf_X9_81 ?_
        refine g_eq rfl rfl rfl mu_mu ?_
        refine g_goto C (tgt := 0) dX9_next_36 (by decide) ?_
        refine g_sub [0] rfl ?_
        exact ihm (xa + 1) (by first | rfl | assumption | omega) (by rw [← scan_step (by omega) (by omega)]; assumption) (by omega)
      · refine g_aload_n C dX9_next_13 (p := 0) (hi := rfl) (hv := rfl) ?_
        refine g_aload_n C dX9_next_14 (p := 0) (hi := rfl) (hv := rfl) ?_
        refine gm_g_cursor C dX9_next_15 wf_X9_81 ?_
        refine g_cI (b := xa) (by first | rfl | (rw [mr_app, if_pos rfl]; exact over_out (by omega)) | simp [mu_app, mr_app]) ?_
        refine gm_call C dX9_next_18 (kX9_byteAt (σ := (mu σ 0 13 xa)) (k := xa) hap hE (by show 0 ≤ σ 0 12 ∧ σ 0 12 ≤ 400; first | assumption | omega | exact htp) (by first | assumption | omega | exact htp)) mw_X9_byteAt wl_X9_84 (by decide) (by decide) rfl rfl (by simp [Value.category]) ?_
        refine g_cI (b := (byF (σ 7) (σ 0 12) xa)) (by first | rfl | (congr 1 <;> first | rfl | exact over_out (by omega)) | (congr 2 <;> first | rfl | exact over_out (by omega)) | simp [mu_app, mr_app]) ?_
        refine (g_bipush C dX9_next_21 (by decide)) ?_
        refine g_icmp_ne C (tgt := 39) dX9_next_23 (by decide) (by omega) (by omega) (fun h_2 => ?_) (fun h_2 => ?_)
        · have exa : xa = scan (blB (σ 7) (σ 0 12)) (σ 0 12) (σ 0 13) := by rw [← hsxa, scan_stop (by omega)]
          refine g_aload_n C dX9_next_39 (p := 0) (hi := rfl) (hv := rfl) ?_
          refine g_aload_n C dX9_next_40 (p := 0) (hi := rfl) (hv := rfl) ?_
          refine gm_g_cursor C dX9_next_41 wf_X9_81 ?_
          refine g_cI (b := xa) (by first | rfl | (rw [mr_app, if_pos rfl]; exact over_out (by omega)) | simp [mu_app, mr_app]) ?_
          refine gm_p_start C dX9_next_44 wf_X9_87 ?_
          refine g_aload_n C dX9_next_47 (p := 0) (hi := rfl) (hv := rfl) ?_
          refine g_aload_n C dX9_next_48 (p := 0) (hi := rfl) (hv := rfl) ?_
          refine gm_g_cursor C dX9_next_49 wf_X9_81 ?_
          refine g_cI (b := xa) (by first | rfl | (rw [mr_app, if_pos rfl]; exact over_out (by omega)) | simp [mu_app, mr_app]) ?_
          refine gm_call C dX9_next_52 (kX9_byteAt (σ := (mu (mu σ 0 13 xa) 0 15 xa)) (k := xa) hap hE (by show 0 ≤ σ 0 12 ∧ σ 0 12 ≤ 400; first | assumption | omega | exact htp) (by first | assumption | omega | exact htp)) mw_X9_byteAt wl_X9_84 (by decide) (by decide) rfl rfl (by simp [Value.category]) ?_
          refine g_cI (b := (byF (σ 7) (σ 0 12) xa)) (by first | rfl | (congr 1 <;> first | rfl | exact over_out (by omega)) | (congr 2 <;> first | rfl | exact over_out (by omega)) | simp [mu_app, mr_app]) ?_
          refine g_istore_n C hn dX9_next_55 rfl rfl rfl ?_
          refine g_iload_n C dX9_next_56 (p := 0) (hi := rfl) (hv := rfl) ?_
          refine g_ldc C (n := (-1000000)) wk_X9_80 (by decide +kernel) dX9_next_57 ?_
          refine g_icmp_ne C (tgt := 70) dX9_next_59 (by decide) (by omega) (by omega) (fun h_3 => ?_) (fun h_3 => ?_)
          · refine g_iload_n C dX9_next_70 (p := 0) (hi := rfl) (hv := rfl) ?_
            refine g_callS C dX9_next_71 (kX9_isLetter (σ := (mu (mu σ 0 13 xa) 0 15 xa)) (c := byF (σ 7) (σ 0 12) xa) hap hE (by first | assumption | omega | exact htp)) mw_X9_isLetter wl_X9_93 (by decide) (by decide) rfl rfl (by simp [Value.category]) ?_
            refine g_if_eq C (tgt := 112) dX9_next_74 (by decide) (by omega) (fun h_4 => ?_) (fun h_4 => ?_)
            · refine g_iload_n C dX9_next_112 (p := 0) (hi := rfl) (hv := rfl) ?_
              refine g_callS C dX9_next_113 (kX9_isFigure (σ := (mu (mu σ 0 13 xa) 0 15 xa)) (c := byF (σ 7) (σ 0 12) xa) hap hE (by first | assumption | omega | exact htp)) mw_X9_isFigure wl_X9_96 (by decide) (by decide) rfl rfl (by simp [Value.category]) ?_
              refine g_if_eq C (tgt := 171) dX9_next_116 (by decide) (by omega) (fun h_5 => ?_) (fun h_5 => ?_)
              · refine g_aload_n C dX9_next_171 (p := 1) (hi := rfl) (hv := rfl) ?_
                refine g_dup C dX9_next_172 rfl ?_
                refine gm_g_cursor C dX9_next_173 wf_X9_81 ?_
                refine g_cI (b := xa) (by first | rfl | (rw [mr_app, if_pos rfl]; exact over_out (by omega)) | simp [mu_app, mr_app]) ?_
                refine g_iconst C dX9_next_176 ?_
                refine g_iadd C dX9_next_177 ?_
                refine gm_p_cursor C dX9_next_178 wf_X9_81 ?_
                refine g_aload_n C dX9_next_181 (p := 1) (hi := rfl) (hv := rfl) ?_
                refine g_iload_n C dX9_next_182 (p := 0) (hi := rfl) (hv := rfl) ?_
                refine (g_bipush C dX9_next_183 (by decide)) ?_
                refine g_icmp_ne C (tgt := 192) dX9_next_185 (by decide) (by omega) (by omega) (fun h_6 => ?_) (fun h_6 => ?_)
                · refine g_iconst C dX9_next_192 ?_
                  refine gm_p_token C dX9_next_193 wf_X9_90 ?_
                  refine g_aload_n C dX9_next_196 (p := 1) (hi := rfl) (hv := rfl) ?_
                  refine g_aload_n C dX9_next_197 (p := 1) (hi := rfl) (hv := rfl) ?_
                  refine gm_g_cursor C dX9_next_198 wf_X9_81 ?_
                  refine g_cI (b := (xa + 1)) (by first | rfl | (rw [mr_app, if_pos rfl]; exact over_out (by omega)) | simp [mu_app, mr_app]) ?_
                  refine gm_p_till C dX9_next_201 wf_X9_99 ?_
                  exact hret _ _ _ dX9_next_204 (by (have hS : tkS (σ 7) (σ 0 12) (σ 0 13) = xa := exa.symm); first | (rw [nx_eq2]; exact nx_fin hS (by unfold tkE; rw [hS]; (repeat' split) <;> first | (exfalso; omega) | exact exb.symm | exact exc.symm | rfl) (by unfold tkT tkE; rw [hS]; (repeat' split) <;> first | (exfalso; omega) | rfl | (rw [← exb] at *; exfalso; omega) | (rw [← exc] at *; exfalso; omega) | omega)) | (rw [nx_eq1]; exact nx_fin hS (by unfold tkE; rw [hS]; (repeat' split) <;> first | (exfalso; omega) | exact exb.symm | exact exc.symm | rfl) (by unfold tkT tkE; rw [hS]; (repeat' split) <;> first | (exfalso; omega) | rfl | (rw [← exb] at *; exfalso; omega) | (rw [← exc] at *; exfalso; omega) | omega)))
                · refine g_iconst C dX9_next_188 ?_
                  refine g_goto C (tgt := 193) dX9_next_189 (by decide) ?_
                  refine gm_p_token C dX9_next_193 wf_X9_90 ?_
                  refine g_aload_n C dX9_next_196 (p := 1) (hi := rfl) (hv := rfl) ?_
                  refine g_aload_n C dX9_next_197 (p := 1) (hi := rfl) (hv := rfl) ?_
                  refine gm_g_cursor C dX9_next_198 wf_X9_81 ?_
                  refine g_cI (b := (xa + 1)) (by first | rfl | (rw [mr_app, if_pos rfl]; exact over_out (by omega)) | simp [mu_app, mr_app]) ?_
                  refine gm_p_till C dX9_next_201 wf_X9_99 ?_
                  exact hret _ _ _ dX9_next_204 (by (have hS : tkS (σ 7) (σ 0 12) (σ 0 13) = xa := exa.symm); first | (rw [nx_eq2]; exact nx_fin hS (by unfold tkE; rw [hS]; (repeat' split) <;> first | (exfalso; omega) | exact exb.symm | exact exc.symm | rfl) (by unfold tkT tkE; rw [hS]; (repeat' split) <;> first | (exfalso; omega) | rfl | (rw [← exb] at *; exfalso; omega) | (rw [← exc] at *; exfalso; omega) | omega)) | (rw [nx_eq1]; exact nx_fin hS (by unfold tkE; rw [hS]; (repeat' split) <;> first | (exfalso; omega) | exact exb.symm | exact exc.symm | rfl) (by unfold tkT tkE; rw [hS]; (repeat' split) <;> first | (exfalso; omega) | rfl | (rw [← exb] at *; exfalso; omega) | (rw [← exc] at *; exfalso; omega) | omega)))
              · have L119 : ∀ (m : Nat) (xc : Int), ((0 : Int) ≤ xc ∧ xc ≤ σ 0 12) → (scan (fiB (σ 7) (σ 0 12)) (σ 0 12) xc = scan (fiB (σ 7) (σ 0 12)) (σ 0 12) xa) → (σ 0 12 - xc).toNat < m → G M ad 12 (cfM ad K) 119 [(0, .ref (ad 0)), (1, .int (iI (byF (σ 7) (σ 0 12) xa)))] [] (mu (mu (mu σ 0 13 xa) 0 15 xa) 0 13 xc) := by
                  intro m; induction m with
                  | zero => intros; omega
                  | succ m ihm =>
                    intro xc hxxc hsxc hmeas
                    have hby := byF_x (n := σ 0 12) (k := xc) hb7
                    have hbx := @fiB_x (σ 7) (σ 0 12) xc
                    refine g_aload_n C dX9_next_119 (p := 0) (hi := rfl) (hv := rfl) ?_
                    refine g_aload_n C dX9_next_120 (p := 0) (hi := rfl) (hv := rfl) ?_
                    refine gm_g_cursor C dX9_next_121 wf_X9_81 ?_
                    refine g_cI (b := xc) (by first | rfl | (rw [mr_app, if_pos rfl]; exact over_out (by omega)) | simp [mu_app, mr_app]) ?_
                    refine gm_call C dX9_next_124 (kX9_byteAt (σ := (mu (mu (mu σ 0 13 xa) 0 15 xa) 0 13 xc)) (k := xc) hap hE (by show 0 ≤ σ 0 12 ∧ σ 0 12 ≤ 400; first | assumption | omega | exact htp) (by first | assumption | omega | exact htp)) mw_X9_byteAt wl_X9_84 (by decide) (by decide) rfl rfl (by simp [Value.category]) ?_
                    refine g_cI (b := (byF (σ 7) (σ 0 12) xc)) (by first | rfl | (congr 1 <;> first | rfl | exact over_out (by omega)) | (congr 2 <;> first | rfl | exact over_out (by omega)) | simp [mu_app, mr_app]) ?_
                    refine g_callS C dX9_next_127 (kX9_isFigure (σ := (mu (mu (mu σ 0 13 xa) 0 15 xa) 0 13 xc)) (c := byF (σ 7) (σ 0 12) xc) hap hE (by first | assumption | omega | exact htp)) mw_X9_isFigure wl_X9_96 (by decide) (by decide) rfl rfl (by simp [Value.category]) ?_
                    refine g_if_eq C (tgt := 146) dX9_next_130 (by decide) (by omega) (fun h_7 => ?_) (fun h_7 => ?_)
                    · have exc : xc = scan (fiB (σ 7) (σ 0 12)) (σ 0 12) xa := by rw [← hsxc, scan_stop (by omega)]
                      refine g_aload_n C dX9_next_146 (p := 0) (hi := rfl) (hv := rfl) ?_
                      refine g_aload_n C dX9_next_147 (p := 0) (hi := rfl) (hv := rfl) ?_
                      refine gm_g_cursor C dX9_next_148 wf_X9_81 ?_
                      refine g_cI (b := xc) (by first | rfl | (rw [mr_app, if_pos rfl]; exact over_out (by omega)) | simp [mu_app, mr_app]) ?_
                      refine g_aload_n C dX9_next_151 (p := 0) (hi := rfl) (hv := rfl) ?_
                      refine gm_g_start C dX9_next_152 wf_X9_87 ?_
                      refine g_cI (b := xa) (by first | rfl | (rw [mr_app, if_pos rfl]; exact over_out (by omega)) | simp [mu_app, mr_app]) ?_
                      refine g_isub C dX9_next_155 ?_
                      refine g_iconst C dX9_next_156 ?_
                      refine g_icmp_le C (tgt := 164) dX9_next_157 (by decide) (by omega) (by omega) (fun h_8 => ?_) (fun h_8 => ?_)
                      · refine g_iconst C dX9_next_164 ?_
                        refine gm_p_token C dX9_next_165 wf_X9_90 ?_
                        refine g_goto C (tgt := 196) dX9_next_168 (by decide) ?_
                        refine g_aload_n C dX9_next_196 (p := 0) (hi := rfl) (hv := rfl) ?_
                        refine g_aload_n C dX9_next_197 (p := 0) (hi := rfl) (hv := rfl) ?_
                        refine gm_g_cursor C dX9_next_198 wf_X9_81 ?_
                        refine g_cI (b := xc) (by first | rfl | (rw [mr_app, if_pos rfl]; exact over_out (by omega)) | simp [mu_app, mr_app]) ?_
                        refine gm_p_till C dX9_next_201 wf_X9_99 ?_
                        exact hret _ _ _ dX9_next_204 (by (have hS : tkS (σ 7) (σ 0 12) (σ 0 13) = xa := exa.symm); first | (rw [nx_eq2]; exact nx_fin hS (by unfold tkE; rw [hS]; (repeat' split) <;> first | (exfalso; omega) | exact exb.symm | exact exc.symm | rfl) (by unfold tkT tkE; rw [hS]; (repeat' split) <;> first | (exfalso; omega) | rfl | (rw [← exb] at *; exfalso; omega) | (rw [← exc] at *; exfalso; omega) | omega)) | (rw [nx_eq1]; exact nx_fin hS (by unfold tkE; rw [hS]; (repeat' split) <;> first | (exfalso; omega) | exact exb.symm | exact exc.symm | rfl) (by unfold tkT tkE; rw [hS]; (repeat' split) <;> first | (exfalso; omega) | rfl | (rw [← exb] at *; exfalso; omega) | (rw [← exc] at *; exfalso; omega) | omega)))
                      · refine g_iconst C dX9_next_160 ?_
                        refine g_goto C (tgt := 165) dX9_next_161 (by decide) ?_
                        refine gm_p_token C dX9_next_165 wf_X9_90 ?_
                        refine g_goto C (tgt := 196) dX9_next_168 (by decide) ?_
                        refine g_aload_n C dX9_next_196 (p := 0) (hi := rfl) (hv := rfl) ?_
                        refine g_aload_n C dX9_next_197 (p := 0) (hi := rfl) (hv := rfl) ?_
                        refine gm_g_cursor C dX9_next_198 wf_X9_81 ?_
                        refine g_cI (b := xc) (by first | rfl | (rw [mr_app, if_pos rfl]; exact over_out (by omega)) | simp [mu_app, mr_app]) ?_
                        refine gm_p_till C dX9_next_201 wf_X9_99 ?_
                        exact hret _ _ _ dX9_next_204 (by (have hS : tkS (σ 7) (σ 0 12) (σ 0 13) = xa := exa.symm); first | (rw [nx_eq2]; exact nx_fin hS (by unfold tkE; rw [hS]; (repeat' split) <;> first | (exfalso; omega) | exact exb.symm | exact exc.symm | rfl) (by unfold tkT tkE; rw [hS]; (repeat' split) <;> first | (exfalso; omega) | rfl | (rw [← exb] at *; exfalso; omega) | (rw [← exc] at *; exfalso; omega) | omega)) | (rw [nx_eq1]; exact nx_fin hS (by unfold tkE; rw [hS]; (repeat' split) <;> first | (exfalso; omega) | exact exb.symm | exact exc.symm | rfl) (by unfold tkT tkE; rw [hS]; (repeat' split) <;> first | (exfalso; omega) | rfl | (rw [← exb] at *; exfalso; omega) | (rw [← exc] at *; exfalso; omega) | omega)))
                    · refine g_aload_n C dX9_next_133 (p := 0) (hi := rfl) (hv := rfl) ?_
                      refine g_dup C dX9_next_134 rfl ?_
                      refine gm_g_cursor C dX9_next_135 wf_X9_81 ?_
                      refine g_cI (b := xc) (by first | rfl | (rw [mr_app, if_pos rfl]; exact over_out (by omega)) | simp [mu_app, mr_app]) ?_
                      refine g_iconst C dX9_next_138 ?_
                      refine g_iadd C dX9_next_139 ?_
                      refine gm_p_cursor C dX9_next_140 wf_X9_81 ?_
                      refine g_eq rfl rfl rfl mu_mu ?_
                      refine g_goto C (tgt := 119) dX9_next_143 (by decide) ?_
                      refine g_sub [0, 1] rfl ?_
                      exact ihm (xc + 1) (by first | rfl | assumption | omega) (by rw [← scan_step (by omega) (by omega)]; assumption) (by omega)
                refine g_sub [1, 0] rfl ?_
                refine g_eq (σ' := (mu (mu (mu σ 0 13 xa) 0 15 xa) 0 13 xa)) rfl rfl rfl (by exact (mu_self rfl).symm) ?_
                exact L119 _ xa (by first | rfl | assumption | omega) (by first | rfl | assumption | omega) (Nat.lt_succ_self _)
            · have L77 : ∀ (m : Nat) (xb : Int), ((0 : Int) ≤ xb ∧ xb ≤ σ 0 12) → (scan (leB (σ 7) (σ 0 12)) (σ 0 12) xb = scan (leB (σ 7) (σ 0 12)) (σ 0 12) xa) → (σ 0 12 - xb).toNat < m → G M ad 12 (cfM ad K) 77 [(0, .ref (ad 0)), (1, .int (iI (byF (σ 7) (σ 0 12) xa)))] [] (mu (mu (mu σ 0 13 xa) 0 15 xa) 0 13 xb) := by
                intro m; induction m with
                | zero => intros; omega
                | succ m ihm =>
                  intro xb hxxb hsxb hmeas
                  have hby := byF_x (n := σ 0 12) (k := xb) hb7
                  have hbx := @leB_x (σ 7) (σ 0 12) xb
                  refine g_aload_n C dX9_next_77 (p := 0) (hi := rfl) (hv := rfl) ?_
                  refine g_aload_n C dX9_next_78 (p := 0) (hi := rfl) (hv := rfl) ?_
                  refine gm_g_cursor C dX9_next_79 wf_X9_81 ?_
                  refine g_cI (b := xb) (by first | rfl | (rw [mr_app, if_pos rfl]; exact over_out (by omega)) | simp [mu_app, mr_app]) ?_
                  refine gm_call C dX9_next_82 (kX9_byteAt (σ := (mu (mu (mu σ 0 13 xa) 0 15 xa) 0 13 xb)) (k := xb) hap hE (by show 0 ≤ σ 0 12 ∧ σ 0 12 ≤ 400; first | assumption | omega | exact htp) (by first | assumption | omega | exact htp)) mw_X9_byteAt wl_X9_84 (by decide) (by decide) rfl rfl (by simp [Value.category]) ?_
                  refine g_cI (b := (byF (σ 7) (σ 0 12) xb)) (by first | rfl | (congr 1 <;> first | rfl | exact over_out (by omega)) | (congr 2 <;> first | rfl | exact over_out (by omega)) | simp [mu_app, mr_app]) ?_
                  refine g_callS C dX9_next_85 (kX9_isLetter (σ := (mu (mu (mu σ 0 13 xa) 0 15 xa) 0 13 xb)) (c := byF (σ 7) (σ 0 12) xb) hap hE (by first | assumption | omega | exact htp)) mw_X9_isLetter wl_X9_93 (by decide) (by decide) rfl rfl (by simp [Value.category]) ?_
                  refine g_if_eq C (tgt := 104) dX9_next_88 (by decide) (by omega) (fun h_9 => ?_) (fun h_9 => ?_)
                  · have exb : xb = scan (leB (σ 7) (σ 0 12)) (σ 0 12) xa := by rw [← hsxb, scan_stop (by omega)]
                    refine g_aload_n C dX9_next_104 (p := 0) (hi := rfl) (hv := rfl) ?_
                    refine g_iconst C dX9_next_105 ?_
                    refine gm_p_token C dX9_next_106 wf_X9_90 ?_
                    refine g_goto C (tgt := 196) dX9_next_109 (by decide) ?_
                    refine g_aload_n C dX9_next_196 (p := 0) (hi := rfl) (hv := rfl) ?_
                    refine g_aload_n C dX9_next_197 (p := 0) (hi := rfl) (hv := rfl) ?_
                    refine gm_g_cursor C dX9_next_198 wf_X9_81 ?_
                    refine g_cI (b := xb) (by first | rfl | (rw [mr_app, if_pos rfl]; exact over_out (by omega)) | simp [mu_app, mr_app]) ?_
                    refine gm_p_till C dX9_next_201 wf_X9_99 ?_
                    exact hret _ _ _ dX9_next_204 (by (have hS : tkS (σ 7) (σ 0 12) (σ 0 13) = xa := exa.symm); first | (rw [nx_eq2]; exact nx_fin hS (by unfold tkE; rw [hS]; (repeat' split) <;> first | (exfalso; omega) | exact exb.symm | exact exc.symm | rfl) (by unfold tkT tkE; rw [hS]; (repeat' split) <;> first | (exfalso; omega) | rfl | (rw [← exb] at *; exfalso; omega) | (rw [← exc] at *; exfalso; omega) | omega)) | (rw [nx_eq1]; exact nx_fin hS (by unfold tkE; rw [hS]; (repeat' split) <;> first | (exfalso; omega) | exact exb.symm | exact exc.symm | rfl) (by unfold tkT tkE; rw [hS]; (repeat' split) <;> first | (exfalso; omega) | rfl | (rw [← exb] at *; exfalso; omega) | (rw [← exc] at *; exfalso; omega) | omega)))
                  · refine g_aload_n C dX9_next_91 (p := 0) (hi := rfl) (hv := rfl) ?_
                    refine g_dup C dX9_next_92 rfl ?_
                    refine gm_g_cursor C dX9_next_93 wf_X9_81 ?_
                    refine g_cI (b := xb) (by first | rfl | (rw [mr_app, if_pos rfl]; exact over_out (by omega)) | simp [mu_app, mr_app]) ?_
                    refine g_iconst C dX9_next_96 ?_
                    refine g_iadd C dX9_next_97 ?_
                    refine gm_p_cursor C dX9_next_98 wf_X9_81 ?_
                    refine g_eq rfl rfl rfl mu_mu ?_
                    refine g_goto C (tgt := 77) dX9_next_101 (by decide) ?_
                    refine g_sub [0, 1] rfl ?_
                    exact ihm (xb + 1) (by first | rfl | assumption | omega) (by rw [← scan_step (by omega) (by omega)]; assumption) (by omega)
              refine g_sub [1, 0] rfl ?_
              refine g_eq (σ' := (mu (mu (mu σ 0 13 xa) 0 15 xa) 0 13 xa)) rfl rfl rfl (by exact (mu_self rfl).symm) ?_
              exact L77 _ xa (by first | rfl | assumption | omega) (by first | rfl | assumption | omega) (Nat.lt_succ_self _)
          · refine g_aload_n C dX9_next_62 (p := 1) (hi := rfl) (hv := rfl) ?_
            refine g_iconst C dX9_next_63 ?_
            refine gm_p_token C dX9_next_64 wf_X9_90 ?_
            refine g_goto C (tgt := 196) dX9_next_67 (by decide) ?_
            refine g_aload_n C dX9_next_196 (p := 1) (hi := rfl) (hv := rfl) ?_
            refine g_aload_n C dX9_next_197 (p := 1) (hi := rfl) (hv := rfl) ?_
            refine gm_g_cursor C dX9_next_198 wf_X9_81 ?_
            refine g_cI (b := xa) (by first | rfl | (rw [mr_app, if_pos rfl]; exact over_out (by omega)) | simp [mu_app, mr_app]) ?_
            refine gm_p_till C dX9_next_201 wf_X9_99 ?_
            exact hret _ _ _ dX9_next_204 (by (have hS : tkS (σ 7) (σ 0 12) (σ 0 13) = xa := exa.symm); first | (rw [nx_eq2]; exact nx_fin hS (by unfold tkE; rw [hS]; (repeat' split) <;> first | (exfalso; omega) | exact exb.symm | exact exc.symm | rfl) (by unfold tkT tkE; rw [hS]; (repeat' split) <;> first | (exfalso; omega) | rfl | (rw [← exb] at *; exfalso; omega) | (rw [← exc] at *; exfalso; omega) | omega)) | (rw [nx_eq1]; exact nx_fin hS (by unfold tkE; rw [hS]; (repeat' split) <;> first | (exfalso; omega) | exact exb.symm | exact exc.symm | rfl) (by unfold tkT tkE; rw [hS]; (repeat' split) <;> first | (exfalso; omega) | rfl | (rw [← exb] at *; exfalso; omega) | (rw [← exc] at *; exfalso; omega) | omega)))
        · refine g_aload_n C dX9_next_26 (p := 0) (hi := rfl) (hv := rfl) ?_
          refine g_dup C dX9_next_27 rfl ?_
          refine gm_g_cursor C dX9_next_28 wf_X9_81 ?_
          refine g_cI (b := xa) (by first | rfl | (rw [mr_app, if_pos rfl]; exact over_out (by omega)) | simp [mu_app, mr_app]) ?_
          refine g_iconst C dX9_next_31 ?_
          refine g_iadd C dX9_next_32 ?_
          refine gm_p_cursor C dX9_next_33 wf_X9_81 ?_
          refine g_eq rfl rfl rfl mu_mu ?_
          refine g_goto C (tgt := 0) dX9_next_36 (by decide) ?_
          refine g_sub [0] rfl ?_
          exact ihm (xa + 1) (by first | rfl | assumption | omega) (by rw [← scan_step (by omega) (by omega)]; assumption) (by omega)
  refine g_sub [0] rfl ?_
  refine g_eq (σ' := (mu σ 0 13 (σ 0 13))) rfl rfl rfl (by exact (mu_self rfl).symm) ?_
  exact L0 _ (σ 0 13) (by first | rfl | assumption | omega) (by first | rfl | assumption | omega) (Nat.lt_succ_self _)
set_option maxHeartbeats 4000000 in
set_option maxRecDepth 100000 in
theorem kX9_begin {l : Launch} {K : Nat → ClassId} {D : va_G} {ad : Int → Nat} {E : gEnv} {σ : Mem} (hap : Apart ad 12) (hE : gEok E) (hb7 : ∀ k : Int, 0 ≤ σ 7 k ∧ σ 7 k ≤ 255) (hta : 0 ≤ σ 0 10 ∧ σ 0 10 ≤ 400) : CtV l K D ad 12 (cfM ad K) E yX9_begin cX9_begin 1 none 2 [.ref (ad 0)] σ (bgnM σ) := by
  refine ctV_of hap hE (by decide) rfl (fun M C hn hret => ?_)
  have C : Good l K D ad 12 E 2 cX9_begin RX9 M := C
  show G M ad 12 (cfM ad K) 0 [(0, .ref (ad 0))] [] σ
  refine g_aload_n C dX9_begin_0 (p := 0) (hi := rfl) (hv := rfl) ?_
  refine g_aload_n C dX9_begin_1 (p := 0) (hi := rfl) (hv := rfl) ?_
  refine gm_g_taped C dX9_begin_2 wf_X9_71 ?_
  refine gm_p_length C dX9_begin_5 wf_X9_77 ?_
  refine g_aload_n C dX9_begin_8 (p := 0) (hi := rfl) (hv := rfl) ?_
  refine g_iconst C dX9_begin_9 ?_
  refine gm_p_taped C dX9_begin_10 wf_X9_71 ?_
  refine g_aload_n C dX9_begin_13 (p := 0) (hi := rfl) (hv := rfl) ?_
  refine g_iconst C dX9_begin_14 ?_
  refine gm_p_cursor C dX9_begin_15 wf_X9_81 ?_
  refine g_aload_n C dX9_begin_18 (p := 0) (hi := rfl) (hv := rfl) ?_
  refine g_iconst C dX9_begin_19 ?_
  refine gm_p_fault C dX9_begin_20 wf_X9_102 ?_
  refine g_aload_n C dX9_begin_23 (p := 0) (hi := rfl) (hv := rfl) ?_
  refine gm_callv C dX9_begin_24 (kX9_next (σ := (mu (mu (mu (mu σ 0 12 (σ 0 10)) 0 10 0) 0 13 0) 0 17 0)) hap hE (by show TPW (mu (mu (mu (mu σ 0 12 (σ 0 10)) 0 10 0) 0 13 0) 0 17 0); exact ⟨hb7, hta, by show (0 : Int) ≤ 0; omega, hta.1⟩)) mw_X9_next wl_X9_105 (by decide) (by decide) rfl rfl (by simp [Value.category]) ?_
  exact hret _ _ _ dX9_begin_27 (by rfl)
set_option maxHeartbeats 4000000 in
set_option maxRecDepth 100000 in
theorem kX9_bad {l : Launch} {K : Nat → ClassId} {D : va_G} {ad : Int → Nat} {E : gEnv} {σ : Mem} {k : Int} (hap : Apart ad 12) (hE : gEok E) (hPW : PW σ) : CtV l K D ad 12 (cfM ad K) E yX9_bad cX9_bad 2 none 0 [.ref (ad 0), .int (iI k)] σ (badM σ k) := by
  have htp := hPW.1
  have hb7 := htp.1
  have h12 := htp.2.1
  have h13 := htp.2.2
  have h15 := hPW.2.1
  have h14 := hPW.2.2.1
  have h17 := hPW.2.2.2.1
  have h143 := hPW.2.2.2.2.1
  have h52 := hPW.2.2.2.2.2.1
  have h53 := hPW.2.2.2.2.2.2
  refine ctV_of hap hE (by decide) rfl (fun M C hn hret => ?_)
  have C : Good l K D ad 12 E 0 cX9_bad RX9 M := C
  show G M ad 12 (cfM ad K) 0 [(0, .ref (ad 0)), (1, .int (iI k))] [] σ
  refine g_aload_n C dX9_bad_0 (p := 0) (hi := rfl) (hv := rfl) ?_
  refine gm_g_fault C dX9_bad_1 wf_X9_102 ?_
  refine g_if_ne C (tgt := 20) dX9_bad_4 (by decide) (by omega) (fun h_1 => ?_) (fun h_1 => ?_)
  · exact hret _ _ _ dX9_bad_20 (by first | rfl | omega | (unfold badM; (repeat' split) <;> first | (exfalso; omega) | rfl | exact mu_mu | omega))
  · refine g_aload_n C dX9_bad_7 (p := 0) (hi := rfl) (hv := rfl) ?_
    refine g_iload_n C dX9_bad_8 (p := 1) (hi := rfl) (hv := rfl) ?_
    refine gm_p_fault C dX9_bad_9 wf_X9_102 ?_
    refine g_aload_n C dX9_bad_12 (p := 0) (hi := rfl) (hv := rfl) ?_
    refine g_aload_n C dX9_bad_13 (p := 0) (hi := rfl) (hv := rfl) ?_
    refine gm_g_start C dX9_bad_14 wf_X9_87 ?_
    refine g_cI (b := (σ 0 15)) (by first | rfl | (rw [mr_app, if_pos rfl]; exact over_out (by omega)) | simp [mu_app, mr_app]) ?_
    refine gm_p_faultAt C dX9_bad_17 wf_X9_108 ?_
    exact hret _ _ _ dX9_bad_20 (by first | rfl | omega | (unfold badM; (repeat' split) <;> first | (exfalso; omega) | rfl | exact mu_mu | omega))
set_option maxHeartbeats 4000000 in
set_option maxRecDepth 100000 in
theorem kX9_must {l : Launch} {K : Nat → ClassId} {D : va_G} {ad : Int → Nat} {E : gEnv} {σ : Mem} {so : Int} (hap : Apart ad 12) (hE : gEok E) (hPW : PW σ) (rs : R3 so) : CtV l K D ad 12 (cfM ad K) E yX9_must cX9_must 2 none 2 [.ref (ad 0), .int (iI so)] σ (mustM σ so) := by
  have htp := hPW.1
  have hb7 := htp.1
  have h12 := htp.2.1
  have h13 := htp.2.2
  have h15 := hPW.2.1
  have h14 := hPW.2.2.1
  have h17 := hPW.2.2.2.1
  have h143 := hPW.2.2.2.2.1
  have h52 := hPW.2.2.2.2.2.1
  have h53 := hPW.2.2.2.2.2.2
  have hb1 := badM_PW hPW (k := 1) (by omega)
  refine ctV_of hap hE (by decide) rfl (fun M C hn hret => ?_)
  have C : Good l K D ad 12 E 2 cX9_must RX9 M := C
  show G M ad 12 (cfM ad K) 0 [(0, .ref (ad 0)), (1, .int (iI so))] [] σ
  refine g_iload_n C dX9_must_0 (p := 1) (hi := rfl) (hv := rfl) ?_
  refine g_if_ne C (tgt := 9) dX9_must_1 (by decide) (by omega) (fun h_1 => ?_) (fun h_1 => ?_)
  · refine g_aload_n C dX9_must_9 (p := 0) (hi := rfl) (hv := rfl) ?_
    refine gm_g_fault C dX9_must_10 wf_X9_102 ?_
    refine g_if_ne C (tgt := 20) dX9_must_13 (by decide) (by omega) (fun h_2 => ?_) (fun h_2 => ?_)
    · exact hret _ _ _ dX9_must_20 (by first | rfl | omega | (unfold mustM goM; (repeat' split) <;> first | (exfalso; omega) | rfl | exact mu_mu | omega))
    · refine g_aload_n C dX9_must_16 (p := 0) (hi := rfl) (hv := rfl) ?_
      refine gm_callv C dX9_must_17 (kX9_next (σ := σ) hap hE (by first | exact hPW.1 | exact hb1.1)) mw_X9_next wl_X9_105 (by decide) (by decide) rfl rfl (by simp [Value.category]) ?_
      exact hret _ _ _ dX9_must_20 (by first | rfl | omega | (unfold mustM goM; (repeat' split) <;> first | (exfalso; omega) | rfl | exact mu_mu | omega))
  · refine g_aload_n C dX9_must_4 (p := 0) (hi := rfl) (hv := rfl) ?_
    refine g_iconst C dX9_must_5 ?_
    refine gm_callv C dX9_must_6 (kX9_bad (σ := σ) (k := 1) hap hE (by first | assumption | omega | exact hPW | exact rs)) mw_X9_bad wl_X9_111 (by decide) (by decide) rfl rfl (by simp [Value.category]) ?_
    refine g_aload_n C dX9_must_9 (p := 0) (hi := rfl) (hv := rfl) ?_
    refine gm_g_fault C dX9_must_10 wf_X9_102 ?_
    refine g_if_ne C (tgt := 20) dX9_must_13 (by decide) (by have := hb1.2.2.2.1; omega) (fun h_3 => ?_) (fun h_3 => ?_)
    · exact hret _ _ _ dX9_must_20 (by first | rfl | omega | (unfold mustM goM; (repeat' split) <;> first | (exfalso; omega) | rfl | exact mu_mu | omega))
    · refine g_aload_n C dX9_must_16 (p := 0) (hi := rfl) (hv := rfl) ?_
      refine gm_callv C dX9_must_17 (kX9_next (σ := (badM σ 1)) hap hE (by first | exact hPW.1 | exact hb1.1)) mw_X9_next wl_X9_105 (by decide) (by decide) rfl rfl (by simp [Value.category]) ?_
      exact hret _ _ _ dX9_must_20 (by first | rfl | omega | (unfold mustM goM; (repeat' split) <;> first | (exfalso; omega) | rfl | exact mu_mu | omega))
set_option maxHeartbeats 4000000 in
set_option maxRecDepth 100000 in
theorem kX9_name {l : Launch} {K : Nat → ClassId} {D : va_G} {ad : Int → Nat} {E : gEnv} {σ : Mem} (hap : Apart ad 12) (hE : gEok E) (hPW : PW σ) : CtL l K D ad 12 (cfM ad K) E yX9_name cX9_name 4 (some .long) 0 [.ref (ad 0)] σ (namR σ) σ := by
  have htp := hPW.1
  have hb7 := htp.1
  have h12 := htp.2.1
  have h13 := htp.2.2
  have h15 := hPW.2.1
  have h14 := hPW.2.2.1
  have h17 := hPW.2.2.2.1
  have h143 := hPW.2.2.2.2.1
  have h52 := hPW.2.2.2.2.2.1
  have h53 := hPW.2.2.2.2.2.2
  refine ctL_of hap hE (by decide) rfl (fun M C hn hret => ?_)
  have C : Good l K D ad 12 E 0 cX9_name RX9 M := C
  show G M ad 12 (cfM ad K) 0 [(0, .ref (ad 0))] [] σ
  refine g_lconst C (z := 0) dX9_name_0 rfl ?_
  refine g_lstore_n C hn dX9_name_1 rfl rfl rfl ?_
  refine g_aload_n C dX9_name_2 (p := 1) (hi := rfl) (hv := rfl) ?_
  refine gm_g_start C dX9_name_3 wf_X9_87 ?_
  refine g_istore_n C hn dX9_name_6 rfl rfl rfl ?_
  have L7 : ∀ i : Nat, i ≤ ((σ 0 16 - σ 0 15).toNat) → ∀ (x1 x3 : Int), x1 = (if σ 0 14 = 2 ∧ σ 0 16 - σ 0 15 < 8 then naF (σ 7) (σ 0 15) i else 0) → x3 = (σ 0 15 + (i : Int)) → G M ad 12 (cfM ad K) 7 [(0, .ref (ad 0)), (1, .long (lI x1)), (3, .int (iI x3))] [] σ := by
    refine loopUp ((σ 0 16 - σ 0 15).toNat) ?_
    rintro i hi ihi x1 x3 rfl rfl
    have hbi := hb7 (σ 0 15 + (i : Int))
    refine g_iload_n C dX9_name_7 (p := 2) (hi := rfl) (hv := rfl) ?_
    refine g_aload_n C dX9_name_8 (p := 0) (hi := rfl) (hv := rfl) ?_
    refine gm_g_till C dX9_name_9 wf_X9_99 ?_
    refine g_icmp_ge C (tgt := 56) dX9_name_12 (by decide) (by omega) (by omega) (fun h_1 => ?_) (fun h_1 => ?_)
    · have hiN : i = ((σ 0 16 - σ 0 15).toNat) := by omega
      refine g_aload_n C dX9_name_56 (p := 0) (hi := rfl) (hv := rfl) ?_
      refine gm_g_fault C dX9_name_57 wf_X9_102 ?_
      refine g_if_ne C (tgt := 67) dX9_name_60 (by decide) (by omega) (fun h_2 => ?_) (fun h_2 => ?_)
      · refine g_lconst C (z := 0) dX9_name_67 rfl ?_
        exact hret _ _ _ _ dX9_name_68 (by (try subst hiN); (try subst hiN); unfold namR; (repeat' split) <;> first | (exfalso; omega) | rfl) (by (try subst hiN); first | rfl | omega | ((repeat' split) <;> first | (exfalso; omega) | rfl | exact mu_mu | omega))
      · refine g_lload_n C dX9_name_63 (p := 1) (hi := rfl) (hv := rfl) ?_
        refine g_goto C (tgt := 68) dX9_name_64 (by decide) ?_
        exact hret _ _ _ _ dX9_name_68 (by (try subst hiN); (try subst hiN); unfold namR; (repeat' split) <;> first | (exfalso; omega) | rfl) (by (try subst hiN); first | rfl | omega | ((repeat' split) <;> first | (exfalso; omega) | rfl | exact mu_mu | omega))
    · refine g_aload_n C dX9_name_15 (p := 0) (hi := rfl) (hv := rfl) ?_
      refine gm_g_token C dX9_name_16 wf_X9_90 ?_
      refine g_iconst C dX9_name_19 ?_
      refine g_icmp_ne C (tgt := 56) dX9_name_20 (by decide) (by omega) (by omega) (fun h_3 => ?_) (fun h_3 => ?_)
      · refine g_aload_n C dX9_name_56 (p := 0) (hi := rfl) (hv := rfl) ?_
        refine gm_g_fault C dX9_name_57 wf_X9_102 ?_
        refine g_if_ne C (tgt := 67) dX9_name_60 (by decide) (by omega) (fun h_4 => ?_) (fun h_4 => ?_)
        · refine g_lconst C (z := 0) dX9_name_67 rfl ?_
          exact hret _ _ _ _ dX9_name_68 (by (try subst hiN); (try subst hiN); unfold namR; (repeat' split) <;> first | (exfalso; omega) | rfl) (by (try subst hiN); first | rfl | omega | ((repeat' split) <;> first | (exfalso; omega) | rfl | exact mu_mu | omega))
        · refine g_lload_n C dX9_name_63 (p := 1) (hi := rfl) (hv := rfl) ?_
          refine g_goto C (tgt := 68) dX9_name_64 (by decide) ?_
          exact hret _ _ _ _ dX9_name_68 (by (try subst hiN); (try subst hiN); unfold namR; (repeat' split) <;> first | (exfalso; omega) | rfl) (by (try subst hiN); first | rfl | omega | ((repeat' split) <;> first | (exfalso; omega) | rfl | exact mu_mu | omega))
      · refine g_aload_n C dX9_name_23 (p := 0) (hi := rfl) (hv := rfl) ?_
        refine gm_g_till C dX9_name_24 wf_X9_99 ?_
        refine g_aload_n C dX9_name_27 (p := 0) (hi := rfl) (hv := rfl) ?_
        refine gm_g_start C dX9_name_28 wf_X9_87 ?_
        refine g_isub C dX9_name_31 ?_
        refine (g_bipush C dX9_name_32 (by decide)) ?_
        refine g_icmp_ge C (tgt := 56) dX9_name_34 (by decide) (by omega) (by omega) (fun h_5 => ?_) (fun h_5 => ?_)
        · refine g_aload_n C dX9_name_56 (p := 0) (hi := rfl) (hv := rfl) ?_
          refine gm_g_fault C dX9_name_57 wf_X9_102 ?_
          refine g_if_ne C (tgt := 67) dX9_name_60 (by decide) (by omega) (fun h_6 => ?_) (fun h_6 => ?_)
          · refine g_lconst C (z := 0) dX9_name_67 rfl ?_
            exact hret _ _ _ _ dX9_name_68 (by (try subst hiN); (try subst hiN); unfold namR; (repeat' split) <;> first | (exfalso; omega) | rfl) (by (try subst hiN); first | rfl | omega | ((repeat' split) <;> first | (exfalso; omega) | rfl | exact mu_mu | omega))
          · refine g_lload_n C dX9_name_63 (p := 1) (hi := rfl) (hv := rfl) ?_
            refine g_goto C (tgt := 68) dX9_name_64 (by decide) ?_
            exact hret _ _ _ _ dX9_name_68 (by (try subst hiN); (try subst hiN); unfold namR; (repeat' split) <;> first | (exfalso; omega) | rfl) (by (try subst hiN); first | rfl | omega | ((repeat' split) <;> first | (exfalso; omega) | rfl | exact mu_mu | omega))
        · refine g_lload_n C dX9_name_37 (p := 1) (hi := rfl) (hv := rfl) ?_
          refine (g_bipush C dX9_name_38 (by decide)) ?_
          refine g_lshl C dX9_name_40 ?_
          refine g_aload_n C dX9_name_41 (p := 0) (hi := rfl) (hv := rfl) ?_
          refine gm_g_tape C dX9_name_42 wf_X9_28 ?_
          refine g_iload_n C dX9_name_45 (p := 2) (hi := rfl) (hv := rfl) ?_
          refine gm_l_tape C dX9_name_46 (by omega) (by omega) ?_
          refine g_i2l C (by omega) dX9_name_47 ?_
          refine g_lor C dX9_name_48 ?_
          refine g_lstore_n C hn dX9_name_49 rfl rfl rfl ?_
          refine g_iinc C hn dX9_name_50 (p := 2) rfl rfl rfl ?_
          refine g_goto C (tgt := 7) dX9_name_53 (by decide) ?_
          refine g_sub [2, 1, 0] rfl ?_
          exact ihi (by omega) _ _ (by simp only [naF]; (repeat' split) <;> first | (exfalso; omega) | rfl) (by omega)
  refine g_sub [2, 1, 0] rfl ?_
  exact L7 0 (Nat.zero_le _) _ _ (by (repeat' split) <;> rfl) (by omega)
set_option maxHeartbeats 4000000 in
set_option maxRecDepth 100000 in
theorem kX9_figures {l : Launch} {K : Nat → ClassId} {D : va_G} {ad : Int → Nat} {E : gEnv} {σ : Mem} (hap : Apart ad 12) (hE : gEok E) (hPW : PW σ) : CtI l K D ad 12 (cfM ad K) E yX9_figures cX9_figures 3 (some .int) 0 [.ref (ad 0)] σ (figR σ) σ := by
  have htp := hPW.1
  have hb7 := htp.1
  have h12 := htp.2.1
  have h13 := htp.2.2
  have h15 := hPW.2.1
  have h14 := hPW.2.2.1
  have h17 := hPW.2.2.2.1
  have h143 := hPW.2.2.2.2.1
  have h52 := hPW.2.2.2.2.2.1
  have h53 := hPW.2.2.2.2.2.2
  refine ctI_of hap hE (by decide) rfl .int (nar_i _) (fun M C hn hret => ?_)
  have C : Good l K D ad 12 E 0 cX9_figures RX9 M := C
  show G M ad 12 (cfM ad K) 0 [(0, .ref (ad 0))] [] σ
  refine g_iconst C dX9_figures_0 ?_
  refine g_istore_n C hn dX9_figures_1 rfl rfl rfl ?_
  refine g_aload_n C dX9_figures_2 (p := 1) (hi := rfl) (hv := rfl) ?_
  refine gm_g_start C dX9_figures_3 wf_X9_87 ?_
  refine g_istore_n C hn dX9_figures_6 rfl rfl rfl ?_
  have L7 : ∀ i : Nat, i ≤ ((σ 0 16 - σ 0 15).toNat) → ∀ (x1 x2 : Int), x1 = (if σ 0 14 = 3 then fgF (σ 7) (σ 0 15) i else 0) → x2 = (σ 0 15 + (i : Int)) → G M ad 12 (cfM ad K) 7 [(0, .ref (ad 0)), (1, .int (iI x1)), (2, .int (iI x2))] [] σ := by
    refine loopUp ((σ 0 16 - σ 0 15).toNat) ?_
    rintro i hi ihi x1 x2 rfl rfl
    have hbi := hb7 (σ 0 15 + (i : Int))
    refine g_iload_n C dX9_figures_7 (p := 2) (hi := rfl) (hv := rfl) ?_
    refine g_aload_n C dX9_figures_8 (p := 0) (hi := rfl) (hv := rfl) ?_
    refine gm_g_till C dX9_figures_9 wf_X9_99 ?_
    refine g_icmp_ge C (tgt := 44) dX9_figures_12 (by decide) (by omega) (by omega) (fun h_1 => ?_) (fun h_1 => ?_)
    · have hiN : i = ((σ 0 16 - σ 0 15).toNat) := by omega
      refine g_iload_n C dX9_figures_44 (p := 1) (hi := rfl) (hv := rfl) ?_
      exact hret _ _ _ _ dX9_figures_45 (by (try subst hiN); (try subst hiN); unfold figR; (repeat' split) <;> first | (exfalso; omega) | rfl) (by (try subst hiN); first | rfl | omega | ((repeat' split) <;> first | (exfalso; omega) | rfl | exact mu_mu | omega))
    · refine g_aload_n C dX9_figures_15 (p := 0) (hi := rfl) (hv := rfl) ?_
      refine gm_g_token C dX9_figures_16 wf_X9_90 ?_
      refine g_iconst C dX9_figures_19 ?_
      refine g_icmp_ne C (tgt := 44) dX9_figures_20 (by decide) (by omega) (by omega) (fun h_2 => ?_) (fun h_2 => ?_)
      · refine g_iload_n C dX9_figures_44 (p := 1) (hi := rfl) (hv := rfl) ?_
        exact hret _ _ _ _ dX9_figures_45 (by (try subst hiN); (try subst hiN); unfold figR; (repeat' split) <;> first | (exfalso; omega) | rfl) (by (try subst hiN); first | rfl | omega | ((repeat' split) <;> first | (exfalso; omega) | rfl | exact mu_mu | omega))
      · refine (g_bipush C dX9_figures_23 (by decide)) ?_
        refine g_iload_n C dX9_figures_25 (p := 1) (hi := rfl) (hv := rfl) ?_
        refine g_imul C dX9_figures_26 ?_
        refine g_aload_n C dX9_figures_27 (p := 0) (hi := rfl) (hv := rfl) ?_
        refine gm_g_tape C dX9_figures_28 wf_X9_28 ?_
        refine g_iload_n C dX9_figures_31 (p := 2) (hi := rfl) (hv := rfl) ?_
        refine gm_l_tape C dX9_figures_32 (by omega) (by omega) ?_
        refine g_iadd C dX9_figures_33 ?_
        refine (g_bipush C dX9_figures_34 (by decide)) ?_
        refine g_isub C dX9_figures_36 ?_
        refine g_istore_n C hn dX9_figures_37 rfl rfl rfl ?_
        refine g_iinc C hn dX9_figures_38 (p := 2) rfl rfl rfl ?_
        refine g_goto C (tgt := 7) dX9_figures_41 (by decide) ?_
        refine g_sub [2, 1, 0] rfl ?_
        exact ihi (by omega) _ _ (by simp only [fgF]; (repeat' split) <;> first | (exfalso; omega) | rfl | omega) (by omega)
  refine g_sub [2, 1, 0] rfl ?_
  exact L7 0 (Nat.zero_le _) _ _ (by (repeat' split) <;> rfl) (by omega)
set_option maxHeartbeats 4000000 in
set_option maxRecDepth 100000 in
theorem kX9_number {l : Launch} {K : Nat → ClassId} {D : va_G} {ad : Int → Nat} {E : gEnv} {σ : Mem} {lo hi : Int} (hap : Apart ad 12) (hE : gEok E) (hPW : PW σ) (rlo : R3 lo) (rhi : R3 hi) : CtI l K D ad 12 (cfM ad K) E yX9_number cX9_number 4 (some .int) 3 [.ref (ad 0), .int (iI lo), .int (iI hi)] σ (numR σ) (numM σ lo hi) := by
  have htp := hPW.1
  have hb7 := htp.1
  have h12 := htp.2.1
  have h13 := htp.2.2
  have h15 := hPW.2.1
  have h14 := hPW.2.2.1
  have h17 := hPW.2.2.2.1
  have h143 := hPW.2.2.2.2.1
  have h52 := hPW.2.2.2.2.2.1
  have h53 := hPW.2.2.2.2.2.2
  have hfg := figR_in hPW
  have hb2 := badM_PW hPW (k := 2) (by omega)
  refine ctI_of hap hE (by decide) rfl .int (nar_i _) (fun M C hn hret => ?_)
  have C : Good l K D ad 12 E 3 cX9_number RX9 M := C
  show G M ad 12 (cfM ad K) 0 [(0, .ref (ad 0)), (1, .int (iI lo)), (2, .int (iI hi))] [] σ
  refine g_aload_n C dX9_number_0 (p := 0) (hi := rfl) (hv := rfl) ?_
  refine gm_g_fault C dX9_number_1 wf_X9_102 ?_
  refine g_if_le C (tgt := 9) dX9_number_4 (by decide) (by omega) (fun h_1 => ?_) (fun h_1 => ?_)
  · refine g_aload_n C dX9_number_9 (p := 0) (hi := rfl) (hv := rfl) ?_
    refine gm_call C dX9_number_10 (kX9_figures (σ := σ) hap hE (by exact hPW)) mw_X9_figures wl_X9_115 (by decide) (by decide) rfl rfl (by simp [Value.category]) ?_
    refine g_istore_n C hn dX9_number_13 rfl rfl rfl ?_
    refine g_aload_n C dX9_number_14 (p := 1) (hi := rfl) (hv := rfl) ?_
    refine gm_g_token C dX9_number_15 wf_X9_90 ?_
    refine g_iconst C dX9_number_18 ?_
    refine g_icmp_ne C (tgt := 39) dX9_number_19 (by decide) (by omega) (by omega) (fun h_2 => ?_) (fun h_2 => ?_)
    · refine g_aload_n C dX9_number_39 (p := 1) (hi := rfl) (hv := rfl) ?_
      refine g_aload_n C dX9_number_40 (p := 1) (hi := rfl) (hv := rfl) ?_
      refine gm_g_token C dX9_number_41 wf_X9_90 ?_
      refine g_iconst C dX9_number_44 ?_
      refine g_icmp_ne C (tgt := 52) dX9_number_45 (by decide) (by omega) (by omega) (fun h_3 => ?_) (fun h_3 => ?_)
      · refine g_iconst C dX9_number_52 ?_
        refine gm_callv C dX9_number_53 (kX9_must (σ := σ) (so := 0) hap hE (by first | exact hPW | exact hb2) (by first | assumption | omega | exact hPW | exact rlo | exact rhi)) mw_X9_must wl_X9_119 (by decide) (by decide) rfl rfl (by simp [Value.category]) ?_
        refine g_iload_n C dX9_number_56 (p := 0) (hi := rfl) (hv := rfl) ?_
        exact hret _ _ _ _ dX9_number_57 (by unfold numR; (repeat' split) <;> first | (exfalso; omega) | rfl) (by unfold numM numX; (repeat' split) <;> first | (exfalso; omega) | rfl)
      · refine g_iconst C dX9_number_48 ?_
        refine g_goto C (tgt := 53) dX9_number_49 (by decide) ?_
        refine gm_callv C dX9_number_53 (kX9_must (σ := σ) (so := 1) hap hE (by first | exact hPW | exact hb2) (by first | assumption | omega | exact hPW | exact rlo | exact rhi)) mw_X9_must wl_X9_119 (by decide) (by decide) rfl rfl (by simp [Value.category]) ?_
        refine g_iload_n C dX9_number_56 (p := 0) (hi := rfl) (hv := rfl) ?_
        exact hret _ _ _ _ dX9_number_57 (by unfold numR; (repeat' split) <;> first | (exfalso; omega) | rfl) (by unfold numM numX; (repeat' split) <;> first | (exfalso; omega) | rfl)
    · refine g_iload_n C dX9_number_22 (p := 0) (hi := rfl) (hv := rfl) ?_
      refine g_i2l C (by omega) dX9_number_23 ?_
      refine g_iload_n C dX9_number_24 (p := 2) (hi := rfl) (hv := rfl) ?_
      refine g_i2l C (by omega) dX9_number_25 ?_
      refine g_iload_n C dX9_number_26 (p := 3) (hi := rfl) (hv := rfl) ?_
      refine g_i2l C (by omega) dX9_number_27 ?_
      refine g_callS C dX9_number_28 (kX9_in (σ := σ) (v := figR σ) (lo := lo) (hi := hi) hap hE (by first | assumption | omega | exact hPW | exact rlo | exact rhi) (by first | assumption | omega | exact hPW | exact rlo | exact rhi) (by first | assumption | omega | exact hPW | exact rlo | exact rhi)) mw_X9_in wl_X9_54 (by decide) (by decide) rfl rfl (by simp [Value.category]) ?_
      refine g_if_ne C (tgt := 39) dX9_number_31 (by decide) (by omega) (fun h_4 => ?_) (fun h_4 => ?_)
      · refine g_aload_n C dX9_number_39 (p := 1) (hi := rfl) (hv := rfl) ?_
        refine g_aload_n C dX9_number_40 (p := 1) (hi := rfl) (hv := rfl) ?_
        refine gm_g_token C dX9_number_41 wf_X9_90 ?_
        refine g_iconst C dX9_number_44 ?_
        refine g_icmp_ne C (tgt := 52) dX9_number_45 (by decide) (by omega) (by omega) (fun h_5 => ?_) (fun h_5 => ?_)
        · refine g_iconst C dX9_number_52 ?_
          refine gm_callv C dX9_number_53 (kX9_must (σ := σ) (so := 0) hap hE (by first | exact hPW | exact hb2) (by first | assumption | omega | exact hPW | exact rlo | exact rhi)) mw_X9_must wl_X9_119 (by decide) (by decide) rfl rfl (by simp [Value.category]) ?_
          refine g_iload_n C dX9_number_56 (p := 0) (hi := rfl) (hv := rfl) ?_
          exact hret _ _ _ _ dX9_number_57 (by unfold numR; (repeat' split) <;> first | (exfalso; omega) | rfl) (by unfold numM numX; (repeat' split) <;> first | (exfalso; omega) | rfl)
        · refine g_iconst C dX9_number_48 ?_
          refine g_goto C (tgt := 53) dX9_number_49 (by decide) ?_
          refine gm_callv C dX9_number_53 (kX9_must (σ := σ) (so := 1) hap hE (by first | exact hPW | exact hb2) (by first | assumption | omega | exact hPW | exact rlo | exact rhi)) mw_X9_must wl_X9_119 (by decide) (by decide) rfl rfl (by simp [Value.category]) ?_
          refine g_iload_n C dX9_number_56 (p := 0) (hi := rfl) (hv := rfl) ?_
          exact hret _ _ _ _ dX9_number_57 (by unfold numR; (repeat' split) <;> first | (exfalso; omega) | rfl) (by unfold numM numX; (repeat' split) <;> first | (exfalso; omega) | rfl)
      · refine g_aload_n C dX9_number_34 (p := 1) (hi := rfl) (hv := rfl) ?_
        refine g_iconst C dX9_number_35 ?_
        refine gm_callv C dX9_number_36 (kX9_bad (σ := σ) (k := 2) hap hE (by exact hPW)) mw_X9_bad wl_X9_111 (by decide) (by decide) rfl rfl (by simp [Value.category]) ?_
        refine g_aload_n C dX9_number_39 (p := 1) (hi := rfl) (hv := rfl) ?_
        refine g_aload_n C dX9_number_40 (p := 1) (hi := rfl) (hv := rfl) ?_
        refine gm_g_token C dX9_number_41 wf_X9_90 ?_
        refine g_iconst C dX9_number_44 ?_
        refine g_icmp_ne C (tgt := 52) dX9_number_45 (by decide) (by have := hb2.2.2.1; omega) (by omega) (fun h_6 => ?_) (fun h_6 => ?_)
        · refine g_iconst C dX9_number_52 ?_
          refine gm_callv C dX9_number_53 (kX9_must (σ := (badM σ 2)) (so := 0) hap hE (by first | exact hPW | exact hb2) (by first | assumption | omega | exact hPW | exact rlo | exact rhi)) mw_X9_must wl_X9_119 (by decide) (by decide) rfl rfl (by simp [Value.category]) ?_
          refine g_iload_n C dX9_number_56 (p := 0) (hi := rfl) (hv := rfl) ?_
          exact hret _ _ _ _ dX9_number_57 (by unfold numR; (repeat' split) <;> first | (exfalso; omega) | rfl) (by unfold numM numX; (repeat' split) <;> first | (exfalso; omega) | rfl)
        · refine g_iconst C dX9_number_48 ?_
          refine g_goto C (tgt := 53) dX9_number_49 (by decide) ?_
          refine gm_callv C dX9_number_53 (kX9_must (σ := (badM σ 2)) (so := 1) hap hE (by first | exact hPW | exact hb2) (by first | assumption | omega | exact hPW | exact rlo | exact rhi)) mw_X9_must wl_X9_119 (by decide) (by decide) rfl rfl (by simp [Value.category]) ?_
          refine g_iload_n C dX9_number_56 (p := 0) (hi := rfl) (hv := rfl) ?_
          exact hret _ _ _ _ dX9_number_57 (by unfold numR; (repeat' split) <;> first | (exfalso; omega) | rfl) (by unfold numM numX; (repeat' split) <;> first | (exfalso; omega) | rfl)
  · refine g_iconst C dX9_number_7 ?_
    exact hret _ _ _ _ dX9_number_8 (by unfold numR; (repeat' split) <;> first | (exfalso; omega) | rfl) (by unfold numM numX; (repeat' split) <;> first | (exfalso; omega) | rfl)
set_option maxHeartbeats 4000000 in
set_option maxRecDepth 100000 in
theorem kX9_kindBy {l : Launch} {K : Nat → ClassId} {D : va_G} {ad : Int → Nat} {E : gEnv} {σ : Mem} {w : Int} (hap : Apart ad 12) (hE : gEok E) (rw : R6 w) : CtI l K D ad 12 (cfM ad K) E yX9_kindBy cX9_kindBy 2 (some .int) 0 [.long (lI w)] σ (kinB w) σ := by
  refine ctI_of hap hE (by decide) rfl .int (nar_i _) (fun M C hn hret => ?_)
  have C : Good l K D ad 12 E 0 cX9_kindBy RX9 M := C
  show G M ad 12 (cfM ad K) 0 [(0, .long (lI w))] [] σ
  refine g_lload_n C dX9_kindBy_0 (p := 0) (hi := rfl) (hv := rfl) ?_
  refine g_ldc2 C (n := 1953658213) wk_X9_123 (by decide +kernel) dX9_kindBy_1 ?_
  refine g_lcmp C (by omega) (by omega) dX9_kindBy_4 ?_
  refine g_if_ne C (tgt := 12) dX9_kindBy_5 (by decide) (oCmp_R _ _) (fun h_1 => ?_) (fun h_1 => ?_)
  · replace h_1 := oCmp_ne.mp h_1
    refine g_lload_n C dX9_kindBy_12 (p := 0) (hi := rfl) (hv := rfl) ?_
    refine g_ldc2 C (n := 7564409) wk_X9_125 (by decide +kernel) dX9_kindBy_13 ?_
    refine g_lcmp C (by omega) (by omega) dX9_kindBy_16 ?_
    refine g_if_ne C (tgt := 24) dX9_kindBy_17 (by decide) (oCmp_R _ _) (fun h_2 => ?_) (fun h_2 => ?_)
    · replace h_2 := oCmp_ne.mp h_2
      refine g_lload_n C dX9_kindBy_24 (p := 0) (hi := rfl) (hv := rfl) ?_
      refine g_ldc2 C (n := 7563385) wk_X9_127 (by decide +kernel) dX9_kindBy_25 ?_
      refine g_lcmp C (by omega) (by omega) dX9_kindBy_28 ?_
      refine g_if_ne C (tgt := 36) dX9_kindBy_29 (by decide) (oCmp_R _ _) (fun h_3 => ?_) (fun h_3 => ?_)
      · replace h_3 := oCmp_ne.mp h_3
        refine g_lload_n C dX9_kindBy_36 (p := 0) (hi := rfl) (hv := rfl) ?_
        refine g_ldc2 C (n := 1919509352) wk_X9_129 (by decide +kernel) dX9_kindBy_37 ?_
        refine g_lcmp C (by omega) (by omega) dX9_kindBy_40 ?_
        refine g_if_ne C (tgt := 48) dX9_kindBy_41 (by decide) (oCmp_R _ _) (fun h_4 => ?_) (fun h_4 => ?_)
        · replace h_4 := oCmp_ne.mp h_4
          refine g_lload_n C dX9_kindBy_48 (p := 0) (hi := rfl) (hv := rfl) ?_
          refine g_ldc2 C (n := 512869298039) wk_X9_131 (by decide +kernel) dX9_kindBy_49 ?_
          refine g_lcmp C (by omega) (by omega) dX9_kindBy_52 ?_
          refine g_if_ne C (tgt := 60) dX9_kindBy_53 (by decide) (oCmp_R _ _) (fun h_5 => ?_) (fun h_5 => ?_)
          · replace h_5 := oCmp_ne.mp h_5
            refine g_ldc C (n := (-1000000)) wk_X9_80 (by decide +kernel) dX9_kindBy_60 ?_
            exact hret _ _ _ _ dX9_kindBy_62 (by first | rfl | omega | (unfold kinB; (repeat' split) <;> first | (exfalso; omega) | rfl | exact mu_mu | omega)) (by first | rfl | omega | (unfold kinB; (repeat' split) <;> first | (exfalso; omega) | rfl | exact mu_mu | omega))
          · replace h_5 := oCmp_eq.mp h_5
            refine g_iconst C dX9_kindBy_56 ?_
            refine g_goto C (tgt := 62) dX9_kindBy_57 (by decide) ?_
            exact hret _ _ _ _ dX9_kindBy_62 (by first | rfl | omega | (unfold kinB; (repeat' split) <;> first | (exfalso; omega) | rfl | exact mu_mu | omega)) (by first | rfl | omega | (unfold kinB; (repeat' split) <;> first | (exfalso; omega) | rfl | exact mu_mu | omega))
        · replace h_4 := oCmp_eq.mp h_4
          refine g_iconst C dX9_kindBy_44 ?_
          refine g_goto C (tgt := 62) dX9_kindBy_45 (by decide) ?_
          exact hret _ _ _ _ dX9_kindBy_62 (by first | rfl | omega | (unfold kinB; (repeat' split) <;> first | (exfalso; omega) | rfl | exact mu_mu | omega)) (by first | rfl | omega | (unfold kinB; (repeat' split) <;> first | (exfalso; omega) | rfl | exact mu_mu | omega))
      · replace h_3 := oCmp_eq.mp h_3
        refine g_iconst C dX9_kindBy_32 ?_
        refine g_goto C (tgt := 62) dX9_kindBy_33 (by decide) ?_
        exact hret _ _ _ _ dX9_kindBy_62 (by first | rfl | omega | (unfold kinB; (repeat' split) <;> first | (exfalso; omega) | rfl | exact mu_mu | omega)) (by first | rfl | omega | (unfold kinB; (repeat' split) <;> first | (exfalso; omega) | rfl | exact mu_mu | omega))
    · replace h_2 := oCmp_eq.mp h_2
      refine g_iconst C dX9_kindBy_20 ?_
      refine g_goto C (tgt := 62) dX9_kindBy_21 (by decide) ?_
      exact hret _ _ _ _ dX9_kindBy_62 (by first | rfl | omega | (unfold kinB; (repeat' split) <;> first | (exfalso; omega) | rfl | exact mu_mu | omega)) (by first | rfl | omega | (unfold kinB; (repeat' split) <;> first | (exfalso; omega) | rfl | exact mu_mu | omega))
  · replace h_1 := oCmp_eq.mp h_1
    refine g_iconst C dX9_kindBy_8 ?_
    refine g_goto C (tgt := 62) dX9_kindBy_9 (by decide) ?_
    exact hret _ _ _ _ dX9_kindBy_62 (by first | rfl | omega | (unfold kinB; (repeat' split) <;> first | (exfalso; omega) | rfl | exact mu_mu | omega)) (by first | rfl | omega | (unfold kinB; (repeat' split) <;> first | (exfalso; omega) | rfl | exact mu_mu | omega))
set_option maxHeartbeats 4000000 in
set_option maxRecDepth 100000 in
theorem kX9_mustEnd {l : Launch} {K : Nat → ClassId} {D : va_G} {ad : Int → Nat} {E : gEnv} {σ : Mem} (hap : Apart ad 12) (hE : gEok E) (hPW : PW σ) : CtV l K D ad 12 (cfM ad K) E yX9_mustEnd cX9_mustEnd 1 none 3 [.ref (ad 0)] σ (endM σ) := by
  have htp := hPW.1
  have hb7 := htp.1
  have h12 := htp.2.1
  have h13 := htp.2.2
  have h15 := hPW.2.1
  have h14 := hPW.2.2.1
  have h17 := hPW.2.2.2.1
  have h143 := hPW.2.2.2.2.1
  have h52 := hPW.2.2.2.2.2.1
  have h53 := hPW.2.2.2.2.2.2
  refine ctV_of hap hE (by decide) rfl (fun M C hn hret => ?_)
  have C : Good l K D ad 12 E 3 cX9_mustEnd RX9 M := C
  show G M ad 12 (cfM ad K) 0 [(0, .ref (ad 0))] [] σ
  refine g_aload_n C dX9_mustEnd_0 (p := 0) (hi := rfl) (hv := rfl) ?_
  refine gm_g_fault C dX9_mustEnd_1 wf_X9_102 ?_
  refine g_if_ne C (tgt := 24) dX9_mustEnd_4 (by decide) (by omega) (fun h_1 => ?_) (fun h_1 => ?_)
  · exact hret _ _ _ dX9_mustEnd_24 (by first | rfl | omega | (unfold endM; (repeat' split) <;> first | (exfalso; omega) | rfl | exact mu_mu | omega))
  · refine g_aload_n C dX9_mustEnd_7 (p := 0) (hi := rfl) (hv := rfl) ?_
    refine g_aload_n C dX9_mustEnd_8 (p := 0) (hi := rfl) (hv := rfl) ?_
    refine gm_g_token C dX9_mustEnd_9 wf_X9_90 ?_
    refine g_iconst C dX9_mustEnd_12 ?_
    refine g_icmp_ne C (tgt := 20) dX9_mustEnd_13 (by decide) (by omega) (by omega) (fun h_2 => ?_) (fun h_2 => ?_)
    · refine g_iconst C dX9_mustEnd_20 ?_
      refine gm_callv C dX9_mustEnd_21 (kX9_must (σ := σ) (so := 0) hap hE (by first | assumption | omega | exact hPW) (by first | assumption | omega | exact hPW)) mw_X9_must wl_X9_119 (by decide) (by decide) rfl rfl (by simp [Value.category]) ?_
      exact hret _ _ _ dX9_mustEnd_24 (by first | rfl | omega | (unfold endM; (repeat' split) <;> first | (exfalso; omega) | rfl | exact mu_mu | omega))
    · refine g_iconst C dX9_mustEnd_16 ?_
      refine g_goto C (tgt := 21) dX9_mustEnd_17 (by decide) ?_
      refine gm_callv C dX9_mustEnd_21 (kX9_must (σ := σ) (so := 1) hap hE (by first | assumption | omega | exact hPW) (by first | assumption | omega | exact hPW)) mw_X9_must wl_X9_119 (by decide) (by decide) rfl rfl (by simp [Value.category]) ?_
      exact hret _ _ _ dX9_mustEnd_24 (by first | rfl | omega | (unfold endM; (repeat' split) <;> first | (exfalso; omega) | rfl | exact mu_mu | omega))
set_option maxHeartbeats 4000000 in
set_option maxRecDepth 100000 in
theorem kX9_begins {l : Launch} {K : Nat → ClassId} {D : va_G} {ad : Int → Nat} {E : gEnv} {σ : Mem} {so room : Int} (hap : Apart ad 12) (hE : gEok E) (hPW : PW σ) (hso : 2 ≤ so ∧ so ≤ 3) (hro : 4 ≤ room ∧ room ≤ 5) : CtV l K D ad 12 (cfM ad K) E yX9_begins cX9_begins 3 none 3 [.ref (ad 0), .int (iI so), .int (iI room)] σ (begM σ so room) := by
  have htp := hPW.1
  have hb7 := htp.1
  have h12 := htp.2.1
  have h13 := htp.2.2
  have h15 := hPW.2.1
  have h14 := hPW.2.2.1
  have h17 := hPW.2.2.2.1
  have h143 := hPW.2.2.2.2.1
  have h52 := hPW.2.2.2.2.2.1
  have h53 := hPW.2.2.2.2.2.2
  have hb3 := badM_PW hPW (k := 3) (by omega)
  have hso2 : 0 ≤ σ 5 so ∧ σ 5 so ≤ 5 := by rcases (show so = 2 ∨ so = 3 by omega) with e | e <;> rw [e] <;> omega
  refine ctV_of hap hE (by decide) rfl (fun M C hn hret => ?_)
  have C : Good l K D ad 12 E 3 cX9_begins RX9 M := C
  show G M ad 12 (cfM ad K) 0 [(0, .ref (ad 0)), (1, .int (iI so)), (2, .int (iI room))] [] σ
  refine g_aload_n C dX9_begins_0 (p := 0) (hi := rfl) (hv := rfl) ?_
  refine gm_g_fresh C dX9_begins_1 wf_X9_22 ?_
  refine g_iload_n C dX9_begins_4 (p := 1) (hi := rfl) (hv := rfl) ?_
  refine gm_l_fresh C dX9_begins_5 (by omega) (by omega) ?_
  refine g_iload_n C dX9_begins_6 (p := 2) (hi := rfl) (hv := rfl) ?_
  refine g_icmp_ne C (tgt := 15) dX9_begins_7 (by decide) (by omega) (by omega) (fun h_1 => ?_) (fun h_1 => ?_)
  · refine g_aload_n C dX9_begins_15 (p := 0) (hi := rfl) (hv := rfl) ?_
    refine g_iconst C dX9_begins_16 ?_
    refine gm_callv C dX9_begins_17 (kX9_must (σ := σ) (so := 1) hap hE (by first | exact hPW | exact hb3) (by first | assumption | omega | exact hPW | exact hso | exact hro)) mw_X9_must wl_X9_119 (by decide) (by decide) rfl rfl (by simp [Value.category]) ?_
    exact hret _ _ _ dX9_begins_20 (by first | rfl | omega | (unfold begM; (repeat' split) <;> first | (exfalso; omega) | rfl | exact mu_mu | omega))
  · refine g_aload_n C dX9_begins_10 (p := 0) (hi := rfl) (hv := rfl) ?_
    refine g_iconst C dX9_begins_11 ?_
    refine gm_callv C dX9_begins_12 (kX9_bad (σ := σ) (k := 3) hap hE (by first | assumption | omega | exact hPW | exact hso | exact hro)) mw_X9_bad wl_X9_111 (by decide) (by decide) rfl rfl (by simp [Value.category]) ?_
    refine g_aload_n C dX9_begins_15 (p := 0) (hi := rfl) (hv := rfl) ?_
    refine g_iconst C dX9_begins_16 ?_
    refine gm_callv C dX9_begins_17 (kX9_must (σ := (badM σ 3)) (so := 1) hap hE (by first | exact hPW | exact hb3) (by first | assumption | omega | exact hPW | exact hso | exact hro)) mw_X9_must wl_X9_119 (by decide) (by decide) rfl rfl (by simp [Value.category]) ?_
    exact hret _ _ _ dX9_begins_20 (by first | rfl | omega | (unfold begM; (repeat' split) <;> first | (exfalso; omega) | rfl | exact mu_mu | omega))
set_option maxHeartbeats 4000000 in
set_option maxRecDepth 100000 in
theorem kX9_readPerson {l : Launch} {K : Nat → ClassId} {D : va_G} {ad : Int → Nat} {E : gEnv} {σ : Mem} (hap : Apart ad 12) (hE : gEok E) (hPW : PW σ) : CtV l K D ad 12 (cfM ad K) E yX9_readPerson cX9_readPerson 2 none 4 [.ref (ad 0)] σ (rpM σ) := by
  have htp := hPW.1
  have hb7 := htp.1
  have h12 := htp.2.1
  have h13 := htp.2.2
  have h15 := hPW.2.1
  have h14 := hPW.2.2.1
  have h17 := hPW.2.2.2.1
  have h143 := hPW.2.2.2.2.1
  have h52 := hPW.2.2.2.2.2.1
  have h53 := hPW.2.2.2.2.2.2
  have hg := begM_PW hPW (so := 2) (room := 4)
  have hgf := hg.2.2.2.1
  have hx := rpX_PW hPW
  have hy := rpY_PW hPW
  have hyf := hy.2.2.2.1
  have hyc := rpY_c (σ := σ) (q := 5) (j := 2) (by decide)
  have hyz := @rpY_f σ
  have hkn : -1000000 ≤ kinB (namR (begM σ 2 4)) ∧ kinB (namR (begM σ 2 4)) ≤ 5 := by unfold kinB; (repeat' split) <;> omega
  have hx1 : begM σ 2 4 0 17 = 0 → kinB (namR (begM σ 2 4)) = -1000000 → mustM (begM σ 2 4) 0 = rpX σ := fun a b => by unfold rpX; rw [if_pos a, if_pos b]
  have hx2 : begM σ 2 4 0 17 = 0 → ¬ kinB (namR (begM σ 2 4)) = -1000000 → mustM (begM σ 2 4) 1 = rpX σ := fun a b => by unfold rpX; rw [if_pos a, if_neg b]
  have hx3 : ¬ begM σ 2 4 0 17 = 0 → begM σ 2 4 = rpX σ := fun a => by unfold rpX; rw [if_neg a]
  refine ctV_of hap hE (by decide) rfl (fun M C hn hret => ?_)
  have C : Good l K D ad 12 E 4 cX9_readPerson RX9 M := C
  show G M ad 12 (cfM ad K) 0 [(0, .ref (ad 0))] [] σ
  refine g_aload_n C dX9_readPerson_0 (p := 0) (hi := rfl) (hv := rfl) ?_
  refine g_iconst C dX9_readPerson_1 ?_
  refine g_iconst C dX9_readPerson_2 ?_
  refine gm_callv C dX9_readPerson_3 (kX9_begins (σ := σ) (so := 2) (room := 4) hap hE (by exact hPW) (by first | assumption | omega | exact hPW) (by first | assumption | omega | exact hPW)) mw_X9_begins wl_X9_133 (by decide) (by decide) rfl rfl (by simp [Value.category]) ?_
  refine g_aload_n C dX9_readPerson_6 (p := 0) (hi := rfl) (hv := rfl) ?_
  refine gm_calll C dX9_readPerson_7 (kX9_name (σ := (begM σ 2 4)) hap hE (by exact hg)) mw_X9_name wl_X9_137 (by decide) (by decide) rfl rfl (by simp [Value.category]) ?_
  refine g_callS C dX9_readPerson_10 (kX9_kindBy (σ := (begM σ 2 4)) (w := namR (begM σ 2 4)) hap hE (by exact namR_R _)) mw_X9_kindBy wl_X9_141 (by decide) (by decide) rfl rfl (by simp [Value.category]) ?_
  refine g_istore_n C hn dX9_readPerson_13 rfl rfl rfl ?_
  refine g_aload_n C dX9_readPerson_14 (p := 1) (hi := rfl) (hv := rfl) ?_
  refine gm_g_fault C dX9_readPerson_15 wf_X9_102 ?_
  refine g_if_ne C (tgt := 36) dX9_readPerson_18 (by decide) (by omega) (fun h_1 => ?_) (fun h_1 => ?_)
  · refine g_aload_n C dX9_readPerson_36 (p := 1) (hi := rfl) (hv := rfl) ?_
    refine gm_callv C dX9_readPerson_37 (kX9_mustEnd (σ := (begM σ 2 4)) hap hE (by first | exact hg | exact mustM_PW hg)) mw_X9_mustEnd wl_X9_145 (by decide) (by decide) rfl rfl (by simp [Value.category]) ?_
    refine g_eq (σ' := (rpY σ)) rfl rfl rfl (by unfold rpY; congr 1; first | exact hx1 (by assumption) (by assumption) | exact hx2 (by assumption) (by assumption) | exact hx3 (by assumption)) ?_
    refine g_aload_n C dX9_readPerson_40 (p := 1) (hi := rfl) (hv := rfl) ?_
    refine gm_g_fault C dX9_readPerson_41 wf_X9_102 ?_
    refine g_if_ne C (tgt := 71) dX9_readPerson_44 (by decide) (by omega) (fun h_2 => ?_) (fun h_2 => ?_)
    · exact hret _ _ _ dX9_readPerson_71 (by unfold rpM; (repeat' split) <;> first | (exfalso; omega) | rfl)
    · refine g_aload_n C dX9_readPerson_47 (p := 1) (hi := rfl) (hv := rfl) ?_
      refine gm_g_fresh C dX9_readPerson_48 wf_X9_22 ?_
      refine g_iconst C dX9_readPerson_51 ?_
      refine g_aload_n C dX9_readPerson_52 (p := 1) (hi := rfl) (hv := rfl) ?_
      refine gm_g_fresh C dX9_readPerson_53 wf_X9_22 ?_
      refine g_iconst C dX9_readPerson_56 ?_
      refine gm_l_fresh C dX9_readPerson_57 (by first | omega | (have h5 := hyz (by assumption); omega)) (by first | omega | (have h5 := hyz (by assumption); omega)) ?_
      refine g_iadd C dX9_readPerson_58 ?_
      refine g_iload_n C dX9_readPerson_59 (p := 0) (hi := rfl) (hv := rfl) ?_
      refine gm_s_fresh C dX9_readPerson_60 (by first | omega | (have h5 := hyz (by assumption); omega)) (by first | omega | (have h5 := hyz (by assumption); omega)) ?_
      refine g_aload_n C dX9_readPerson_61 (p := 1) (hi := rfl) (hv := rfl) ?_
      refine gm_g_fresh C dX9_readPerson_62 wf_X9_22 ?_
      refine g_iconst C dX9_readPerson_65 ?_
      refine g_dup2 C dX9_readPerson_66 rfl rfl ?_
      refine gm_l_fresh C dX9_readPerson_67 (by first | omega | (have h5 := hyz (by assumption); omega)) (by first | omega | (have h5 := hyz (by assumption); omega)) ?_
      refine g_cI (b := ((ru ((rpY σ) 5) (4 + ((rpY σ) 5 2)) (kinB (namR (begM σ 2 4)))) 2)) (by first | rfl | (rw [mr_app, if_pos rfl]; exact over_out (by omega)) | simp [mu_app, mr_app]) ?_
      refine g_iconst C dX9_readPerson_68 ?_
      refine g_iadd C dX9_readPerson_69 ?_
      refine gm_s_fresh C dX9_readPerson_70 (by first | omega | (have h5 := hyz (by assumption); omega)) (by first | omega | (have h5 := hyz (by assumption); omega)) ?_
      exact hret _ _ _ dX9_readPerson_71 (by unfold rpM; (repeat' split) <;> first | (exfalso; omega) | rfl)
  · refine g_aload_n C dX9_readPerson_21 (p := 1) (hi := rfl) (hv := rfl) ?_
    refine g_iload_n C dX9_readPerson_22 (p := 0) (hi := rfl) (hv := rfl) ?_
    refine g_ldc C (n := (-1000000)) wk_X9_80 (by decide +kernel) dX9_readPerson_23 ?_
    refine g_icmp_eq C (tgt := 32) dX9_readPerson_25 (by decide) (by omega) (by omega) (fun h_3 => ?_) (fun h_3 => ?_)
    · refine g_iconst C dX9_readPerson_32 ?_
      refine gm_callv C dX9_readPerson_33 (kX9_must (σ := (begM σ 2 4)) (so := 0) hap hE (by exact hg) (by first | assumption | omega | exact hPW)) mw_X9_must wl_X9_119 (by decide) (by decide) rfl rfl (by simp [Value.category]) ?_
      refine g_aload_n C dX9_readPerson_36 (p := 1) (hi := rfl) (hv := rfl) ?_
      refine gm_callv C dX9_readPerson_37 (kX9_mustEnd (σ := (mustM (begM σ 2 4) 0)) hap hE (by first | exact hg | exact mustM_PW hg)) mw_X9_mustEnd wl_X9_145 (by decide) (by decide) rfl rfl (by simp [Value.category]) ?_
      refine g_eq (σ' := (rpY σ)) rfl rfl rfl (by unfold rpY; congr 1; first | exact hx1 (by assumption) (by assumption) | exact hx2 (by assumption) (by assumption) | exact hx3 (by assumption)) ?_
      refine g_aload_n C dX9_readPerson_40 (p := 1) (hi := rfl) (hv := rfl) ?_
      refine gm_g_fault C dX9_readPerson_41 wf_X9_102 ?_
      refine g_if_ne C (tgt := 71) dX9_readPerson_44 (by decide) (by omega) (fun h_4 => ?_) (fun h_4 => ?_)
      · exact hret _ _ _ dX9_readPerson_71 (by unfold rpM; (repeat' split) <;> first | (exfalso; omega) | rfl)
      · refine g_aload_n C dX9_readPerson_47 (p := 1) (hi := rfl) (hv := rfl) ?_
        refine gm_g_fresh C dX9_readPerson_48 wf_X9_22 ?_
        refine g_iconst C dX9_readPerson_51 ?_
        refine g_aload_n C dX9_readPerson_52 (p := 1) (hi := rfl) (hv := rfl) ?_
        refine gm_g_fresh C dX9_readPerson_53 wf_X9_22 ?_
        refine g_iconst C dX9_readPerson_56 ?_
        refine gm_l_fresh C dX9_readPerson_57 (by first | omega | (have h5 := hyz (by assumption); omega)) (by first | omega | (have h5 := hyz (by assumption); omega)) ?_
        refine g_iadd C dX9_readPerson_58 ?_
        refine g_iload_n C dX9_readPerson_59 (p := 0) (hi := rfl) (hv := rfl) ?_
        refine gm_s_fresh C dX9_readPerson_60 (by first | omega | (have h5 := hyz (by assumption); omega)) (by first | omega | (have h5 := hyz (by assumption); omega)) ?_
        refine g_aload_n C dX9_readPerson_61 (p := 1) (hi := rfl) (hv := rfl) ?_
        refine gm_g_fresh C dX9_readPerson_62 wf_X9_22 ?_
        refine g_iconst C dX9_readPerson_65 ?_
        refine g_dup2 C dX9_readPerson_66 rfl rfl ?_
        refine gm_l_fresh C dX9_readPerson_67 (by first | omega | (have h5 := hyz (by assumption); omega)) (by first | omega | (have h5 := hyz (by assumption); omega)) ?_
        refine g_cI (b := ((ru ((rpY σ) 5) (4 + ((rpY σ) 5 2)) (kinB (namR (begM σ 2 4)))) 2)) (by first | rfl | (rw [mr_app, if_pos rfl]; exact over_out (by omega)) | simp [mu_app, mr_app]) ?_
        refine g_iconst C dX9_readPerson_68 ?_
        refine g_iadd C dX9_readPerson_69 ?_
        refine gm_s_fresh C dX9_readPerson_70 (by first | omega | (have h5 := hyz (by assumption); omega)) (by first | omega | (have h5 := hyz (by assumption); omega)) ?_
        exact hret _ _ _ dX9_readPerson_71 (by unfold rpM; (repeat' split) <;> first | (exfalso; omega) | rfl)
    · refine g_iconst C dX9_readPerson_28 ?_
      refine g_goto C (tgt := 33) dX9_readPerson_29 (by decide) ?_
      refine gm_callv C dX9_readPerson_33 (kX9_must (σ := (begM σ 2 4)) (so := 1) hap hE (by exact hg) (by first | assumption | omega | exact hPW)) mw_X9_must wl_X9_119 (by decide) (by decide) rfl rfl (by simp [Value.category]) ?_
      refine g_aload_n C dX9_readPerson_36 (p := 1) (hi := rfl) (hv := rfl) ?_
      refine gm_callv C dX9_readPerson_37 (kX9_mustEnd (σ := (mustM (begM σ 2 4) 1)) hap hE (by first | exact hg | exact mustM_PW hg)) mw_X9_mustEnd wl_X9_145 (by decide) (by decide) rfl rfl (by simp [Value.category]) ?_
      refine g_eq (σ' := (rpY σ)) rfl rfl rfl (by unfold rpY; congr 1; first | exact hx1 (by assumption) (by assumption) | exact hx2 (by assumption) (by assumption) | exact hx3 (by assumption)) ?_
      refine g_aload_n C dX9_readPerson_40 (p := 1) (hi := rfl) (hv := rfl) ?_
      refine gm_g_fault C dX9_readPerson_41 wf_X9_102 ?_
      refine g_if_ne C (tgt := 71) dX9_readPerson_44 (by decide) (by omega) (fun h_5 => ?_) (fun h_5 => ?_)
      · exact hret _ _ _ dX9_readPerson_71 (by unfold rpM; (repeat' split) <;> first | (exfalso; omega) | rfl)
      · refine g_aload_n C dX9_readPerson_47 (p := 1) (hi := rfl) (hv := rfl) ?_
        refine gm_g_fresh C dX9_readPerson_48 wf_X9_22 ?_
        refine g_iconst C dX9_readPerson_51 ?_
        refine g_aload_n C dX9_readPerson_52 (p := 1) (hi := rfl) (hv := rfl) ?_
        refine gm_g_fresh C dX9_readPerson_53 wf_X9_22 ?_
        refine g_iconst C dX9_readPerson_56 ?_
        refine gm_l_fresh C dX9_readPerson_57 (by first | omega | (have h5 := hyz (by assumption); omega)) (by first | omega | (have h5 := hyz (by assumption); omega)) ?_
        refine g_iadd C dX9_readPerson_58 ?_
        refine g_iload_n C dX9_readPerson_59 (p := 0) (hi := rfl) (hv := rfl) ?_
        refine gm_s_fresh C dX9_readPerson_60 (by first | omega | (have h5 := hyz (by assumption); omega)) (by first | omega | (have h5 := hyz (by assumption); omega)) ?_
        refine g_aload_n C dX9_readPerson_61 (p := 1) (hi := rfl) (hv := rfl) ?_
        refine gm_g_fresh C dX9_readPerson_62 wf_X9_22 ?_
        refine g_iconst C dX9_readPerson_65 ?_
        refine g_dup2 C dX9_readPerson_66 rfl rfl ?_
        refine gm_l_fresh C dX9_readPerson_67 (by first | omega | (have h5 := hyz (by assumption); omega)) (by first | omega | (have h5 := hyz (by assumption); omega)) ?_
        refine g_cI (b := ((ru ((rpY σ) 5) (4 + ((rpY σ) 5 2)) (kinB (namR (begM σ 2 4)))) 2)) (by first | rfl | (rw [mr_app, if_pos rfl]; exact over_out (by omega)) | simp [mu_app, mr_app]) ?_
        refine g_iconst C dX9_readPerson_68 ?_
        refine g_iadd C dX9_readPerson_69 ?_
        refine gm_s_fresh C dX9_readPerson_70 (by first | omega | (have h5 := hyz (by assumption); omega)) (by first | omega | (have h5 := hyz (by assumption); omega)) ?_
        exact hret _ _ _ dX9_readPerson_71 (by unfold rpM; (repeat' split) <;> first | (exfalso; omega) | rfl)

set_option maxHeartbeats 4000000 in
set_option maxRecDepth 100000 in
theorem kX4_isLetter {l : Launch} {K : Nat → ClassId} {D : va_G} {ad : Int → Nat} {E : gEnv} {σ : Mem} {c : Int} (hap : Apart ad 60) (hE : gEok E) (rc : R3 c) : CtI l K D ad 60 (cfC ad K) E yX4_isLetter cX4_isLetter 1 (some .boolean) 0 [.int (iI c)] σ (if 97 ≤ c ∧ c ≤ 122 then 1 else 0) σ := by
  refine ctI_of hap hE (by decide) rfl .boolean (nar_z (by split <;> simp)) (fun M C hn hret => ?_)
  have C : Good l K D ad 60 E 0 cX4_isLetter RX4 M := C
  show G M ad 60 (cfC ad K) 0 [(0, .int (iI c))] [] σ
  refine g_iload_n C dX4_isLetter_0 (p := 0) (hi := rfl) (hv := rfl) ?_
  refine (g_bipush C dX4_isLetter_1 (by decide)) ?_
  refine g_icmp_lt C (tgt := 16) dX4_isLetter_3 (by decide) (by omega) (by omega) (fun h_1 => ?_) (fun h_1 => ?_)
  · refine g_iconst C dX4_isLetter_16 ?_
    exact hret _ _ _ _ dX4_isLetter_17 (by first | rfl | omega | ((repeat' split) <;> first | (exfalso; omega) | rfl | exact mu_mu | omega)) (by first | rfl | omega | ((repeat' split) <;> first | (exfalso; omega) | rfl | exact mu_mu | omega))
  · refine g_iload_n C dX4_isLetter_6 (p := 0) (hi := rfl) (hv := rfl) ?_
    refine (g_bipush C dX4_isLetter_7 (by decide)) ?_
    refine g_icmp_gt C (tgt := 16) dX4_isLetter_9 (by decide) (by omega) (by omega) (fun h_2 => ?_) (fun h_2 => ?_)
    · refine g_iconst C dX4_isLetter_16 ?_
      exact hret _ _ _ _ dX4_isLetter_17 (by first | rfl | omega | ((repeat' split) <;> first | (exfalso; omega) | rfl | exact mu_mu | omega)) (by first | rfl | omega | ((repeat' split) <;> first | (exfalso; omega) | rfl | exact mu_mu | omega))
    · refine g_iconst C dX4_isLetter_12 ?_
      refine g_goto C (tgt := 17) dX4_isLetter_13 (by decide) ?_
      exact hret _ _ _ _ dX4_isLetter_17 (by first | rfl | omega | ((repeat' split) <;> first | (exfalso; omega) | rfl | exact mu_mu | omega)) (by first | rfl | omega | ((repeat' split) <;> first | (exfalso; omega) | rfl | exact mu_mu | omega))
set_option maxHeartbeats 4000000 in
set_option maxRecDepth 100000 in
theorem kX4_isFigure {l : Launch} {K : Nat → ClassId} {D : va_G} {ad : Int → Nat} {E : gEnv} {σ : Mem} {c : Int} (hap : Apart ad 60) (hE : gEok E) (rc : R3 c) : CtI l K D ad 60 (cfC ad K) E yX4_isFigure cX4_isFigure 1 (some .boolean) 0 [.int (iI c)] σ (if 48 ≤ c ∧ c ≤ 57 then 1 else 0) σ := by
  refine ctI_of hap hE (by decide) rfl .boolean (nar_z (by split <;> simp)) (fun M C hn hret => ?_)
  have C : Good l K D ad 60 E 0 cX4_isFigure RX4 M := C
  show G M ad 60 (cfC ad K) 0 [(0, .int (iI c))] [] σ
  refine g_iload_n C dX4_isFigure_0 (p := 0) (hi := rfl) (hv := rfl) ?_
  refine (g_bipush C dX4_isFigure_1 (by decide)) ?_
  refine g_icmp_lt C (tgt := 16) dX4_isFigure_3 (by decide) (by omega) (by omega) (fun h_1 => ?_) (fun h_1 => ?_)
  · refine g_iconst C dX4_isFigure_16 ?_
    exact hret _ _ _ _ dX4_isFigure_17 (by first | rfl | omega | ((repeat' split) <;> first | (exfalso; omega) | rfl | exact mu_mu | omega)) (by first | rfl | omega | ((repeat' split) <;> first | (exfalso; omega) | rfl | exact mu_mu | omega))
  · refine g_iload_n C dX4_isFigure_6 (p := 0) (hi := rfl) (hv := rfl) ?_
    refine (g_bipush C dX4_isFigure_7 (by decide)) ?_
    refine g_icmp_gt C (tgt := 16) dX4_isFigure_9 (by decide) (by omega) (by omega) (fun h_2 => ?_) (fun h_2 => ?_)
    · refine g_iconst C dX4_isFigure_16 ?_
      exact hret _ _ _ _ dX4_isFigure_17 (by first | rfl | omega | ((repeat' split) <;> first | (exfalso; omega) | rfl | exact mu_mu | omega)) (by first | rfl | omega | ((repeat' split) <;> first | (exfalso; omega) | rfl | exact mu_mu | omega))
    · refine g_iconst C dX4_isFigure_12 ?_
      refine g_goto C (tgt := 17) dX4_isFigure_13 (by decide) ?_
      exact hret _ _ _ _ dX4_isFigure_17 (by first | rfl | omega | ((repeat' split) <;> first | (exfalso; omega) | rfl | exact mu_mu | omega)) (by first | rfl | omega | ((repeat' split) <;> first | (exfalso; omega) | rfl | exact mu_mu | omega))
theorem kX4_isLetter_y {l : Launch} {K : Nat → ClassId} {D : va_G} {ad : Int → Nat} {E : gEnv} {σ : Mem} {c : Int} (hap : Apart ad 60) (hE : gEok E) (rc : R3 c) (hcond : 97 ≤ c ∧ c ≤ 122) : CtI l K D ad 60 (cfC ad K) E yX4_isLetter cX4_isLetter 1 (some .boolean) 0 [.int (iI c)] σ 1 σ := by
  have h1 := kX4_isLetter (l := l) (K := K) (D := D) (E := E) (σ := σ) (c := c) hap hE rc
  rw [if_pos hcond] at h1
  exact h1
theorem kX4_isLetter_n {l : Launch} {K : Nat → ClassId} {D : va_G} {ad : Int → Nat} {E : gEnv} {σ : Mem} {c : Int} (hap : Apart ad 60) (hE : gEok E) (rc : R3 c) (hcond : ¬ (97 ≤ c ∧ c ≤ 122)) : CtI l K D ad 60 (cfC ad K) E yX4_isLetter cX4_isLetter 1 (some .boolean) 0 [.int (iI c)] σ 0 σ := by
  have h1 := kX4_isLetter (l := l) (K := K) (D := D) (E := E) (σ := σ) (c := c) hap hE rc
  rw [if_neg hcond] at h1
  exact h1
theorem kX4_isFigure_y {l : Launch} {K : Nat → ClassId} {D : va_G} {ad : Int → Nat} {E : gEnv} {σ : Mem} {c : Int} (hap : Apart ad 60) (hE : gEok E) (rc : R3 c) (hcond : 48 ≤ c ∧ c ≤ 57) : CtI l K D ad 60 (cfC ad K) E yX4_isFigure cX4_isFigure 1 (some .boolean) 0 [.int (iI c)] σ 1 σ := by
  have h1 := kX4_isFigure (l := l) (K := K) (D := D) (E := E) (σ := σ) (c := c) hap hE rc
  rw [if_pos hcond] at h1
  exact h1
theorem kX4_isFigure_n {l : Launch} {K : Nat → ClassId} {D : va_G} {ad : Int → Nat} {E : gEnv} {σ : Mem} {c : Int} (hap : Apart ad 60) (hE : gEok E) (rc : R3 c) (hcond : ¬ (48 ≤ c ∧ c ≤ 57)) : CtI l K D ad 60 (cfC ad K) E yX4_isFigure cX4_isFigure 1 (some .boolean) 0 [.int (iI c)] σ 0 σ := by
  have h1 := kX4_isFigure (l := l) (K := K) (D := D) (E := E) (σ := σ) (c := c) hap hE rc
  rw [if_neg hcond] at h1
  exact h1
set_option maxHeartbeats 4000000 in
set_option maxRecDepth 100000 in
theorem kX4_step {l : Launch} {K : Nat → ClassId} {D : va_G} {ad : Int → Nat} {E : gEnv} {σ : Mem} (hap : Apart ad 60) (hE : gEok E) (htr : TRC σ) : CtV l K D ad 60 (cfC ad K) E yX4_step cX4_step 1 none 1 [.ref (ad 3)] σ (stM σ) := by
  have hb4 := htr.1
  have h31 := htr.2.1
  have h34 := htr.2.2
  refine ctV_of hap hE (by decide) rfl (fun M C hn hret => ?_)
  have C : Good l K D ad 60 E 1 cX4_step RX4 M := C
  show G M ad 60 (cfC ad K) 0 [(0, .ref (ad 3))] [] σ
  refine g_aload_n C dX4_step_0 (p := 0) (hi := rfl) (hv := rfl) ?_
  refine g_aload_n C dX4_step_1 (p := 0) (hi := rfl) (hv := rfl) ?_
  refine gc_g_X4_behind C dX4_step_2 wf_X4_27 ?_
  refine gc_p_X4_at C dX4_step_5 wf_X4_112 ?_
  have L8 : ∀ (m : Nat) (xa : Int), ((0 : Int) ≤ xa ∧ xa ≤ σ 3 1) → (scan (blB (σ 4) (σ 3 1)) (σ 3 1) xa = scan (blB (σ 4) (σ 3 1)) (σ 3 1) (σ 3 4)) → (σ 3 1 - xa).toNat < m → G M ad 60 (cfC ad K) 8 [(0, .ref (ad 3))] [] (mu σ 3 3 xa) := by
    intro m; induction m with
    | zero => intros; omega
    | succ m ihm =>
      intro xa hxxa hsxa hmeas
      have hby := hb4 xa
      have hbx := @blB_x (σ 4) (σ 3 1) xa
      refine g_aload_n C dX4_step_8 (p := 0) (hi := rfl) (hv := rfl) ?_
      refine gc_g_X4_at C dX4_step_9 wf_X4_112 ?_
      refine g_cI (b := xa) (by first | rfl | (simp only [mu_app, mr_app, ru, over, and_self, ↓reduceIte]; (repeat (first | rw [if_neg (by omega)] | rw [if_pos (by omega)])))) ?_
      refine g_aload_n C dX4_step_12 (p := 0) (hi := rfl) (hv := rfl) ?_
      refine gc_g_X4_fed C dX4_step_13 wf_X4_15 ?_
      refine g_cI (b := (σ 3 1)) (by first | rfl | (simp only [mu_app, mr_app, ru, over, and_self, ↓reduceIte]; (repeat (first | rw [if_neg (by omega)] | rw [if_pos (by omega)])))) ?_
      refine g_icmp_ge C (tgt := 60) dX4_step_16 (by decide) (by omega) (by omega) (fun h_1 => ?_) (fun h_1 => ?_)
      · have exa : xa = scan (blB (σ 4) (σ 3 1)) (σ 3 1) (σ 3 4) := by rw [← hsxa, scan_stop (by omega)]
        refine g_aload_n C dX4_step_60 (p := 0) (hi := rfl) (hv := rfl) ?_
        refine g_aload_n C dX4_step_61 (p := 0) (hi := rfl) (hv := rfl) ?_
        refine gc_g_X4_at C dX4_step_62 wf_X4_112 ?_
        refine g_cI (b := xa) (by first | rfl | (simp only [mu_app, mr_app, ru, over, and_self, ↓reduceIte]; (repeat (first | rw [if_neg (by omega)] | rw [if_pos (by omega)])))) ?_
        refine gc_p_X4_behind C dX4_step_65 wf_X4_27 ?_
        refine g_aload_n C dX4_step_68 (p := 0) (hi := rfl) (hv := rfl) ?_
        refine gc_g_X4_at C dX4_step_69 wf_X4_112 ?_
        refine g_cI (b := xa) (by first | rfl | (simp only [mu_app, mr_app, ru, over, and_self, ↓reduceIte]; (repeat (first | rw [if_neg (by omega)] | rw [if_pos (by omega)])))) ?_
        refine g_aload_n C dX4_step_72 (p := 0) (hi := rfl) (hv := rfl) ?_
        refine gc_g_X4_fed C dX4_step_73 wf_X4_15 ?_
        refine g_cI (b := (σ 3 1)) (by first | rfl | (simp only [mu_app, mr_app, ru, over, and_self, ↓reduceIte]; (repeat (first | rw [if_neg (by omega)] | rw [if_pos (by omega)])))) ?_
        refine g_icmp_lt C (tgt := 87) dX4_step_76 (by decide) (by omega) (by omega) (fun h_2 => ?_) (fun h_2 => ?_)
        · refine g_aload_n C dX4_step_87 (p := 0) (hi := rfl) (hv := rfl) ?_
          refine gc_g_X4_tape C dX4_step_88 wf_X4_11 ?_
          refine g_aload_n C dX4_step_91 (p := 0) (hi := rfl) (hv := rfl) ?_
          refine gc_g_X4_at C dX4_step_92 wf_X4_112 ?_
          refine g_cI (b := xa) (by first | rfl | (simp only [mu_app, mr_app, ru, over, and_self, ↓reduceIte]; (repeat (first | rw [if_neg (by omega)] | rw [if_pos (by omega)])))) ?_
          refine gc_l_tape C dX4_step_95 (by omega) (by omega) ?_
          refine g_cI (b := (σ 4 xa)) (by first | rfl | (simp only [mu_app, mr_app, ru, over, and_self, ↓reduceIte]; (repeat (first | rw [if_neg (by omega)] | rw [if_pos (by omega)])))) ?_
          by_cases hb_3 : 97 ≤ (σ 4 xa) ∧ (σ 4 xa) ≤ 122
          · refine g_callS C dX4_step_96 (kX4_isLetter_y (σ := (mu (mu σ 3 3 xa) 3 4 xa)) (c := σ 4 xa) hap hE (by first | assumption | omega | exact htr) (by first | assumption | omega | exact htr)) mw_X4_isLetter wl_X4_124 (by decide) (by decide) rfl rfl (by simp [Value.category]) ?_
            refine g_if_eq C (tgt := 149) dX4_step_99 (by decide) (by omega) (fun h_4 => ?_) (fun h_4 => ?_)
            · exact absurd h_4 (by decide)
            · have L102 : ∀ (m : Nat) (xb : Int), ((0 : Int) ≤ xb ∧ xb ≤ σ 3 1) → (scan (leB (σ 4) (σ 3 1)) (σ 3 1) xb = scan (leB (σ 4) (σ 3 1)) (σ 3 1) xa) → (σ 3 1 - xb).toNat < m → G M ad 60 (cfC ad K) 102 [(0, .ref (ad 3))] [] (mu (mu σ 3 3 xa) 3 4 xb) := by
                intro m; induction m with
                | zero => intros; omega
                | succ m ihm =>
                  intro xb hxxb hsxb hmeas
                  have hby := hb4 xb
                  have hbx := @leB_x (σ 4) (σ 3 1) xb
                  refine g_aload_n C dX4_step_102 (p := 0) (hi := rfl) (hv := rfl) ?_
                  refine gc_g_X4_behind C dX4_step_103 wf_X4_27 ?_
                  refine g_cI (b := xb) (by first | rfl | (simp only [mu_app, mr_app, ru, over, and_self, ↓reduceIte]; (repeat (first | rw [if_neg (by omega)] | rw [if_pos (by omega)])))) ?_
                  refine g_aload_n C dX4_step_106 (p := 0) (hi := rfl) (hv := rfl) ?_
                  refine gc_g_X4_fed C dX4_step_107 wf_X4_15 ?_
                  refine g_cI (b := (σ 3 1)) (by first | rfl | (simp only [mu_app, mr_app, ru, over, and_self, ↓reduceIte]; (repeat (first | rw [if_neg (by omega)] | rw [if_pos (by omega)])))) ?_
                  refine g_icmp_ge C (tgt := 141) dX4_step_110 (by decide) (by omega) (by omega) (fun h_5 => ?_) (fun h_5 => ?_)
                  · have exb : xb = scan (leB (σ 4) (σ 3 1)) (σ 3 1) xa := by rw [← hsxb, scan_stop (by omega)]
                    refine g_aload_n C dX4_step_141 (p := 0) (hi := rfl) (hv := rfl) ?_
                    refine g_iconst C dX4_step_142 ?_
                    refine gc_p_X4_token C dX4_step_143 wf_X4_43 ?_
                    refine g_goto C (tgt := 261) dX4_step_146 (by decide) ?_
                    exact hret _ _ _ dX4_step_261 (by (have hS : (tkS (σ 4) (σ 3 1) (σ 3 4)) = xa := exa.symm); exact st_fin hS (by unfold tkE; rw [hS]; (repeat' split) <;> first | (exfalso; omega) | exact exb.symm | exact exc.symm | rfl) (by unfold tkC tkT tkE; rw [hS]; (repeat' split) <;> first | (exfalso; omega) | rfl | (rw [← exb] at *; exfalso; omega) | (rw [← exc] at *; exfalso; omega) | omega))
                  · refine g_aload_n C dX4_step_113 (p := 0) (hi := rfl) (hv := rfl) ?_
                    refine gc_g_X4_tape C dX4_step_114 wf_X4_11 ?_
                    refine g_aload_n C dX4_step_117 (p := 0) (hi := rfl) (hv := rfl) ?_
                    refine gc_g_X4_behind C dX4_step_118 wf_X4_27 ?_
                    refine g_cI (b := xb) (by first | rfl | (simp only [mu_app, mr_app, ru, over, and_self, ↓reduceIte]; (repeat (first | rw [if_neg (by omega)] | rw [if_pos (by omega)])))) ?_
                    refine gc_l_tape C dX4_step_121 (by omega) (by omega) ?_
                    refine g_cI (b := (σ 4 xb)) (by first | rfl | (simp only [mu_app, mr_app, ru, over, and_self, ↓reduceIte]; (repeat (first | rw [if_neg (by omega)] | rw [if_pos (by omega)])))) ?_
                    by_cases hb_6 : 97 ≤ (σ 4 xb) ∧ (σ 4 xb) ≤ 122
                    · refine g_callS C dX4_step_122 (kX4_isLetter_y (σ := (mu (mu σ 3 3 xa) 3 4 xb)) (c := σ 4 xb) hap hE (by first | assumption | omega | exact htr) (by first | assumption | omega | exact htr)) mw_X4_isLetter wl_X4_124 (by decide) (by decide) rfl rfl (by simp [Value.category]) ?_
                      refine g_if_eq C (tgt := 141) dX4_step_125 (by decide) (by omega) (fun h_7 => ?_) (fun h_7 => ?_)
                      · exact absurd h_7 (by decide)
                      · refine g_aload_n C dX4_step_128 (p := 0) (hi := rfl) (hv := rfl) ?_
                        refine g_dup C dX4_step_129 rfl ?_
                        refine gc_g_X4_behind C dX4_step_130 wf_X4_27 ?_
                        refine g_cI (b := xb) (by first | rfl | (simp only [mu_app, mr_app, ru, over, and_self, ↓reduceIte]; (repeat (first | rw [if_neg (by omega)] | rw [if_pos (by omega)])))) ?_
                        refine g_iconst C dX4_step_133 ?_
                        refine g_iadd C dX4_step_134 ?_
                        refine gc_p_X4_behind C dX4_step_135 wf_X4_27 ?_
                        refine g_eq rfl rfl rfl mu_mu ?_
                        refine g_goto C (tgt := 102) dX4_step_138 (by decide) ?_
                        refine g_sub [0] rfl ?_
                        exact ihm (xb + 1) (by first | rfl | assumption | omega) (by rw [← scan_step (by omega) (by omega)]; assumption) (by omega)
                    · refine g_callS C dX4_step_122 (kX4_isLetter_n (σ := (mu (mu σ 3 3 xa) 3 4 xb)) (c := σ 4 xb) hap hE (by first | assumption | omega | exact htr) (by first | assumption | omega | exact htr)) mw_X4_isLetter wl_X4_124 (by decide) (by decide) rfl rfl (by simp [Value.category]) ?_
                      refine g_if_eq C (tgt := 141) dX4_step_125 (by decide) (by omega) (fun h_8 => ?_) (fun h_8 => ?_)
                      · have exb : xb = scan (leB (σ 4) (σ 3 1)) (σ 3 1) xa := by rw [← hsxb, scan_stop (by omega)]
                        refine g_aload_n C dX4_step_141 (p := 0) (hi := rfl) (hv := rfl) ?_
                        refine g_iconst C dX4_step_142 ?_
                        refine gc_p_X4_token C dX4_step_143 wf_X4_43 ?_
                        refine g_goto C (tgt := 261) dX4_step_146 (by decide) ?_
                        exact hret _ _ _ dX4_step_261 (by (have hS : (tkS (σ 4) (σ 3 1) (σ 3 4)) = xa := exa.symm); exact st_fin hS (by unfold tkE; rw [hS]; (repeat' split) <;> first | (exfalso; omega) | exact exb.symm | exact exc.symm | rfl) (by unfold tkC tkT tkE; rw [hS]; (repeat' split) <;> first | (exfalso; omega) | rfl | (rw [← exb] at *; exfalso; omega) | (rw [← exc] at *; exfalso; omega) | omega))
                      · exact absurd h_8 (by decide)
              refine g_sub [0] rfl ?_
              refine g_eq (σ' := (mu (mu σ 3 3 xa) 3 4 xa)) rfl rfl rfl (by rfl) ?_
              exact L102 _ xa (by first | rfl | assumption | omega) (by first | rfl | assumption | omega) (Nat.lt_succ_self _)
          · refine g_callS C dX4_step_96 (kX4_isLetter_n (σ := (mu (mu σ 3 3 xa) 3 4 xa)) (c := σ 4 xa) hap hE (by first | assumption | omega | exact htr) (by first | assumption | omega | exact htr)) mw_X4_isLetter wl_X4_124 (by decide) (by decide) rfl rfl (by simp [Value.category]) ?_
            refine g_if_eq C (tgt := 149) dX4_step_99 (by decide) (by omega) (fun h_9 => ?_) (fun h_9 => ?_)
            · refine g_aload_n C dX4_step_149 (p := 0) (hi := rfl) (hv := rfl) ?_
              refine gc_g_X4_tape C dX4_step_150 wf_X4_11 ?_
              refine g_aload_n C dX4_step_153 (p := 0) (hi := rfl) (hv := rfl) ?_
              refine gc_g_X4_at C dX4_step_154 wf_X4_112 ?_
              refine g_cI (b := xa) (by first | rfl | (simp only [mu_app, mr_app, ru, over, and_self, ↓reduceIte]; (repeat (first | rw [if_neg (by omega)] | rw [if_pos (by omega)])))) ?_
              refine gc_l_tape C dX4_step_157 (by omega) (by omega) ?_
              refine g_cI (b := (σ 4 xa)) (by first | rfl | (simp only [mu_app, mr_app, ru, over, and_self, ↓reduceIte]; (repeat (first | rw [if_neg (by omega)] | rw [if_pos (by omega)])))) ?_
              by_cases hb_10 : 48 ≤ (σ 4 xa) ∧ (σ 4 xa) ≤ 57
              · refine g_callS C dX4_step_158 (kX4_isFigure_y (σ := (mu (mu σ 3 3 xa) 3 4 xa)) (c := σ 4 xa) hap hE (by first | assumption | omega | exact htr) (by first | assumption | omega | exact htr)) mw_X4_isFigure wl_X4_127 (by decide) (by decide) rfl rfl (by simp [Value.category]) ?_
                refine g_if_eq C (tgt := 228) dX4_step_161 (by decide) (by omega) (fun h_11 => ?_) (fun h_11 => ?_)
                · exact absurd h_11 (by decide)
                · have L164 : ∀ (m : Nat) (xc : Int), ((0 : Int) ≤ xc ∧ xc ≤ σ 3 1) → (scan (fiB (σ 4) (σ 3 1)) (σ 3 1) xc = scan (fiB (σ 4) (σ 3 1)) (σ 3 1) xa) → (σ 3 1 - xc).toNat < m → G M ad 60 (cfC ad K) 164 [(0, .ref (ad 3))] [] (mu (mu σ 3 3 xa) 3 4 xc) := by
                    intro m; induction m with
                    | zero => intros; omega
                    | succ m ihm =>
                      intro xc hxxc hsxc hmeas
                      have hby := hb4 xc
                      have hbx := @fiB_x (σ 4) (σ 3 1) xc
                      refine g_aload_n C dX4_step_164 (p := 0) (hi := rfl) (hv := rfl) ?_
                      refine gc_g_X4_behind C dX4_step_165 wf_X4_27 ?_
                      refine g_cI (b := xc) (by first | rfl | (simp only [mu_app, mr_app, ru, over, and_self, ↓reduceIte]; (repeat (first | rw [if_neg (by omega)] | rw [if_pos (by omega)])))) ?_
                      refine g_aload_n C dX4_step_168 (p := 0) (hi := rfl) (hv := rfl) ?_
                      refine gc_g_X4_fed C dX4_step_169 wf_X4_15 ?_
                      refine g_cI (b := (σ 3 1)) (by first | rfl | (simp only [mu_app, mr_app, ru, over, and_self, ↓reduceIte]; (repeat (first | rw [if_neg (by omega)] | rw [if_pos (by omega)])))) ?_
                      refine g_icmp_ge C (tgt := 203) dX4_step_172 (by decide) (by omega) (by omega) (fun h_12 => ?_) (fun h_12 => ?_)
                      · have exc : xc = scan (fiB (σ 4) (σ 3 1)) (σ 3 1) xa := by rw [← hsxc, scan_stop (by omega)]
                        refine g_aload_n C dX4_step_203 (p := 0) (hi := rfl) (hv := rfl) ?_
                        refine g_aload_n C dX4_step_204 (p := 0) (hi := rfl) (hv := rfl) ?_
                        refine gc_g_X4_behind C dX4_step_205 wf_X4_27 ?_
                        refine g_cI (b := xc) (by first | rfl | (simp only [mu_app, mr_app, ru, over, and_self, ↓reduceIte]; (repeat (first | rw [if_neg (by omega)] | rw [if_pos (by omega)])))) ?_
                        refine g_aload_n C dX4_step_208 (p := 0) (hi := rfl) (hv := rfl) ?_
                        refine gc_g_X4_at C dX4_step_209 wf_X4_112 ?_
                        refine g_cI (b := xa) (by first | rfl | (simp only [mu_app, mr_app, ru, over, and_self, ↓reduceIte]; (repeat (first | rw [if_neg (by omega)] | rw [if_pos (by omega)])))) ?_
                        refine g_isub C dX4_step_212 ?_
                        refine g_iconst C dX4_step_213 ?_
                        refine g_icmp_le C (tgt := 221) dX4_step_214 (by decide) (by omega) (by omega) (fun h_13 => ?_) (fun h_13 => ?_)
                        · refine g_iconst C dX4_step_221 ?_
                          refine gc_p_X4_token C dX4_step_222 wf_X4_43 ?_
                          refine g_goto C (tgt := 261) dX4_step_225 (by decide) ?_
                          exact hret _ _ _ dX4_step_261 (by (have hS : (tkS (σ 4) (σ 3 1) (σ 3 4)) = xa := exa.symm); exact st_fin hS (by unfold tkE; rw [hS]; (repeat' split) <;> first | (exfalso; omega) | exact exb.symm | exact exc.symm | rfl) (by unfold tkC tkT tkE; rw [hS]; (repeat' split) <;> first | (exfalso; omega) | rfl | (rw [← exb] at *; exfalso; omega) | (rw [← exc] at *; exfalso; omega) | omega))
                        · refine g_iconst C dX4_step_217 ?_
                          refine g_goto C (tgt := 222) dX4_step_218 (by decide) ?_
                          refine gc_p_X4_token C dX4_step_222 wf_X4_43 ?_
                          refine g_goto C (tgt := 261) dX4_step_225 (by decide) ?_
                          exact hret _ _ _ dX4_step_261 (by (have hS : (tkS (σ 4) (σ 3 1) (σ 3 4)) = xa := exa.symm); exact st_fin hS (by unfold tkE; rw [hS]; (repeat' split) <;> first | (exfalso; omega) | exact exb.symm | exact exc.symm | rfl) (by unfold tkC tkT tkE; rw [hS]; (repeat' split) <;> first | (exfalso; omega) | rfl | (rw [← exb] at *; exfalso; omega) | (rw [← exc] at *; exfalso; omega) | omega))
                      · refine g_aload_n C dX4_step_175 (p := 0) (hi := rfl) (hv := rfl) ?_
                        refine gc_g_X4_tape C dX4_step_176 wf_X4_11 ?_
                        refine g_aload_n C dX4_step_179 (p := 0) (hi := rfl) (hv := rfl) ?_
                        refine gc_g_X4_behind C dX4_step_180 wf_X4_27 ?_
                        refine g_cI (b := xc) (by first | rfl | (simp only [mu_app, mr_app, ru, over, and_self, ↓reduceIte]; (repeat (first | rw [if_neg (by omega)] | rw [if_pos (by omega)])))) ?_
                        refine gc_l_tape C dX4_step_183 (by omega) (by omega) ?_
                        refine g_cI (b := (σ 4 xc)) (by first | rfl | (simp only [mu_app, mr_app, ru, over, and_self, ↓reduceIte]; (repeat (first | rw [if_neg (by omega)] | rw [if_pos (by omega)])))) ?_
                        by_cases hb_14 : 48 ≤ (σ 4 xc) ∧ (σ 4 xc) ≤ 57
                        · refine g_callS C dX4_step_184 (kX4_isFigure_y (σ := (mu (mu σ 3 3 xa) 3 4 xc)) (c := σ 4 xc) hap hE (by first | assumption | omega | exact htr) (by first | assumption | omega | exact htr)) mw_X4_isFigure wl_X4_127 (by decide) (by decide) rfl rfl (by simp [Value.category]) ?_
                          refine g_if_eq C (tgt := 203) dX4_step_187 (by decide) (by omega) (fun h_15 => ?_) (fun h_15 => ?_)
                          · exact absurd h_15 (by decide)
                          · refine g_aload_n C dX4_step_190 (p := 0) (hi := rfl) (hv := rfl) ?_
                            refine g_dup C dX4_step_191 rfl ?_
                            refine gc_g_X4_behind C dX4_step_192 wf_X4_27 ?_
                            refine g_cI (b := xc) (by first | rfl | (simp only [mu_app, mr_app, ru, over, and_self, ↓reduceIte]; (repeat (first | rw [if_neg (by omega)] | rw [if_pos (by omega)])))) ?_
                            refine g_iconst C dX4_step_195 ?_
                            refine g_iadd C dX4_step_196 ?_
                            refine gc_p_X4_behind C dX4_step_197 wf_X4_27 ?_
                            refine g_eq rfl rfl rfl mu_mu ?_
                            refine g_goto C (tgt := 164) dX4_step_200 (by decide) ?_
                            refine g_sub [0] rfl ?_
                            exact ihm (xc + 1) (by first | rfl | assumption | omega) (by rw [← scan_step (by omega) (by omega)]; assumption) (by omega)
                        · refine g_callS C dX4_step_184 (kX4_isFigure_n (σ := (mu (mu σ 3 3 xa) 3 4 xc)) (c := σ 4 xc) hap hE (by first | assumption | omega | exact htr) (by first | assumption | omega | exact htr)) mw_X4_isFigure wl_X4_127 (by decide) (by decide) rfl rfl (by simp [Value.category]) ?_
                          refine g_if_eq C (tgt := 203) dX4_step_187 (by decide) (by omega) (fun h_16 => ?_) (fun h_16 => ?_)
                          · have exc : xc = scan (fiB (σ 4) (σ 3 1)) (σ 3 1) xa := by rw [← hsxc, scan_stop (by omega)]
                            refine g_aload_n C dX4_step_203 (p := 0) (hi := rfl) (hv := rfl) ?_
                            refine g_aload_n C dX4_step_204 (p := 0) (hi := rfl) (hv := rfl) ?_
                            refine gc_g_X4_behind C dX4_step_205 wf_X4_27 ?_
                            refine g_cI (b := xc) (by first | rfl | (simp only [mu_app, mr_app, ru, over, and_self, ↓reduceIte]; (repeat (first | rw [if_neg (by omega)] | rw [if_pos (by omega)])))) ?_
                            refine g_aload_n C dX4_step_208 (p := 0) (hi := rfl) (hv := rfl) ?_
                            refine gc_g_X4_at C dX4_step_209 wf_X4_112 ?_
                            refine g_cI (b := xa) (by first | rfl | (simp only [mu_app, mr_app, ru, over, and_self, ↓reduceIte]; (repeat (first | rw [if_neg (by omega)] | rw [if_pos (by omega)])))) ?_
                            refine g_isub C dX4_step_212 ?_
                            refine g_iconst C dX4_step_213 ?_
                            refine g_icmp_le C (tgt := 221) dX4_step_214 (by decide) (by omega) (by omega) (fun h_17 => ?_) (fun h_17 => ?_)
                            · refine g_iconst C dX4_step_221 ?_
                              refine gc_p_X4_token C dX4_step_222 wf_X4_43 ?_
                              refine g_goto C (tgt := 261) dX4_step_225 (by decide) ?_
                              exact hret _ _ _ dX4_step_261 (by (have hS : (tkS (σ 4) (σ 3 1) (σ 3 4)) = xa := exa.symm); exact st_fin hS (by unfold tkE; rw [hS]; (repeat' split) <;> first | (exfalso; omega) | exact exb.symm | exact exc.symm | rfl) (by unfold tkC tkT tkE; rw [hS]; (repeat' split) <;> first | (exfalso; omega) | rfl | (rw [← exb] at *; exfalso; omega) | (rw [← exc] at *; exfalso; omega) | omega))
                            · refine g_iconst C dX4_step_217 ?_
                              refine g_goto C (tgt := 222) dX4_step_218 (by decide) ?_
                              refine gc_p_X4_token C dX4_step_222 wf_X4_43 ?_
                              refine g_goto C (tgt := 261) dX4_step_225 (by decide) ?_
                              exact hret _ _ _ dX4_step_261 (by (have hS : (tkS (σ 4) (σ 3 1) (σ 3 4)) = xa := exa.symm); exact st_fin hS (by unfold tkE; rw [hS]; (repeat' split) <;> first | (exfalso; omega) | exact exb.symm | exact exc.symm | rfl) (by unfold tkC tkT tkE; rw [hS]; (repeat' split) <;> first | (exfalso; omega) | rfl | (rw [← exb] at *; exfalso; omega) | (rw [← exc] at *; exfalso; omega) | omega))
                          · exact absurd h_16 (by decide)
                  refine g_sub [0] rfl ?_
                  refine g_eq (σ' := (mu (mu σ 3 3 xa) 3 4 xa)) rfl rfl rfl (by rfl) ?_
                  exact L164 _ xa (by first | rfl | assumption | omega) (by first | rfl | assumption | omega) (Nat.lt_succ_self _)
              · refine g_callS C dX4_step_158 (kX4_isFigure_n (σ := (mu (mu σ 3 3 xa) 3 4 xa)) (c := σ 4 xa) hap hE (by first | assumption | omega | exact htr) (by first | assumption | omega | exact htr)) mw_X4_isFigure wl_X4_127 (by decide) (by decide) rfl rfl (by simp [Value.category]) ?_
                refine g_if_eq C (tgt := 228) dX4_step_161 (by decide) (by omega) (fun h_18 => ?_) (fun h_18 => ?_)
                · refine g_aload_n C dX4_step_228 (p := 0) (hi := rfl) (hv := rfl) ?_
                  refine g_dup C dX4_step_229 rfl ?_
                  refine gc_g_X4_behind C dX4_step_230 wf_X4_27 ?_
                  refine g_cI (b := xa) (by first | rfl | (simp only [mu_app, mr_app, ru, over, and_self, ↓reduceIte]; (repeat (first | rw [if_neg (by omega)] | rw [if_pos (by omega)])))) ?_
                  refine g_iconst C dX4_step_233 ?_
                  refine g_iadd C dX4_step_234 ?_
                  refine gc_p_X4_behind C dX4_step_235 wf_X4_27 ?_
                  refine g_eq rfl rfl rfl mu_mu ?_
                  refine g_aload_n C dX4_step_238 (p := 0) (hi := rfl) (hv := rfl) ?_
                  refine g_aload_n C dX4_step_239 (p := 0) (hi := rfl) (hv := rfl) ?_
                  refine gc_g_X4_tape C dX4_step_240 wf_X4_11 ?_
                  refine g_aload_n C dX4_step_243 (p := 0) (hi := rfl) (hv := rfl) ?_
                  refine gc_g_X4_at C dX4_step_244 wf_X4_112 ?_
                  refine g_cI (b := xa) (by first | rfl | (simp only [mu_app, mr_app, ru, over, and_self, ↓reduceIte]; (repeat (first | rw [if_neg (by omega)] | rw [if_pos (by omega)])))) ?_
                  refine gc_l_tape C dX4_step_247 (by omega) (by omega) ?_
                  refine g_cI (b := (σ 4 xa)) (by first | rfl | (simp only [mu_app, mr_app, ru, over, and_self, ↓reduceIte]; (repeat (first | rw [if_neg (by omega)] | rw [if_pos (by omega)])))) ?_
                  refine (g_bipush C dX4_step_248 (by decide)) ?_
                  refine g_icmp_ne C (tgt := 257) dX4_step_250 (by decide) (by omega) (by omega) (fun h_19 => ?_) (fun h_19 => ?_)
                  · refine g_iconst C dX4_step_257 ?_
                    refine gc_p_X4_token C dX4_step_258 wf_X4_43 ?_
                    exact hret _ _ _ dX4_step_261 (by (have hS : (tkS (σ 4) (σ 3 1) (σ 3 4)) = xa := exa.symm); exact st_fin hS (by unfold tkE; rw [hS]; (repeat' split) <;> first | (exfalso; omega) | exact exb.symm | exact exc.symm | rfl) (by unfold tkC tkT tkE; rw [hS]; (repeat' split) <;> first | (exfalso; omega) | rfl | (rw [← exb] at *; exfalso; omega) | (rw [← exc] at *; exfalso; omega) | omega))
                  · refine g_iconst C dX4_step_253 ?_
                    refine g_goto C (tgt := 258) dX4_step_254 (by decide) ?_
                    refine gc_p_X4_token C dX4_step_258 wf_X4_43 ?_
                    exact hret _ _ _ dX4_step_261 (by (have hS : (tkS (σ 4) (σ 3 1) (σ 3 4)) = xa := exa.symm); exact st_fin hS (by unfold tkE; rw [hS]; (repeat' split) <;> first | (exfalso; omega) | exact exb.symm | exact exc.symm | rfl) (by unfold tkC tkT tkE; rw [hS]; (repeat' split) <;> first | (exfalso; omega) | rfl | (rw [← exb] at *; exfalso; omega) | (rw [← exc] at *; exfalso; omega) | omega))
                · exact absurd h_18 (by decide)
            · exact absurd h_9 (by decide)
        · refine g_aload_n C dX4_step_79 (p := 0) (hi := rfl) (hv := rfl) ?_
          refine g_iconst C dX4_step_80 ?_
          refine gc_p_X4_token C dX4_step_81 wf_X4_43 ?_
          refine g_goto C (tgt := 261) dX4_step_84 (by decide) ?_
          exact hret _ _ _ dX4_step_261 (by (have hS : (tkS (σ 4) (σ 3 1) (σ 3 4)) = xa := exa.symm); exact st_fin hS (by unfold tkE; rw [hS]; (repeat' split) <;> first | (exfalso; omega) | exact exb.symm | exact exc.symm | rfl) (by unfold tkC tkT tkE; rw [hS]; (repeat' split) <;> first | (exfalso; omega) | rfl | (rw [← exb] at *; exfalso; omega) | (rw [← exc] at *; exfalso; omega) | omega))
      · refine g_aload_n C dX4_step_19 (p := 0) (hi := rfl) (hv := rfl) ?_
        refine gc_g_X4_tape C dX4_step_20 wf_X4_11 ?_
        refine g_aload_n C dX4_step_23 (p := 0) (hi := rfl) (hv := rfl) ?_
        refine gc_g_X4_at C dX4_step_24 wf_X4_112 ?_
        refine g_cI (b := xa) (by first | rfl | (simp only [mu_app, mr_app, ru, over, and_self, ↓reduceIte]; (repeat (first | rw [if_neg (by omega)] | rw [if_pos (by omega)])))) ?_
        refine gc_l_tape C dX4_step_27 (by omega) (by omega) ?_
        refine g_cI (b := (σ 4 xa)) (by first | rfl | (simp only [mu_app, mr_app, ru, over, and_self, ↓reduceIte]; (repeat (first | rw [if_neg (by omega)] | rw [if_pos (by omega)])))) ?_
        refine (g_bipush C dX4_step_28 (by decide)) ?_
        refine g_icmp_eq C (tgt := 47) dX4_step_30 (by decide) (by omega) (by omega) (fun h_20 => ?_) (fun h_20 => ?_)
        · refine g_aload_n C dX4_step_47 (p := 0) (hi := rfl) (hv := rfl) ?_
          refine g_dup C dX4_step_48 rfl ?_
          refine gc_g_X4_at C dX4_step_49 wf_X4_112 ?_
          refine g_cI (b := xa) (by first | rfl | (simp only [mu_app, mr_app, ru, over, and_self, ↓reduceIte]; (repeat (first | rw [if_neg (by omega)] | rw [if_pos (by omega)])))) ?_
          refine g_iconst C dX4_step_52 ?_
          refine g_iadd C dX4_step_53 ?_
          refine gc_p_X4_at C dX4_step_54 wf_X4_112 ?_
          refine g_eq rfl rfl rfl mu_mu ?_
          refine g_goto C (tgt := 8) dX4_step_57 (by decide) ?_
          refine g_sub [0] rfl ?_
          exact ihm (xa + 1) (by first | rfl | assumption | omega) (by rw [← scan_step (by omega) (by omega)]; assumption) (by omega)
        · refine g_aload_n C dX4_step_33 (p := 0) (hi := rfl) (hv := rfl) ?_
          refine gc_g_X4_tape C dX4_step_34 wf_X4_11 ?_
          refine g_aload_n C dX4_step_37 (p := 0) (hi := rfl) (hv := rfl) ?_
          refine gc_g_X4_at C dX4_step_38 wf_X4_112 ?_
          refine g_cI (b := xa) (by first | rfl | (simp only [mu_app, mr_app, ru, over, and_self, ↓reduceIte]; (repeat (first | rw [if_neg (by omega)] | rw [if_pos (by omega)])))) ?_
          refine gc_l_tape C dX4_step_41 (by omega) (by omega) ?_
          refine g_cI (b := (σ 4 xa)) (by first | rfl | (simp only [mu_app, mr_app, ru, over, and_self, ↓reduceIte]; (repeat (first | rw [if_neg (by omega)] | rw [if_pos (by omega)])))) ?_
          refine (g_bipush C dX4_step_42 (by decide)) ?_
          refine g_icmp_ne C (tgt := 60) dX4_step_44 (by decide) (by omega) (by omega) (fun h_21 => ?_) (fun h_21 => ?_)
          · have exa : xa = scan (blB (σ 4) (σ 3 1)) (σ 3 1) (σ 3 4) := by rw [← hsxa, scan_stop (by omega)]
            refine g_aload_n C dX4_step_60 (p := 0) (hi := rfl) (hv := rfl) ?_
            refine g_aload_n C dX4_step_61 (p := 0) (hi := rfl) (hv := rfl) ?_
            refine gc_g_X4_at C dX4_step_62 wf_X4_112 ?_
            refine g_cI (b := xa) (by first | rfl | (simp only [mu_app, mr_app, ru, over, and_self, ↓reduceIte]; (repeat (first | rw [if_neg (by omega)] | rw [if_pos (by omega)])))) ?_
            refine gc_p_X4_behind C dX4_step_65 wf_X4_27 ?_
            refine g_aload_n C dX4_step_68 (p := 0) (hi := rfl) (hv := rfl) ?_
            refine gc_g_X4_at C dX4_step_69 wf_X4_112 ?_
            refine g_cI (b := xa) (by first | rfl | (simp only [mu_app, mr_app, ru, over, and_self, ↓reduceIte]; (repeat (first | rw [if_neg (by omega)] | rw [if_pos (by omega)])))) ?_
            refine g_aload_n C dX4_step_72 (p := 0) (hi := rfl) (hv := rfl) ?_
            refine gc_g_X4_fed C dX4_step_73 wf_X4_15 ?_
            refine g_cI (b := (σ 3 1)) (by first | rfl | (simp only [mu_app, mr_app, ru, over, and_self, ↓reduceIte]; (repeat (first | rw [if_neg (by omega)] | rw [if_pos (by omega)])))) ?_
            refine g_icmp_lt C (tgt := 87) dX4_step_76 (by decide) (by omega) (by omega) (fun h_22 => ?_) (fun h_22 => ?_)
            · refine g_aload_n C dX4_step_87 (p := 0) (hi := rfl) (hv := rfl) ?_
              refine gc_g_X4_tape C dX4_step_88 wf_X4_11 ?_
              refine g_aload_n C dX4_step_91 (p := 0) (hi := rfl) (hv := rfl) ?_
              refine gc_g_X4_at C dX4_step_92 wf_X4_112 ?_
              refine g_cI (b := xa) (by first | rfl | (simp only [mu_app, mr_app, ru, over, and_self, ↓reduceIte]; (repeat (first | rw [if_neg (by omega)] | rw [if_pos (by omega)])))) ?_
              refine gc_l_tape C dX4_step_95 (by omega) (by omega) ?_
              refine g_cI (b := (σ 4 xa)) (by first | rfl | (simp only [mu_app, mr_app, ru, over, and_self, ↓reduceIte]; (repeat (first | rw [if_neg (by omega)] | rw [if_pos (by omega)])))) ?_
              by_cases hb_23 : 97 ≤ (σ 4 xa) ∧ (σ 4 xa) ≤ 122
              · refine g_callS C dX4_step_96 (kX4_isLetter_y (σ := (mu (mu σ 3 3 xa) 3 4 xa)) (c := σ 4 xa) hap hE (by first | assumption | omega | exact htr) (by first | assumption | omega | exact htr)) mw_X4_isLetter wl_X4_124 (by decide) (by decide) rfl rfl (by simp [Value.category]) ?_
                refine g_if_eq C (tgt := 149) dX4_step_99 (by decide) (by omega) (fun h_24 => ?_) (fun h_24 => ?_)
                · exact absurd h_24 (by decide)
                · have L102 : ∀ (m : Nat) (xb : Int), ((0 : Int) ≤ xb ∧ xb ≤ σ 3 1) → (scan (leB (σ 4) (σ 3 1)) (σ 3 1) xb = scan (leB (σ 4) (σ 3 1)) (σ 3 1) xa) → (σ 3 1 - xb).toNat < m → G M ad 60 (cfC ad K) 102 [(0, .ref (ad 3))] [] (mu (mu σ 3 3 xa) 3 4 xb) := by
                    intro m; induction m with
                    | zero => intros; omega
                    | succ m ihm =>
                      intro xb hxxb hsxb hmeas
                      have hby := hb4 xb
                      have hbx := @leB_x (σ 4) (σ 3 1) xb
                      refine g_aload_n C dX4_step_102 (p := 0) (hi := rfl) (hv := rfl) ?_
                      refine gc_g_X4_behind C dX4_step_103 wf_X4_27 ?_
                      refine g_cI (b := xb) (by first | rfl | (simp only [mu_app, mr_app, ru, over, and_self, ↓reduceIte]; (repeat (first | rw [if_neg (by omega)] | rw [if_pos (by omega)])))) ?_
                      refine g_aload_n C dX4_step_106 (p := 0) (hi := rfl) (hv := rfl) ?_
                      refine gc_g_X4_fed C dX4_step_107 wf_X4_15 ?_
                      refine g_cI (b := (σ 3 1)) (by first | rfl | (simp only [mu_app, mr_app, ru, over, and_self, ↓reduceIte]; (repeat (first | rw [if_neg (by omega)] | rw [if_pos (by omega)])))) ?_
                      refine g_icmp_ge C (tgt := 141) dX4_step_110 (by decide) (by omega) (by omega) (fun h_25 => ?_) (fun h_25 => ?_)
                      · have exb : xb = scan (leB (σ 4) (σ 3 1)) (σ 3 1) xa := by rw [← hsxb, scan_stop (by omega)]
                        refine g_aload_n C dX4_step_141 (p := 0) (hi := rfl) (hv := rfl) ?_
                        refine g_iconst C dX4_step_142 ?_
                        refine gc_p_X4_token C dX4_step_143 wf_X4_43 ?_
                        refine g_goto C (tgt := 261) dX4_step_146 (by decide) ?_
                        exact hret _ _ _ dX4_step_261 (by (have hS : (tkS (σ 4) (σ 3 1) (σ 3 4)) = xa := exa.symm); exact st_fin hS (by unfold tkE; rw [hS]; (repeat' split) <;> first | (exfalso; omega) | exact exb.symm | exact exc.symm | rfl) (by unfold tkC tkT tkE; rw [hS]; (repeat' split) <;> first | (exfalso; omega) | rfl | (rw [← exb] at *; exfalso; omega) | (rw [← exc] at *; exfalso; omega) | omega))
                      · refine g_aload_n C dX4_step_113 (p := 0) (hi := rfl) (hv := rfl) ?_
                        refine gc_g_X4_tape C dX4_step_114 wf_X4_11 ?_
                        refine g_aload_n C dX4_step_117 (p := 0) (hi := rfl) (hv := rfl) ?_
                        refine gc_g_X4_behind C dX4_step_118 wf_X4_27 ?_
                        refine g_cI (b := xb) (by first | rfl | (simp only [mu_app, mr_app, ru, over, and_self, ↓reduceIte]; (repeat (first | rw [if_neg (by omega)] | rw [if_pos (by omega)])))) ?_
                        refine gc_l_tape C dX4_step_121 (by omega) (by omega) ?_
                        refine g_cI (b := (σ 4 xb)) (by first | rfl | (simp only [mu_app, mr_app, ru, over, and_self, ↓reduceIte]; (repeat (first | rw [if_neg (by omega)] | rw [if_pos (by omega)])))) ?_
                        by_cases hb_26 : 97 ≤ (σ 4 xb) ∧ (σ 4 xb) ≤ 122
                        · refine g_callS C dX4_step_122 (kX4_isLetter_y (σ := (mu (mu σ 3 3 xa) 3 4 xb)) (c := σ 4 xb) hap hE (by first | assumption | omega | exact htr) (by first | assumption | omega | exact htr)) mw_X4_isLetter wl_X4_124 (by decide) (by decide) rfl rfl (by simp [Value.category]) ?_
                          refine g_if_eq C (tgt := 141) dX4_step_125 (by decide) (by omega) (fun h_27 => ?_) (fun h_27 => ?_)
                          · exact absurd h_27 (by decide)
                          · refine g_aload_n C dX4_step_128 (p := 0) (hi := rfl) (hv := rfl) ?_
                            refine g_dup C dX4_step_129 rfl ?_
                            refine gc_g_X4_behind C dX4_step_130 wf_X4_27 ?_
                            refine g_cI (b := xb) (by first | rfl | (simp only [mu_app, mr_app, ru, over, and_self, ↓reduceIte]; (repeat (first | rw [if_neg (by omega)] | rw [if_pos (by omega)])))) ?_
                            refine g_iconst C dX4_step_133 ?_
                            refine g_iadd C dX4_step_134 ?_
                            refine gc_p_X4_behind C dX4_step_135 wf_X4_27 ?_
                            refine g_eq rfl rfl rfl mu_mu ?_
                            refine g_goto C (tgt := 102) dX4_step_138 (by decide) ?_
                            refine g_sub [0] rfl ?_
                            exact ihm (xb + 1) (by first | rfl | assumption | omega) (by rw [← scan_step (by omega) (by omega)]; assumption) (by omega)
                        · refine g_callS C dX4_step_122 (kX4_isLetter_n (σ := (mu (mu σ 3 3 xa) 3 4 xb)) (c := σ 4 xb) hap hE (by first | assumption | omega | exact htr) (by first | assumption | omega | exact htr)) mw_X4_isLetter wl_X4_124 (by decide) (by decide) rfl rfl (by simp [Value.category]) ?_
                          refine g_if_eq C (tgt := 141) dX4_step_125 (by decide) (by omega) (fun h_28 => ?_) (fun h_28 => ?_)
                          · have exb : xb = scan (leB (σ 4) (σ 3 1)) (σ 3 1) xa := by rw [← hsxb, scan_stop (by omega)]
                            refine g_aload_n C dX4_step_141 (p := 0) (hi := rfl) (hv := rfl) ?_
                            refine g_iconst C dX4_step_142 ?_
                            refine gc_p_X4_token C dX4_step_143 wf_X4_43 ?_
                            refine g_goto C (tgt := 261) dX4_step_146 (by decide) ?_
                            exact hret _ _ _ dX4_step_261 (by (have hS : (tkS (σ 4) (σ 3 1) (σ 3 4)) = xa := exa.symm); exact st_fin hS (by unfold tkE; rw [hS]; (repeat' split) <;> first | (exfalso; omega) | exact exb.symm | exact exc.symm | rfl) (by unfold tkC tkT tkE; rw [hS]; (repeat' split) <;> first | (exfalso; omega) | rfl | (rw [← exb] at *; exfalso; omega) | (rw [← exc] at *; exfalso; omega) | omega))
                          · exact absurd h_28 (by decide)
                  refine g_sub [0] rfl ?_
                  refine g_eq (σ' := (mu (mu σ 3 3 xa) 3 4 xa)) rfl rfl rfl (by rfl) ?_
                  exact L102 _ xa (by first | rfl | assumption | omega) (by first | rfl | assumption | omega) (Nat.lt_succ_self _)
              · refine g_callS C dX4_step_96 (kX4_isLetter_n (σ := (mu (mu σ 3 3 xa) 3 4 xa)) (c := σ 4 xa) hap hE (by first | assumption | omega | exact htr) (by first | assumption | omega | exact htr)) mw_X4_isLetter wl_X4_124 (by decide) (by decide) rfl rfl (by simp [Value.category]) ?_
                refine g_if_eq C (tgt := 149) dX4_step_99 (by decide) (by omega) (fun h_29 => ?_) (fun h_29 => ?_)
                · refine g_aload_n C dX4_step_149 (p := 0) (hi := rfl) (hv := rfl) ?_
                  refine gc_g_X4_tape C dX4_step_150 wf_X4_11 ?_
                  refine g_aload_n C dX4_step_153 (p := 0) (hi := rfl) (hv := rfl) ?_
                  refine gc_g_X4_at C dX4_step_154 wf_X4_112 ?_
                  refine g_cI (b := xa) (by first | rfl | (simp only [mu_app, mr_app, ru, over, and_self, ↓reduceIte]; (repeat (first | rw [if_neg (by omega)] | rw [if_pos (by omega)])))) ?_
                  refine gc_l_tape C dX4_step_157 (by omega) (by omega) ?_
                  refine g_cI (b := (σ 4 xa)) (by first | rfl | (simp only [mu_app, mr_app, ru, over, and_self, ↓reduceIte]; (repeat (first | rw [if_neg (by omega)] | rw [if_pos (by omega)])))) ?_
                  by_cases hb_30 : 48 ≤ (σ 4 xa) ∧ (σ 4 xa) ≤ 57
                  · refine g_callS C dX4_step_158 (kX4_isFigure_y (σ := (mu (mu σ 3 3 xa) 3 4 xa)) (c := σ 4 xa) hap hE (by first | assumption | omega | exact htr) (by first | assumption | omega | exact htr)) mw_X4_isFigure wl_X4_127 (by decide) (by decide) rfl rfl (by simp [Value.category]) ?_
                    refine g_if_eq C (tgt := 228) dX4_step_161 (by decide) (by omega) (fun h_31 => ?_) (fun h_31 => ?_)
                    · exact absurd h_31 (by decide)
                    · have L164 : ∀ (m : Nat) (xc : Int), ((0 : Int) ≤ xc ∧ xc ≤ σ 3 1) → (scan (fiB (σ 4) (σ 3 1)) (σ 3 1) xc = scan (fiB (σ 4) (σ 3 1)) (σ 3 1) xa) → (σ 3 1 - xc).toNat < m → G M ad 60 (cfC ad K) 164 [(0, .ref (ad 3))] [] (mu (mu σ 3 3 xa) 3 4 xc) := by
                        intro m; induction m with
                        | zero => intros; omega
                        | succ m ihm =>
                          intro xc hxxc hsxc hmeas
                          have hby := hb4 xc
                          have hbx := @fiB_x (σ 4) (σ 3 1) xc
                          refine g_aload_n C dX4_step_164 (p := 0) (hi := rfl) (hv := rfl) ?_
                          refine gc_g_X4_behind C dX4_step_165 wf_X4_27 ?_
                          refine g_cI (b := xc) (by first | rfl | (simp only [mu_app, mr_app, ru, over, and_self, ↓reduceIte]; (repeat (first | rw [if_neg (by omega)] | rw [if_pos (by omega)])))) ?_
                          refine g_aload_n C dX4_step_168 (p := 0) (hi := rfl) (hv := rfl) ?_
                          refine gc_g_X4_fed C dX4_step_169 wf_X4_15 ?_
                          refine g_cI (b := (σ 3 1)) (by first | rfl | (simp only [mu_app, mr_app, ru, over, and_self, ↓reduceIte]; (repeat (first | rw [if_neg (by omega)] | rw [if_pos (by omega)])))) ?_
                          refine g_icmp_ge C (tgt := 203) dX4_step_172 (by decide) (by omega) (by omega) (fun h_32 => ?_) (fun h_32 => ?_)
                          · have exc : xc = scan (fiB (σ 4) (σ 3 1)) (σ 3 1) xa := by rw [← hsxc, scan_stop (by omega)]
                            refine g_aload_n C dX4_step_203 (p := 0) (hi := rfl) (hv := rfl) ?_
                            refine g_aload_n C dX4_step_204 (p := 0) (hi := rfl) (hv := rfl) ?_
                            refine gc_g_X4_behind C dX4_step_205 wf_X4_27 ?_
                            refine g_cI (b := xc) (by first | rfl | (simp only [mu_app, mr_app, ru, over, and_self, ↓reduceIte]; (repeat (first | rw [if_neg (by omega)] | rw [if_pos (by omega)])))) ?_
                            refine g_aload_n C dX4_step_208 (p := 0) (hi := rfl) (hv := rfl) ?_
                            refine gc_g_X4_at C dX4_step_209 wf_X4_112 ?_
                            refine g_cI (b := xa) (by first | rfl | (simp only [mu_app, mr_app, ru, over, and_self, ↓reduceIte]; (repeat (first | rw [if_neg (by omega)] | rw [if_pos (by omega)])))) ?_
                            refine g_isub C dX4_step_212 ?_
                            refine g_iconst C dX4_step_213 ?_
                            refine g_icmp_le C (tgt := 221) dX4_step_214 (by decide) (by omega) (by omega) (fun h_33 => ?_) (fun h_33 => ?_)
                            · refine g_iconst C dX4_step_221 ?_
                              refine gc_p_X4_token C dX4_step_222 wf_X4_43 ?_
                              refine g_goto C (tgt := 261) dX4_step_225 (by decide) ?_
                              exact hret _ _ _ dX4_step_261 (by (have hS : (tkS (σ 4) (σ 3 1) (σ 3 4)) = xa := exa.symm); exact st_fin hS (by unfold tkE; rw [hS]; (repeat' split) <;> first | (exfalso; omega) | exact exb.symm | exact exc.symm | rfl) (by unfold tkC tkT tkE; rw [hS]; (repeat' split) <;> first | (exfalso; omega) | rfl | (rw [← exb] at *; exfalso; omega) | (rw [← exc] at *; exfalso; omega) | omega))
                            · refine g_iconst C dX4_step_217 ?_
                              refine g_goto C (tgt := 222) dX4_step_218 (by decide) ?_
                              refine gc_p_X4_token C dX4_step_222 wf_X4_43 ?_
                              refine g_goto C (tgt := 261) dX4_step_225 (by decide) ?_
                              exact hret _ _ _ dX4_step_261 (by (have hS : (tkS (σ 4) (σ 3 1) (σ 3 4)) = xa := exa.symm); exact st_fin hS (by unfold tkE; rw [hS]; (repeat' split) <;> first | (exfalso; omega) | exact exb.symm | exact exc.symm | rfl) (by unfold tkC tkT tkE; rw [hS]; (repeat' split) <;> first | (exfalso; omega) | rfl | (rw [← exb] at *; exfalso; omega) | (rw [← exc] at *; exfalso; omega) | omega))
                          · refine g_aload_n C dX4_step_175 (p := 0) (hi := rfl) (hv := rfl) ?_
                            refine gc_g_X4_tape C dX4_step_176 wf_X4_11 ?_
                            refine g_aload_n C dX4_step_179 (p := 0) (hi := rfl) (hv := rfl) ?_
                            refine gc_g_X4_behind C dX4_step_180 wf_X4_27 ?_
                            refine g_cI (b := xc) (by first | rfl | (simp only [mu_app, mr_app, ru, over, and_self, ↓reduceIte]; (repeat (first | rw [if_neg (by omega)] | rw [if_pos (by omega)])))) ?_
                            refine gc_l_tape C dX4_step_183 (by omega) (by omega) ?_
                            refine g_cI (b := (σ 4 xc)) (by first | rfl | (simp only [mu_app, mr_app, ru, over, and_self, ↓reduceIte]; (repeat (first | rw [if_neg (by omega)] | rw [if_pos (by omega)])))) ?_
                            by_cases hb_34 : 48 ≤ (σ 4 xc) ∧ (σ 4 xc) ≤ 57
                            · refine g_callS C dX4_step_184 (kX4_isFigure_y (σ := (mu (mu σ 3 3 xa) 3 4 xc)) (c := σ 4 xc) hap hE (by first | assumption | omega | exact htr) (by first | assumption | omega | exact htr)) mw_X4_isFigure wl_X4_127 (by decide) (by decide) rfl rfl (by simp [Value.category]) ?_
                              refine g_if_eq C (tgt := 203) dX4_step_187 (by decide) (by omega) (fun h_35 => ?_) (fun h_35 => ?_)
                              · exact absurd h_35 (by decide)
                              · refine g_aload_n C dX4_step_190 (p := 0) (hi := rfl) (hv := rfl) ?_
                                refine g_dup C dX4_step_191 rfl ?_
                                refine gc_g_X4_behind C dX4_step_192 wf_X4_27 ?_
                                refine g_cI (b := xc) (by first | rfl | (simp only [mu_app, mr_app, ru, over, and_self, ↓reduceIte]; (repeat (first | rw [if_neg (by omega)] | rw [if_pos (by omega)])))) ?_
                                refine g_iconst C dX4_step_195 ?_
                                refine g_iadd C dX4_step_196 ?_
                                refine gc_p_X4_behind C dX4_step_197 wf_X4_27 ?_
                                refine g_eq rfl rfl rfl mu_mu ?_
                                refine g_goto C (tgt := 164) dX4_step_200 (by decide) ?_
                                refine g_sub [0] rfl ?_
                                exact ihm (xc + 1) (by first | rfl | assumption | omega) (by rw [← scan_step (by omega) (by omega)]; assumption) (by omega)
                            · refine g_callS C dX4_step_184 (kX4_isFigure_n (σ := (mu (mu σ 3 3 xa) 3 4 xc)) (c := σ 4 xc) hap hE (by first | assumption | omega | exact htr) (by first | assumption | omega | exact htr)) mw_X4_isFigure wl_X4_127 (by decide) (by decide) rfl rfl (by simp [Value.category]) ?_
                              refine g_if_eq C (tgt := 203) dX4_step_187 (by decide) (by omega) (fun h_36 => ?_) (fun h_36 => ?_)
                              · have exc : xc = scan (fiB (σ 4) (σ 3 1)) (σ 3 1) xa := by rw [← hsxc, scan_stop (by omega)]
                                refine g_aload_n C dX4_step_203 (p := 0) (hi := rfl) (hv := rfl) ?_
                                refine g_aload_n C dX4_step_204 (p := 0) (hi := rfl) (hv := rfl) ?_
                                refine gc_g_X4_behind C dX4_step_205 wf_X4_27 ?_
                                refine g_cI (b := xc) (by first | rfl | (simp only [mu_app, mr_app, ru, over, and_self, ↓reduceIte]; (repeat (first | rw [if_neg (by omega)] | rw [if_pos (by omega)])))) ?_
                                refine g_aload_n C dX4_step_208 (p := 0) (hi := rfl) (hv := rfl) ?_
                                refine gc_g_X4_at C dX4_step_209 wf_X4_112 ?_
                                refine g_cI (b := xa) (by first | rfl | (simp only [mu_app, mr_app, ru, over, and_self, ↓reduceIte]; (repeat (first | rw [if_neg (by omega)] | rw [if_pos (by omega)])))) ?_
                                refine g_isub C dX4_step_212 ?_
                                refine g_iconst C dX4_step_213 ?_
                                refine g_icmp_le C (tgt := 221) dX4_step_214 (by decide) (by omega) (by omega) (fun h_37 => ?_) (fun h_37 => ?_)
                                · refine g_iconst C dX4_step_221 ?_
                                  refine gc_p_X4_token C dX4_step_222 wf_X4_43 ?_
                                  refine g_goto C (tgt := 261) dX4_step_225 (by decide) ?_
                                  exact hret _ _ _ dX4_step_261 (by (have hS : (tkS (σ 4) (σ 3 1) (σ 3 4)) = xa := exa.symm); exact st_fin hS (by unfold tkE; rw [hS]; (repeat' split) <;> first | (exfalso; omega) | exact exb.symm | exact exc.symm | rfl) (by unfold tkC tkT tkE; rw [hS]; (repeat' split) <;> first | (exfalso; omega) | rfl | (rw [← exb] at *; exfalso; omega) | (rw [← exc] at *; exfalso; omega) | omega))
                                · refine g_iconst C dX4_step_217 ?_
                                  refine g_goto C (tgt := 222) dX4_step_218 (by decide) ?_
                                  refine gc_p_X4_token C dX4_step_222 wf_X4_43 ?_
                                  refine g_goto C (tgt := 261) dX4_step_225 (by decide) ?_
                                  exact hret _ _ _ dX4_step_261 (by (have hS : (tkS (σ 4) (σ 3 1) (σ 3 4)) = xa := exa.symm); exact st_fin hS (by unfold tkE; rw [hS]; (repeat' split) <;> first | (exfalso; omega) | exact exb.symm | exact exc.symm | rfl) (by unfold tkC tkT tkE; rw [hS]; (repeat' split) <;> first | (exfalso; omega) | rfl | (rw [← exb] at *; exfalso; omega) | (rw [← exc] at *; exfalso; omega) | omega))
                              · exact absurd h_36 (by decide)
                      refine g_sub [0] rfl ?_
                      refine g_eq (σ' := (mu (mu σ 3 3 xa) 3 4 xa)) rfl rfl rfl (by rfl) ?_
                      exact L164 _ xa (by first | rfl | assumption | omega) (by first | rfl | assumption | omega) (Nat.lt_succ_self _)
                  · refine g_callS C dX4_step_158 (kX4_isFigure_n (σ := (mu (mu σ 3 3 xa) 3 4 xa)) (c := σ 4 xa) hap hE (by first | assumption | omega | exact htr) (by first | assumption | omega | exact htr)) mw_X4_isFigure wl_X4_127 (by decide) (by decide) rfl rfl (by simp [Value.category]) ?_
                    refine g_if_eq C (tgt := 228) dX4_step_161 (by decide) (by omega) (fun h_38 => ?_) (fun h_38 => ?_)
                    · refine g_aload_n C dX4_step_228 (p := 0) (hi := rfl) (hv := rfl) ?_
                      refine g_dup C dX4_step_229 rfl ?_
                      refine gc_g_X4_behind C dX4_step_230 wf_X4_27 ?_
                      refine g_cI (b := xa) (by first | rfl | (simp only [mu_app, mr_app, ru, over, and_self, ↓reduceIte]; (repeat (first | rw [if_neg (by omega)] | rw [if_pos (by omega)])))) ?_
                      refine g_iconst C dX4_step_233 ?_
                      refine g_iadd C dX4_step_234 ?_
                      refine gc_p_X4_behind C dX4_step_235 wf_X4_27 ?_
                      refine g_eq rfl rfl rfl mu_mu ?_
                      refine g_aload_n C dX4_step_238 (p := 0) (hi := rfl) (hv := rfl) ?_
                      refine g_aload_n C dX4_step_239 (p := 0) (hi := rfl) (hv := rfl) ?_
                      refine gc_g_X4_tape C dX4_step_240 wf_X4_11 ?_
                      refine g_aload_n C dX4_step_243 (p := 0) (hi := rfl) (hv := rfl) ?_
                      refine gc_g_X4_at C dX4_step_244 wf_X4_112 ?_
                      refine g_cI (b := xa) (by first | rfl | (simp only [mu_app, mr_app, ru, over, and_self, ↓reduceIte]; (repeat (first | rw [if_neg (by omega)] | rw [if_pos (by omega)])))) ?_
                      refine gc_l_tape C dX4_step_247 (by omega) (by omega) ?_
                      refine g_cI (b := (σ 4 xa)) (by first | rfl | (simp only [mu_app, mr_app, ru, over, and_self, ↓reduceIte]; (repeat (first | rw [if_neg (by omega)] | rw [if_pos (by omega)])))) ?_
                      refine (g_bipush C dX4_step_248 (by decide)) ?_
                      refine g_icmp_ne C (tgt := 257) dX4_step_250 (by decide) (by omega) (by omega) (fun h_39 => ?_) (fun h_39 => ?_)
                      · refine g_iconst C dX4_step_257 ?_
                        refine gc_p_X4_token C dX4_step_258 wf_X4_43 ?_
                        exact hret _ _ _ dX4_step_261 (by (have hS : (tkS (σ 4) (σ 3 1) (σ 3 4)) = xa := exa.symm); exact st_fin hS (by unfold tkE; rw [hS]; (repeat' split) <;> first | (exfalso; omega) | exact exb.symm | exact exc.symm | rfl) (by unfold tkC tkT tkE; rw [hS]; (repeat' split) <;> first | (exfalso; omega) | rfl | (rw [← exb] at *; exfalso; omega) | (rw [← exc] at *; exfalso; omega) | omega))
                      · refine g_iconst C dX4_step_253 ?_
                        refine g_goto C (tgt := 258) dX4_step_254 (by decide) ?_
                        refine gc_p_X4_token C dX4_step_258 wf_X4_43 ?_
                        exact hret _ _ _ dX4_step_261 (by (have hS : (tkS (σ 4) (σ 3 1) (σ 3 4)) = xa := exa.symm); exact st_fin hS (by unfold tkE; rw [hS]; (repeat' split) <;> first | (exfalso; omega) | exact exb.symm | exact exc.symm | rfl) (by unfold tkC tkT tkE; rw [hS]; (repeat' split) <;> first | (exfalso; omega) | rfl | (rw [← exb] at *; exfalso; omega) | (rw [← exc] at *; exfalso; omega) | omega))
                    · exact absurd h_38 (by decide)
                · exact absurd h_29 (by decide)
            · refine g_aload_n C dX4_step_79 (p := 0) (hi := rfl) (hv := rfl) ?_
              refine g_iconst C dX4_step_80 ?_
              refine gc_p_X4_token C dX4_step_81 wf_X4_43 ?_
              refine g_goto C (tgt := 261) dX4_step_84 (by decide) ?_
              exact hret _ _ _ dX4_step_261 (by (have hS : (tkS (σ 4) (σ 3 1) (σ 3 4)) = xa := exa.symm); exact st_fin hS (by unfold tkE; rw [hS]; (repeat' split) <;> first | (exfalso; omega) | exact exb.symm | exact exc.symm | rfl) (by unfold tkC tkT tkE; rw [hS]; (repeat' split) <;> first | (exfalso; omega) | rfl | (rw [← exb] at *; exfalso; omega) | (rw [← exc] at *; exfalso; omega) | omega))
          · refine g_aload_n C dX4_step_47 (p := 0) (hi := rfl) (hv := rfl) ?_
            refine g_dup C dX4_step_48 rfl ?_
            refine gc_g_X4_at C dX4_step_49 wf_X4_112 ?_
            refine g_cI (b := xa) (by first | rfl | (simp only [mu_app, mr_app, ru, over, and_self, ↓reduceIte]; (repeat (first | rw [if_neg (by omega)] | rw [if_pos (by omega)])))) ?_
            refine g_iconst C dX4_step_52 ?_
            refine g_iadd C dX4_step_53 ?_
            refine gc_p_X4_at C dX4_step_54 wf_X4_112 ?_
            refine g_eq rfl rfl rfl mu_mu ?_
            refine g_goto C (tgt := 8) dX4_step_57 (by decide) ?_
            refine g_sub [0] rfl ?_
            exact ihm (xa + 1) (by first | rfl | assumption | omega) (by rw [← scan_step (by omega) (by omega)]; assumption) (by omega)
  refine g_sub [0] rfl ?_
  refine g_eq (σ' := (mu σ 3 3 (σ 3 4))) rfl rfl rfl (by rfl) ?_
  exact L8 _ (σ 3 4) (by first | rfl | assumption | omega) (by first | rfl | assumption | omega) (Nat.lt_succ_self _)

set_option maxHeartbeats 4000000 in
set_option maxRecDepth 100000 in
theorem kX9_rests {l : Launch} {K : Nat → ClassId} {D : va_G} {ad : Int → Nat} {E : gEnv} {σ : Mem} {t k : Int} (hap : Apart ad 12) (hE : gEok E) (hT : TW (σ 4)) (hpe : σ 4 3 = 0 ∨ 1 ≤ σ 4 2) (rt : R3 t) (rk : R3 k) : CtI l K D ad 12 (cfM ad K) E yX9_rests cX9_rests 7 (some .int) 5 [.ref (ad 0), .int (iI t), .int (iI k)] σ (if (0 ≤ t ∧ t ≤ σ 4 3 - 1) ∧ (-1 ≤ k ∧ k ≤ σ 4 2 - 1) then (if k < 0 then cntF (fun q => resF (σ 4) (over (σ 8) (digG q (σ 4 2)) 0 (σ 4 2)) (σ 4 0) t (σ 4 2).toNat) (powF (σ 4 2).toNat).toNat else if fstF (fun q => resF (σ 4) (over (σ 8) (digG q (σ 4 2)) 0 (σ 4 2)) (σ 4 0) t (σ 4 2).toNat) (powF (σ 4 2).toNat).toNat = -1000000 then -1000000 else digG (fstF (fun q => resF (σ 4) (over (σ 8) (digG q (σ 4 2)) 0 (σ 4 2)) (σ 4 0) t (σ 4 2).toNat) (powF (σ 4 2).toNat).toNat) (σ 4 2) k) else -1000001) (if (0 ≤ t ∧ t ≤ σ 4 3 - 1) ∧ (-1 ≤ k ∧ k ≤ σ 4 2 - 1) then (if k < 0 ∨ fstF (fun q => resF (σ 4) (over (σ 8) (digG q (σ 4 2)) 0 (σ 4 2)) (σ 4 0) t (σ 4 2).toNat) (powF (σ 4 2).toNat).toNat = -1000000 then mr (mu σ 0 0 0) 8 (laidF (σ 8) (σ 4 2) (powF (σ 4 2).toNat).toNat) else mr (mu σ 0 0 0) 8 (over (σ 8) (digG (fstF (fun q => resF (σ 4) (over (σ 8) (digG q (σ 4 2)) 0 (σ 4 2)) (σ 4 0) t (σ 4 2).toNat) (powF (σ 4 2).toNat).toNat) (σ 4 2)) 0 (σ 4 2))) else mu σ 0 0 0) := by
  have hp : 0 ≤ σ 4 2 ∧ σ 4 2 ≤ 4 := hT.2.2.1
  have ht3 : 0 ≤ σ 4 3 ∧ σ 4 3 ≤ 5 := hT.2.2.2.1
  have hpw := powF_in (σ 4 2).toNat (by omega)
  have h01 : ∀ f : Int → Int, resF (σ 4) f (σ 4 0) t (σ 4 2).toNat = 0 ∨ resF (σ 4) f (σ 4 0) t (σ 4 2).toNat = 1 := fun f => resF_01 _ _ _ _ _
  refine ctI_of hap hE (by decide) rfl .int (nar_i _) (fun M C hn hret => ?_)
  have C : Good l K D ad 12 E 5 cX9_rests RX9 M := C
  show G M ad 12 (cfM ad K) 0 [(0, .ref (ad 0)), (1, .int (iI t)), (2, .int (iI k))] [] σ
  refine g_aload_n C dX9_rests_0 (p := 0) (hi := rfl) (hv := rfl) ?_
  refine g_iconst C dX9_rests_1 ?_
  refine gm_p_thrown C dX9_rests_2 wf_X9_44 ?_
  refine g_aload_n C dX9_rests_5 (p := 0) (hi := rfl) (hv := rfl) ?_
  refine g_iload_n C dX9_rests_6 (p := 1) (hi := rfl) (hv := rfl) ?_
  refine gm_call C dX9_rests_7 (kX9_isThing (σ := (mu σ 0 0 0)) (t := t) hap hE (by show 0 ≤ σ 4 3 ∧ σ 4 3 ≤ 5; first | assumption | omega | exact hT | exact hpe | exact rt | exact rk | exact hds | exact hT.1) (by first | assumption | omega | exact hT | exact hpe | exact rt | exact rk | exact hds | exact hT.1)) mw_X9_isThing wl_X9_210 (by decide) (by decide) rfl rfl (by simp [Value.category]) ?_
  refine g_cI (b := (if 0 ≤ t ∧ t ≤ σ 4 3 - 1 then 1 else 0)) (by first | rfl | (congr 1 <;> first | rfl | exact over_out (by omega)) | (congr 2 <;> first | rfl | exact over_out (by omega)) | simp [mu_app, mr_app]) ?_
  refine g_if_eq C (tgt := 33) dX9_rests_10 (by decide) (by omega) (fun h_1 => ?_) (fun h_1 => ?_)
  · refine g_ldc C (n := (-1000001)) wk_X9_64 (by decide +kernel) dX9_rests_33 ?_
    exact hret _ _ _ _ dX9_rests_35 (by (try subst hiN); (try subst hjN); (repeat' split) <;> first | (exfalso; omega) | rfl | omega | exact over_in (by omega) (by omega)) (by (try subst hiN); (try subst hjN); (repeat' split) <;> first | (exfalso; omega) | rfl)
  · refine g_iload_n C dX9_rests_13 (p := 2) (hi := rfl) (hv := rfl) ?_
    refine g_i2l C (by omega) dX9_rests_14 ?_
    refine g_ldc2 C (n := (-1)) wk_X9_232 (by decide +kernel) dX9_rests_15 ?_
    refine g_aload_n C dX9_rests_18 (p := 0) (hi := rfl) (hv := rfl) ?_
    refine gm_g_town C dX9_rests_19 wf_X9_19 ?_
    refine g_iconst C dX9_rests_22 ?_
    refine gm_l_town C dX9_rests_23 (by omega) (by omega) ?_
    refine g_cI (b := (σ 4 2)) (by first | rfl | (rw [mr_app, if_pos rfl]; exact over_out (by omega)) | simp [mu_app, mr_app]) ?_
    refine g_iconst C dX9_rests_24 ?_
    refine g_isub C dX9_rests_25 ?_
    refine g_i2l C (by omega) dX9_rests_26 ?_
    refine g_callS C dX9_rests_27 (kX9_in (σ := (mu σ 0 0 0)) (v := k) (lo := (-1)) (hi := (σ 4 2) - 1) hap hE (by first | assumption | omega | exact hT | exact hpe | exact rt | exact rk | exact hds | exact hT.1) (by first | assumption | omega | exact hT | exact hpe | exact rt | exact rk | exact hds | exact hT.1) (by first | assumption | omega | exact hT | exact hpe | exact rt | exact rk | exact hds | exact hT.1)) mw_X9_in wl_X9_54 (by decide) (by decide) rfl rfl (by simp [Value.category]) ?_
    refine g_if_ne C (tgt := 36) dX9_rests_30 (by decide) (by omega) (fun h_2 => ?_) (fun h_2 => ?_)
    · refine g_iconst C dX9_rests_36 ?_
      refine g_istore_n C hn dX9_rests_37 rfl rfl rfl ?_
      refine g_iconst C dX9_rests_38 ?_
      refine g_istore C hn dX9_rests_39 rfl rfl ?_
      have L41 : ∀ i : Nat, i ≤ ((σ 4 2).toNat) → ∀ (x3 x4 : Int), x3 = powF i → x4 = (i : Int) → G M ad 12 (cfM ad K) 41 [(0, .ref (ad 0)), (1, .int (iI t)), (2, .int (iI k)), (3, .int (iI x3)), (4, .int (iI x4))] [] (mu σ 0 0 0) := by
        refine loopUp ((σ 4 2).toNat) ?_
        rintro i hi ihi x3 x4 rfl rfl
        have hpi := powF_in i (by omega)
        refine g_iload C dX9_rests_41 (p := 4) rfl ?_
        refine g_aload_n C dX9_rests_43 (p := 0) (hi := rfl) (hv := rfl) ?_
        refine gm_g_town C dX9_rests_44 wf_X9_19 ?_
        refine g_iconst C dX9_rests_47 ?_
        refine gm_l_town C dX9_rests_48 (by omega) (by omega) ?_
        refine g_cI (b := (σ 4 2)) (by first | rfl | (rw [mr_app, if_pos rfl]; exact over_out (by omega)) | simp [mu_app, mr_app]) ?_
        refine g_icmp_ge C (tgt := 63) dX9_rests_49 (by decide) (by omega) (by omega) (fun h_3 => ?_) (fun h_3 => ?_)
        · have hiN : i = ((σ 4 2).toNat) := by omega
          have hpeq : powF i = powF (σ 4 2).toNat := by rw [hiN]
          refine g_iconst C dX9_rests_63 ?_
          refine g_istore C hn dX9_rests_64 rfl rfl ?_
          refine g_ldc C (n := (-1000000)) wk_X9_80 (by decide +kernel) dX9_rests_66 ?_
          refine g_istore C hn dX9_rests_68 rfl rfl ?_
          refine g_iconst C dX9_rests_70 ?_
          refine g_istore C hn dX9_rests_71 rfl rfl ?_
          have L73 : ∀ j : Nat, j ≤ ((powF (σ 4 2).toNat).toNat) → ∀ (x4 x5 x6 : Int), ∀ (τ73 : Mem), x4 = cntF (fun q => resF (σ 4) (over (σ 8) (digG q (σ 4 2)) 0 (σ 4 2)) (σ 4 0) t (σ 4 2).toNat) j → x5 = fstF (fun q => resF (σ 4) (over (σ 8) (digG q (σ 4 2)) 0 (σ 4 2)) (σ 4 0) t (σ 4 2).toNat) j → x6 = (j : Int) → τ73 = (mr (mu σ 0 0 0) 8 (laidF (σ 8) (σ 4 2) j)) → G M ad 12 (cfM ad K) 73 [(0, .ref (ad 0)), (1, .int (iI t)), (2, .int (iI k)), (3, .int (iI (powF i))), (4, .int (iI x4)), (5, .int (iI x5)), (6, .int (iI x6))] [] τ73 := by
            refine loopUp ((powF (σ 4 2).toNat).toNat) ?_
            rintro j hj ihj x4 x5 x6 τ73 rfl rfl rfl rfl
            have hcj := cntF_in (b := (fun q => resF (σ 4) (over (σ 8) (digG q (σ 4 2)) 0 (σ 4 2)) (σ 4 0) t (σ 4 2).toNat)) j
            have hfj := fstF_in (b := (fun q => resF (σ 4) (over (σ 8) (digG q (σ 4 2)) 0 (σ 4 2)) (σ 4 0) t (σ 4 2).toNat)) j
            have h01j := h01 (over (σ 8) (digG (j : Int) (σ 4 2)) 0 (σ 4 2))
            refine g_iload C dX9_rests_73 (p := 6) rfl ?_
            refine g_iload_n C dX9_rests_75 (p := 3) (hi := rfl) (hv := rfl) ?_
            refine g_icmp_ge C (tgt := 124) dX9_rests_76 (by decide) (by omega) (by first | omega | (have := powF_in (i + 1) (by omega); omega)) (fun h_4 => ?_) (fun h_4 => ?_)
            · have hjN : j = ((powF (σ 4 2).toNat).toNat) := by omega
              refine g_iload_n C dX9_rests_124 (p := 2) (hi := rfl) (hv := rfl) ?_
              refine g_if_lt C (tgt := 135) dX9_rests_125 (by decide) (by omega) (fun h_5 => ?_) (fun h_5 => ?_)
              · refine g_iload_n C dX9_rests_135 (p := 2) (hi := rfl) (hv := rfl) ?_
                refine g_if_ge C (tgt := 144) dX9_rests_136 (by decide) (by omega) (fun h_6 => ?_) (fun h_6 => ?_)
                · refine g_ldc C (n := (-1000000)) wk_X9_80 (by decide +kernel) dX9_rests_144 ?_
                  exact hret _ _ _ _ dX9_rests_146 (by (try subst hiN); (try subst hjN); (try subst hiN); (try subst hjN); (repeat' split) <;> first | (exfalso; omega) | rfl | omega | exact over_in (by omega) (by omega)) (by (try subst hiN); (try subst hjN); (try subst hiN); (try subst hjN); (repeat' split) <;> first | (exfalso; omega) | rfl)
                · refine g_iload C dX9_rests_139 (p := 4) rfl ?_
                  refine g_goto C (tgt := 146) dX9_rests_141 (by decide) ?_
                  exact hret _ _ _ _ dX9_rests_146 (by (try subst hiN); (try subst hjN); (try subst hiN); (try subst hjN); (repeat' split) <;> first | (exfalso; omega) | rfl | omega | exact over_in (by omega) (by omega)) (by (try subst hiN); (try subst hjN); (try subst hiN); (try subst hjN); (repeat' split) <;> first | (exfalso; omega) | rfl)
              · refine g_iload C dX9_rests_128 (p := 5) rfl ?_
                refine g_ldc C (n := (-1000000)) wk_X9_80 (by decide +kernel) dX9_rests_130 ?_
                refine g_icmp_ne C (tgt := 147) dX9_rests_132 (by decide) (by omega) (by omega) (fun h_7 => ?_) (fun h_7 => ?_)
                · refine g_aload_n C dX9_rests_147 (p := 0) (hi := rfl) (hv := rfl) ?_
                  refine g_iload C dX9_rests_148 (p := 5) rfl ?_
                  refine gm_callv C dX9_rests_150 (kX9_layRow (σ := (mr (mu σ 0 0 0) 8 (laidF (σ 8) (σ 4 2) j))) (row := fstF (fun q => resF (σ 4) (over (σ 8) (digG q (σ 4 2)) 0 (σ 4 2)) (σ 4 0) t (σ 4 2).toNat) j) hap hE (by show 0 ≤ σ 4 2 ∧ σ 4 2 ≤ 4; first | assumption | omega | exact hT | exact hpe | exact rt | exact rk | exact hds | exact hT.1) (by omega)) mw_X9_layRow wl_X9_234 (by decide) (by decide) rfl rfl (by simp [Value.category]) ?_
                  refine g_eq (σ' := (mr (mu σ 0 0 0) 8 (over (σ 8) (digG (fstF (fun q => resF (σ 4) (over (σ 8) (digG q (σ 4 2)) 0 (σ 4 2)) (σ 4 0) t (σ 4 2).toNat) j) (σ 4 2)) 0 (σ 4 2)))) rfl rfl rfl (by rw [mr_mr]; show mr _ 8 (over (laidF (σ 8) (σ 4 2) j) (digG _ (σ 4 2)) 0 (σ 4 2)) = _; rw [laid_over]) ?_
                  try have hds : SW (σ 4 2) (over (σ 8) (digG (j : Int) (σ 4 2)) 0 (σ 4 2)) := digSW ⟨by omega, by omega⟩
                  refine g_aload_n C dX9_rests_153 (p := 0) (hi := rfl) (hv := rfl) ?_
                  refine gm_g_says C dX9_rests_154 wf_X9_31 ?_
                  refine g_iload_n C dX9_rests_157 (p := 2) (hi := rfl) (hv := rfl) ?_
                  refine gm_l_says C dX9_rests_158 (by omega) (by omega) ?_
                  refine g_cI (b := ((over (σ 8) (digG (fstF (fun q => resF (σ 4) (over (σ 8) (digG q (σ 4 2)) 0 (σ 4 2)) (σ 4 0) t (σ 4 2).toNat) j) (σ 4 2)) 0 (σ 4 2)) k)) (by first | rfl | (rw [mr_app, if_pos rfl]; exact over_out (by omega)) | simp [mu_app, mr_app]) ?_
                  exact hret _ _ _ _ dX9_rests_159 (by (try subst hiN); (try subst hjN); (try subst hiN); (try subst hjN); (repeat' split) <;> first | (exfalso; omega) | rfl | omega | exact over_in (by omega) (by omega)) (by (try subst hiN); (try subst hjN); (try subst hiN); (try subst hjN); (repeat' split) <;> first | (exfalso; omega) | rfl)
                · refine g_iload_n C dX9_rests_135 (p := 2) (hi := rfl) (hv := rfl) ?_
                  refine g_if_ge C (tgt := 144) dX9_rests_136 (by decide) (by omega) (fun h_8 => ?_) (fun h_8 => ?_)
                  · refine g_ldc C (n := (-1000000)) wk_X9_80 (by decide +kernel) dX9_rests_144 ?_
                    exact hret _ _ _ _ dX9_rests_146 (by (try subst hiN); (try subst hjN); (try subst hiN); (try subst hjN); (repeat' split) <;> first | (exfalso; omega) | rfl | omega | exact over_in (by omega) (by omega)) (by (try subst hiN); (try subst hjN); (try subst hiN); (try subst hjN); (repeat' split) <;> first | (exfalso; omega) | rfl)
                  · refine g_iload C dX9_rests_139 (p := 4) rfl ?_
                    refine g_goto C (tgt := 146) dX9_rests_141 (by decide) ?_
                    exact hret _ _ _ _ dX9_rests_146 (by (try subst hiN); (try subst hjN); (try subst hiN); (try subst hjN); (repeat' split) <;> first | (exfalso; omega) | rfl | omega | exact over_in (by omega) (by omega)) (by (try subst hiN); (try subst hjN); (try subst hiN); (try subst hjN); (repeat' split) <;> first | (exfalso; omega) | rfl)
            · refine g_aload_n C dX9_rests_79 (p := 0) (hi := rfl) (hv := rfl) ?_
              refine g_iload C dX9_rests_80 (p := 6) rfl ?_
              refine gm_callv C dX9_rests_82 (kX9_layRow (σ := (mr (mu σ 0 0 0) 8 (laidF (σ 8) (σ 4 2) j))) (row := (j : Int)) hap hE (by show 0 ≤ σ 4 2 ∧ σ 4 2 ≤ 4; first | assumption | omega | exact hT | exact hpe | exact rt | exact rk | exact hds | exact hT.1) (by omega)) mw_X9_layRow wl_X9_234 (by decide) (by decide) rfl rfl (by simp [Value.category]) ?_
              refine g_eq (σ' := (mr (mu σ 0 0 0) 8 (over (σ 8) (digG (j : Int) (σ 4 2)) 0 (σ 4 2)))) rfl rfl rfl (by rw [mr_mr]; show mr _ 8 (over (laidF (σ 8) (σ 4 2) j) (digG _ (σ 4 2)) 0 (σ 4 2)) = _; rw [laid_over]) ?_
              try have hds : SW (σ 4 2) (over (σ 8) (digG (j : Int) (σ 4 2)) 0 (σ 4 2)) := digSW ⟨by omega, by omega⟩
              refine g_aload_n C dX9_rests_85 (p := 0) (hi := rfl) (hv := rfl) ?_
              refine g_aload_n C dX9_rests_86 (p := 0) (hi := rfl) (hv := rfl) ?_
              refine gm_g_town C dX9_rests_87 wf_X9_19 ?_
              refine g_iconst C dX9_rests_90 ?_
              refine gm_l_town C dX9_rests_91 (by omega) (by omega) ?_
              refine g_cI (b := (σ 4 0)) (by first | rfl | (rw [mr_app, if_pos rfl]; exact over_out (by omega)) | simp [mu_app, mr_app]) ?_
              refine g_iload_n C dX9_rests_92 (p := 1) (hi := rfl) (hv := rfl) ?_
              refine gm_call C dX9_rests_93 (kX9_isRest (σ := (mr (mu σ 0 0 0) 8 (over (σ 8) (digG (j : Int) (σ 4 2)) 0 (σ 4 2)))) (pays := σ 4 0) (t := t) hap hE (by show TW (σ 4); first | assumption | omega | exact hT | exact hpe | exact rt | exact rk | exact hds | exact hT.1) (by show 1 ≤ σ 4 2 ∧ σ 4 2 ≤ 4; omega) (by show SW (σ 4 2) (over (σ 8) (digG (j : Int) (σ 4 2)) 0 (σ 4 2)); first | assumption | omega | exact hT | exact hpe | exact rt | exact rk | exact hds | exact hT.1) (by first | assumption | omega | exact hT | exact hpe | exact rt | exact rk | exact hds | exact hT.1) (by first | assumption | omega | exact hT | exact hpe | exact rt | exact rk | exact hds | exact hT.1)) mw_X9_isRest wl_X9_237 (by decide) (by decide) rfl rfl (by simp [Value.category]) ?_
              refine g_cI (b := (resF (σ 4) (over (σ 8) (digG (j : Int) (σ 4 2)) 0 (σ 4 2)) (σ 4 0) t (σ 4 2).toNat)) (by first | rfl | (congr 1 <;> first | rfl | exact over_out (by omega)) | (congr 2 <;> first | rfl | exact over_out (by omega)) | simp [mu_app, mr_app]) ?_
              refine g_if_eq C (tgt := 118) dX9_rests_96 (by decide) (by omega) (fun h_9 => ?_) (fun h_9 => ?_)
              · refine g_iinc C hn dX9_rests_118 (p := 6) rfl rfl rfl ?_
                refine g_goto C (tgt := 73) dX9_rests_121 (by decide) ?_
                refine g_sub [1, 2, 3, 4, 5, 6, 0] rfl ?_
                exact ihj (by omega) _ _ _ _ (by simp only [cntF, fstF]; (repeat' split) <;> omega) (by simp only [cntF, fstF]; (repeat' split) <;> omega) (by omega) (by rw [show laidF (σ 8) (σ 4 2) (j + 1) = over (σ 8) (digG (((j + 1 : Nat) : Int) - 1) (σ 4 2)) 0 (σ 4 2) from rfl, show ((j + 1 : Nat) : Int) - 1 = (j : Int) by omega])
              · refine g_iinc C hn dX9_rests_99 (p := 4) rfl rfl rfl ?_
                refine g_iload C dX9_rests_102 (p := 5) rfl ?_
                refine g_ldc C (n := (-1000000)) wk_X9_80 (by decide +kernel) dX9_rests_104 ?_
                refine g_icmp_ne C (tgt := 114) dX9_rests_106 (by decide) (by omega) (by omega) (fun h_10 => ?_) (fun h_10 => ?_)
                · refine g_iload C dX9_rests_114 (p := 5) rfl ?_
                  refine g_istore C hn dX9_rests_116 rfl rfl ?_
                  refine g_iinc C hn dX9_rests_118 (p := 6) rfl rfl rfl ?_
                  refine g_goto C (tgt := 73) dX9_rests_121 (by decide) ?_
                  refine g_sub [3, 4, 5, 6, 2, 1, 0] rfl ?_
                  exact ihj (by omega) _ _ _ _ (by simp only [cntF, fstF]; (repeat' split) <;> omega) (by simp only [cntF, fstF]; (repeat' split) <;> omega) (by omega) (by rw [show laidF (σ 8) (σ 4 2) (j + 1) = over (σ 8) (digG (((j + 1 : Nat) : Int) - 1) (σ 4 2)) 0 (σ 4 2) from rfl, show ((j + 1 : Nat) : Int) - 1 = (j : Int) by omega])
                · refine g_iload C dX9_rests_109 (p := 6) rfl ?_
                  refine g_goto C (tgt := 116) dX9_rests_111 (by decide) ?_
                  refine g_istore C hn dX9_rests_116 rfl rfl ?_
                  refine g_iinc C hn dX9_rests_118 (p := 6) rfl rfl rfl ?_
                  refine g_goto C (tgt := 73) dX9_rests_121 (by decide) ?_
                  refine g_sub [3, 4, 5, 6, 2, 1, 0] rfl ?_
                  exact ihj (by omega) _ _ _ _ (by simp only [cntF, fstF]; (repeat' split) <;> omega) (by simp only [cntF, fstF]; (repeat' split) <;> omega) (by omega) (by rw [show laidF (σ 8) (σ 4 2) (j + 1) = over (σ 8) (digG (((j + 1 : Nat) : Int) - 1) (σ 4 2)) 0 (σ 4 2) from rfl, show ((j + 1 : Nat) : Int) - 1 = (j : Int) by omega])
          refine g_sub [3, 4, 5, 6, 2, 1, 0] rfl ?_
          exact L73 0 (Nat.zero_le _) _ _ _ _ (by first | rfl | omega | simp) (by first | rfl | omega | simp) (by first | rfl | omega | simp) (by exact (mr_self rfl).symm)
        · refine g_iload_n C dX9_rests_52 (p := 3) (hi := rfl) (hv := rfl) ?_
          refine (g_bipush C dX9_rests_53 (by decide)) ?_
          refine g_imul C dX9_rests_55 ?_
          refine g_istore_n C hn dX9_rests_56 rfl rfl rfl ?_
          refine g_iinc C hn dX9_rests_57 (p := 4) rfl rfl rfl ?_
          refine g_goto C (tgt := 41) dX9_rests_60 (by decide) ?_
          refine g_sub [2, 3, 4, 1, 0] rfl ?_
          exact ihi (by omega) _ _ (by first | rfl | omega) (by first | rfl | omega)
      refine g_sub [2, 3, 4, 1, 0] rfl ?_
      exact L41 0 (Nat.zero_le _) _ _ (by first | rfl | omega | simp) (by first | rfl | omega | simp)
    · refine g_ldc C (n := (-1000001)) wk_X9_64 (by decide +kernel) dX9_rests_33 ?_
      exact hret _ _ _ _ dX9_rests_35 (by (try subst hiN); (try subst hjN); (try subst hiN); (try subst hjN); (repeat' split) <;> first | (exfalso; omega) | rfl | omega | exact over_in (by omega) (by omega)) (by (try subst hiN); (try subst hjN); (try subst hiN); (try subst hjN); (repeat' split) <;> first | (exfalso; omega) | rfl)
set_option maxHeartbeats 4000000 in
set_option maxRecDepth 100000 in
theorem kX9_rounds {l : Launch} {K : Nat → ClassId} {D : va_G} {ad : Int → Nat} {E : gEnv} {σ : Mem} {t r p : Int} (hap : Apart ad 12) (hE : gEok E) (hT : TW (σ 4)) (hpe : σ 4 3 = 0 ∨ 1 ≤ σ 4 2) (hm : ∀ r : Int, 0 ≤ r → r ≤ 7 → (-1 ≤ σ 1 r ∧ σ 1 r ≤ 2) ∧ (0 ≤ σ 2 r ∧ σ 2 r ≤ 40)) (hit : ∀ j : Int, R3 (σ 3 j)) (rt : R3 t) (rr : R3 r) (rp : R3 p) : CtI l K D ad 12 (cfM ad K) E yX9_rounds cX9_rounds 10 (some .int) 4 [.ref (ad 0), .int (iI t), .int (iI r), .int (iI p)] σ (if (0 ≤ t ∧ t ≤ σ 4 3 - 1) ∧ (0 ≤ r ∧ r ≤ 7) ∧ (-1 ≤ p ∧ p ≤ σ 4 2 - 1) then (if okB σ r then (if p < 0 then (turK (σ 4) t (over (σ 8) (fun p => σ 3 (40 * r + p)) 0 (σ 4 2)) 20).2 else (turK (σ 4) t (over (σ 8) (fun p => σ 3 (40 * r + p)) 0 (σ 4 2)) 20).1 p) else barR σ r) else -1000001) (if (0 ≤ t ∧ t ≤ σ 4 3 - 1) ∧ (0 ≤ r ∧ r ≤ 7) ∧ (-1 ≤ p ∧ p ≤ σ 4 2 - 1) then (if okB σ r then mu (mr (mu σ 0 0 0) 8 (turK (σ 4) t (over (σ 8) (fun p => σ 3 (40 * r + p)) 0 (σ 4 2)) 20).1) 0 1 0 else barM (mu σ 0 0 0) r) else mu σ 0 0 0) := by
  have hp : 0 ≤ σ 4 2 ∧ σ 4 2 ≤ 4 := hT.2.2.1
  have ht3 : 0 ≤ σ 4 3 ∧ σ 4 3 ≤ 5 := hT.2.2.2.1
  refine ctI_of hap hE (by decide) rfl .int (nar_i _) (fun M C hn hret => ?_)
  have C : Good l K D ad 12 E 4 cX9_rounds RX9 M := C
  show G M ad 12 (cfM ad K) 0 [(0, .ref (ad 0)), (1, .int (iI t)), (2, .int (iI r)), (3, .int (iI p))] [] σ
  refine g_aload_n C dX9_rounds_0 (p := 0) (hi := rfl) (hv := rfl) ?_
  refine g_iconst C dX9_rounds_1 ?_
  refine gm_p_thrown C dX9_rounds_2 wf_X9_44 ?_
  refine g_aload_n C dX9_rounds_5 (p := 0) (hi := rfl) (hv := rfl) ?_
  refine g_iload_n C dX9_rounds_6 (p := 1) (hi := rfl) (hv := rfl) ?_
  refine gm_call C dX9_rounds_7 (kX9_isThing (σ := (mu σ 0 0 0)) (t := t) hap hE (by show 0 ≤ σ 4 3 ∧ σ 4 3 ≤ 5; first | assumption | omega | exact hT | exact hpe | exact hm | exact hit | exact rt | exact rr | exact rp | exact hks | exact htk | exact hT.1) (by first | assumption | omega | exact hT | exact hpe | exact hm | exact hit | exact rt | exact rr | exact rp | exact hks | exact htk | exact hT.1)) mw_X9_isThing wl_X9_210 (by decide) (by decide) rfl rfl (by simp [Value.category]) ?_
  refine g_cI (b := (if 0 ≤ t ∧ t ≤ σ 4 3 - 1 then 1 else 0)) (by first | rfl | (congr 1 <;> first | rfl | exact over_out (by omega)) | (congr 2 <;> first | rfl | exact over_out (by omega)) | simp [mu_app, mr_app]) ?_
  refine g_if_eq C (tgt := 40) dX9_rounds_10 (by decide) (by omega) (fun h_1 => ?_) (fun h_1 => ?_)
  · refine g_ldc C (n := (-1000001)) wk_X9_64 (by decide +kernel) dX9_rounds_40 ?_
    exact hret _ _ _ _ dX9_rounds_42 (by (try subst hiN); (repeat' split) <;> first | (exfalso; omega) | rfl | (rw [turK_stay (by omega) 20 hi]) | omega) (by (try subst hiN); (repeat' split) <;> first | (exfalso; omega) | rfl | exact (barM_ok (σ := mu σ 0 0 0) hbx).symm | (rw [mr_mu_c (by decide), mr_mr]; done) | (rw [turK_stay (by omega) 20 hi, mr_mu_c (by decide), mr_mr]))
  · refine g_iload_n C dX9_rounds_13 (p := 2) (hi := rfl) (hv := rfl) ?_
    refine g_callS C dX9_rounds_14 (kX9_isRow (σ := (mu σ 0 0 0)) (r := r) hap hE (by first | assumption | omega | exact hT | exact hpe | exact hm | exact hit | exact rt | exact rr | exact rp | exact hks | exact htk | exact hT.1)) mw_X9_isRow wl_X9_58 (by decide) (by decide) rfl rfl (by simp [Value.category]) ?_
    refine g_if_eq C (tgt := 40) dX9_rounds_17 (by decide) (by omega) (fun h_2 => ?_) (fun h_2 => ?_)
    · refine g_ldc C (n := (-1000001)) wk_X9_64 (by decide +kernel) dX9_rounds_40 ?_
      exact hret _ _ _ _ dX9_rounds_42 (by (try subst hiN); (repeat' split) <;> first | (exfalso; omega) | rfl | (rw [turK_stay (by omega) 20 hi]) | omega) (by (try subst hiN); (repeat' split) <;> first | (exfalso; omega) | rfl | exact (barM_ok (σ := mu σ 0 0 0) hbx).symm | (rw [mr_mu_c (by decide), mr_mr]; done) | (rw [turK_stay (by omega) 20 hi, mr_mu_c (by decide), mr_mr]))
    · refine g_iload_n C dX9_rounds_20 (p := 3) (hi := rfl) (hv := rfl) ?_
      refine g_i2l C (by omega) dX9_rounds_21 ?_
      refine g_ldc2 C (n := (-1)) wk_X9_232 (by decide +kernel) dX9_rounds_22 ?_
      refine g_aload_n C dX9_rounds_25 (p := 0) (hi := rfl) (hv := rfl) ?_
      refine gm_g_town C dX9_rounds_26 wf_X9_19 ?_
      refine g_iconst C dX9_rounds_29 ?_
      refine gm_l_town C dX9_rounds_30 (by omega) (by omega) ?_
      refine g_cI (b := (σ 4 2)) (by first | rfl | (rw [mr_app, if_pos rfl]; exact over_out (by omega)) | simp [mu_app, mr_app]) ?_
      refine g_iconst C dX9_rounds_31 ?_
      refine g_isub C dX9_rounds_32 ?_
      refine g_i2l C (by omega) dX9_rounds_33 ?_
      refine g_callS C dX9_rounds_34 (kX9_in (σ := (mu σ 0 0 0)) (v := p) (lo := (-1)) (hi := (σ 4 2) - 1) hap hE (by first | assumption | omega | exact hT | exact hpe | exact hm | exact hit | exact rt | exact rr | exact rp | exact hks | exact htk | exact hT.1) (by first | assumption | omega | exact hT | exact hpe | exact hm | exact hit | exact rt | exact rr | exact rp | exact hks | exact htk | exact hT.1) (by first | assumption | omega | exact hT | exact hpe | exact hm | exact hit | exact rt | exact rr | exact rp | exact hks | exact htk | exact hT.1)) mw_X9_in wl_X9_54 (by decide) (by decide) rfl rfl (by simp [Value.category]) ?_
      refine g_if_ne C (tgt := 43) dX9_rounds_37 (by decide) (by omega) (fun h_3 => ?_) (fun h_3 => ?_)
      · refine g_aload_n C dX9_rounds_43 (p := 0) (hi := rfl) (hv := rfl) ?_
        refine g_iload_n C dX9_rounds_44 (p := 2) (hi := rfl) (hv := rfl) ?_
        by_cases hb_4 : okB (mu σ 0 0 0) r
        · have hbx : okB σ r := hb_4
          have hsw := barSW hp.1 hbx
          refine gm_call C dX9_rounds_45 (kX9_barred_ok (σ := (mu σ 0 0 0)) (r := r) hap hE (by show 0 ≤ σ 4 2 ∧ σ 4 2 ≤ 4; first | assumption | omega | exact hT | exact hpe | exact hm | exact hit | exact rt | exact rr | exact rp | exact hks | exact htk | exact hT.1) (by show ∀ r : Int, 0 ≤ r → r ≤ 7 → (-1 ≤ (σ 1) r ∧ (σ 1) r ≤ 2) ∧ (0 ≤ (σ 2) r ∧ (σ 2) r ≤ 40); first | assumption | omega | exact hT | exact hpe | exact hm | exact hit | exact rt | exact rr | exact rp | exact hks | exact htk | exact hT.1) (by show ∀ j : Int, R3 ((σ 3) j); first | assumption | omega | exact hT | exact hpe | exact hm | exact hit | exact rt | exact rr | exact rp | exact hks | exact htk | exact hT.1) (by first | assumption | omega | exact hT | exact hpe | exact hm | exact hit | exact rt | exact rr | exact rp | exact hks | exact htk | exact hT.1) (by first | assumption | omega | exact hT | exact hpe | exact hm | exact hit | exact rt | exact rr | exact rp | exact hks | exact htk | exact hT.1)) mw_X9_barred wl_X9_217 (by decide) (by decide) rfl rfl (by simp [Value.category]) ?_
          show G M ad 12 (cfM ad K) 48 [(0, .ref (ad 0)), (1, .int (iI t)), (2, .int (iI r)), (3, .int (iI p))] [.int (iI 0)] (mu (mr (mu σ 0 0 0) 8 (over (σ 8) (fun p => (σ 3) (40 * r + p)) 0 (σ 4 2))) 0 1 0)
          refine g_istore C hn dX9_rounds_48 rfl rfl ?_
          refine g_iload C dX9_rounds_50 (p := 0) rfl ?_
          refine g_if_ge C (tgt := 58) dX9_rounds_52 (by decide) (by omega) (fun h_5 => ?_) (fun h_5 => ?_)
          · refine g_ldc C (n := (-1000000)) wk_X9_80 (by decide +kernel) dX9_rounds_58 ?_
            refine g_istore C hn dX9_rounds_60 rfl rfl ?_
            refine g_iconst C dX9_rounds_62 ?_
            refine g_istore C hn dX9_rounds_63 rfl rfl ?_
            have L65 : ∀ i : Nat, i ≤ 20 → ∀ (x5 x6 : Int), ∀ (τ65 : Mem), x5 = (turK (σ 4) t (over (σ 8) (fun p => σ 3 (40 * r + p)) 0 (σ 4 2)) i).2 → x6 = (i : Int) + 1 → τ65 = (mr (mu (mr (mu σ 0 0 0) 8 (over (σ 8) (fun p => (σ 3) (40 * r + p)) 0 (σ 4 2))) 0 1 0) 8 ((turK (σ 4) t (over (σ 8) (fun p => σ 3 (40 * r + p)) 0 (σ 4 2)) i).1)) → G M ad 12 (cfM ad K) 65 [(0, .ref (ad 0)), (1, .int (iI t)), (2, .int (iI r)), (3, .int (iI p)), (4, .int (iI 0)), (5, .int (iI x5)), (6, .int (iI x6))] [] τ65 := by
              refine loopUp 20 ?_
              rintro i hi ihi x5 x6 τ65 rfl rfl rfl
              have hki := turK_in (T := σ 4) (t := t) (f := (over (σ 8) (fun p => σ 3 (40 * r + p)) 0 (σ 4 2))) i
              have hks := turK_SW (T := σ 4) (t := t) hsw i
              refine g_iload C dX9_rounds_65 (p := 6) rfl ?_
              refine (g_bipush C dX9_rounds_67 (by decide)) ?_
              refine g_icmp_gt C (tgt := 170) dX9_rounds_69 (by decide) (by omega) (by omega) (fun h_6 => ?_) (fun h_6 => ?_)
              · have hiN : i = 20 := by omega
                refine g_iload_n C dX9_rounds_170 (p := 3) (hi := rfl) (hv := rfl) ?_
                refine g_if_ge C (tgt := 179) dX9_rounds_171 (by decide) (by omega) (fun h_7 => ?_) (fun h_7 => ?_)
                · refine g_aload_n C dX9_rounds_179 (p := 0) (hi := rfl) (hv := rfl) ?_
                  refine gm_g_says C dX9_rounds_180 wf_X9_31 ?_
                  refine g_iload_n C dX9_rounds_183 (p := 3) (hi := rfl) (hv := rfl) ?_
                  refine gm_l_says C dX9_rounds_184 (by omega) (by omega) ?_
                  refine g_cI (b := (((turK (σ 4) t (over (σ 8) (fun p => σ 3 (40 * r + p)) 0 (σ 4 2)) i).1) p)) (by first | rfl | (rw [mr_app, if_pos rfl]; exact over_out (by omega)) | simp [mu_app, mr_app]) ?_
                  exact hret _ _ _ _ dX9_rounds_185 (by (try subst hiN); (try subst hiN); (repeat' split) <;> first | (exfalso; omega) | rfl | (rw [turK_stay (by omega) 20 hi]) | omega) (by (try subst hiN); (try subst hiN); (repeat' split) <;> first | (exfalso; omega) | rfl | exact (barM_ok (σ := mu σ 0 0 0) hbx).symm | (rw [mr_mu_c (by decide), mr_mr]; done) | (rw [turK_stay (by omega) 20 hi, mr_mu_c (by decide), mr_mr]))
                · refine g_iload C dX9_rounds_174 (p := 5) rfl ?_
                  refine g_goto C (tgt := 185) dX9_rounds_176 (by decide) ?_
                  exact hret _ _ _ _ dX9_rounds_185 (by (try subst hiN); (try subst hiN); (repeat' split) <;> first | (exfalso; omega) | rfl | (rw [turK_stay (by omega) 20 hi]) | omega) (by (try subst hiN); (try subst hiN); (repeat' split) <;> first | (exfalso; omega) | rfl | exact (barM_ok (σ := mu σ 0 0 0) hbx).symm | (rw [mr_mu_c (by decide), mr_mr]; done) | (rw [turK_stay (by omega) 20 hi, mr_mu_c (by decide), mr_mr]))
              · refine g_iload C dX9_rounds_72 (p := 5) rfl ?_
                refine g_ldc C (n := (-1000000)) wk_X9_80 (by decide +kernel) dX9_rounds_74 ?_
                refine g_icmp_ne C (tgt := 170) dX9_rounds_76 (by decide) (by omega) (by omega) (fun h_8 => ?_) (fun h_8 => ?_)
                · refine g_iload_n C dX9_rounds_170 (p := 3) (hi := rfl) (hv := rfl) ?_
                  refine g_if_ge C (tgt := 179) dX9_rounds_171 (by decide) (by omega) (fun h_9 => ?_) (fun h_9 => ?_)
                  · refine g_aload_n C dX9_rounds_179 (p := 0) (hi := rfl) (hv := rfl) ?_
                    refine gm_g_says C dX9_rounds_180 wf_X9_31 ?_
                    refine g_iload_n C dX9_rounds_183 (p := 3) (hi := rfl) (hv := rfl) ?_
                    refine gm_l_says C dX9_rounds_184 (by omega) (by omega) ?_
                    refine g_cI (b := (((turK (σ 4) t (over (σ 8) (fun p => σ 3 (40 * r + p)) 0 (σ 4 2)) i).1) p)) (by first | rfl | (rw [mr_app, if_pos rfl]; exact over_out (by omega)) | simp [mu_app, mr_app]) ?_
                    exact hret _ _ _ _ dX9_rounds_185 (by (try subst hiN); (try subst hiN); (repeat' split) <;> first | (exfalso; omega) | rfl | (rw [turK_stay (by omega) 20 hi]) | omega) (by (try subst hiN); (try subst hiN); (repeat' split) <;> first | (exfalso; omega) | rfl | exact (barM_ok (σ := mu σ 0 0 0) hbx).symm | (rw [mr_mu_c (by decide), mr_mr]; done) | (rw [turK_stay (by omega) 20 hi, mr_mu_c (by decide), mr_mr]))
                  · refine g_iload C dX9_rounds_174 (p := 5) rfl ?_
                    refine g_goto C (tgt := 185) dX9_rounds_176 (by decide) ?_
                    exact hret _ _ _ _ dX9_rounds_185 (by (try subst hiN); (try subst hiN); (repeat' split) <;> first | (exfalso; omega) | rfl | (rw [turK_stay (by omega) 20 hi]) | omega) (by (try subst hiN); (try subst hiN); (repeat' split) <;> first | (exfalso; omega) | rfl | exact (barM_ok (σ := mu σ 0 0 0) hbx).symm | (rw [mr_mu_c (by decide), mr_mr]; done) | (rw [turK_stay (by omega) 20 hi, mr_mu_c (by decide), mr_mr]))
                · refine g_iconst C dX9_rounds_79 ?_
                  refine g_istore C hn dX9_rounds_80 rfl rfl ?_
                  refine g_iconst C dX9_rounds_82 ?_
                  refine g_istore C hn dX9_rounds_83 rfl rfl ?_
                  have L85 : ∀ j : Nat, j ≤ ((σ 4 2).toNat) → ∀ (x7 x8 : Int), ∀ (τ85 : Mem), x7 = samF (σ 4) t (turK (σ 4) t (over (σ 8) (fun p => σ 3 (40 * r + p)) 0 (σ 4 2)) i).1 j → x8 = (j : Int) → τ85 = (mr (mr (mu (mr (mu σ 0 0 0) 8 (over (σ 8) (fun p => (σ 3) (40 * r + p)) 0 (σ 4 2))) 0 1 0) 8 ((turK (σ 4) t (over (σ 8) (fun p => σ 3 (40 * r + p)) 0 (σ 4 2)) i).1)) 8 (turF (σ 4) t (turK (σ 4) t (over (σ 8) (fun p => σ 3 (40 * r + p)) 0 (σ 4 2)) i).1 j)) → G M ad 12 (cfM ad K) 85 [(0, .ref (ad 0)), (1, .int (iI t)), (2, .int (iI r)), (3, .int (iI p)), (4, .int (iI 0)), (5, .int (iI ((turK (σ 4) t (over (σ 8) (fun p => σ 3 (40 * r + p)) 0 (σ 4 2)) i).2))), (6, .int (iI ((i : Int) + 1))), (7, .int (iI x7)), (8, .int (iI x8))] [] τ85 := by
                    refine loopUp ((σ 4 2).toNat) ?_
                    rintro j hj ihj x7 x8 τ85 rfl rfl rfl
                    have h01 := samF_01 (T := σ 4) (t := t) (f := (turK (σ 4) t (over (σ 8) (fun p => σ 3 (40 * r + p)) 0 (σ 4 2)) i).1) j
                    have htk := turF_in (T := σ 4) (t := t) hks j
                    refine g_iload C dX9_rounds_85 (p := 8) rfl ?_
                    refine g_aload_n C dX9_rounds_87 (p := 0) (hi := rfl) (hv := rfl) ?_
                    refine gm_g_town C dX9_rounds_88 wf_X9_19 ?_
                    refine g_iconst C dX9_rounds_91 ?_
                    refine gm_l_town C dX9_rounds_92 (by omega) (by omega) ?_
                    refine g_cI (b := (σ 4 2)) (by first | rfl | (rw [mr_app, if_pos rfl]; exact over_out (by omega)) | simp [mu_app, mr_app]) ?_
                    refine g_icmp_ge C (tgt := 150) dX9_rounds_93 (by decide) (by omega) (by omega) (fun h_10 => ?_) (fun h_10 => ?_)
                    · have hjN : j = ((σ 4 2).toNat) := by omega
                      refine g_iload C dX9_rounds_150 (p := 7) rfl ?_
                      refine g_if_eq C (tgt := 160) dX9_rounds_152 (by decide) (by omega) (fun h_11 => ?_) (fun h_11 => ?_)
                      · refine g_ldc C (n := (-1000000)) wk_X9_80 (by decide +kernel) dX9_rounds_160 ?_
                        refine g_istore C hn dX9_rounds_162 rfl rfl ?_
                        refine g_iinc C hn dX9_rounds_164 (p := 6) rfl rfl rfl ?_
                        refine g_goto C (tgt := 65) dX9_rounds_167 (by decide) ?_
                        refine g_sub [2, 3, 4, 5, 6, 1, 0] rfl ?_
                        exact ihi (by omega) _ _ _ (by first | omega | (simp only [turK]; rw [if_pos (by omega)]; (try subst hjN); dsimp only; (repeat' split) <;> first | (exfalso; omega) | rfl | omega)) (by first | omega | (simp only [turK]; rw [if_pos (by omega)]; (try subst hjN); dsimp only; (repeat' split) <;> first | (exfalso; omega) | rfl | omega)) (by first | rfl | (simp only [turK]; rw [if_pos (by omega)]; (try subst hjN); rw [mr_mr]))
                      · refine g_iload C dX9_rounds_155 (p := 6) rfl ?_
                        refine g_goto C (tgt := 162) dX9_rounds_157 (by decide) ?_
                        refine g_istore C hn dX9_rounds_162 rfl rfl ?_
                        refine g_iinc C hn dX9_rounds_164 (p := 6) rfl rfl rfl ?_
                        refine g_goto C (tgt := 65) dX9_rounds_167 (by decide) ?_
                        refine g_sub [2, 3, 4, 5, 6, 1, 0] rfl ?_
                        exact ihi (by omega) _ _ _ (by first | omega | (simp only [turK]; rw [if_pos (by omega)]; (try subst hjN); dsimp only; (repeat' split) <;> first | (exfalso; omega) | rfl | omega)) (by first | omega | (simp only [turK]; rw [if_pos (by omega)]; (try subst hjN); dsimp only; (repeat' split) <;> first | (exfalso; omega) | rfl | omega)) (by first | rfl | (simp only [turK]; rw [if_pos (by omega)]; (try subst hjN); rw [mr_mr]))
                    · refine g_aload_n C dX9_rounds_96 (p := 0) (hi := rfl) (hv := rfl) ?_
                      refine g_aload_n C dX9_rounds_97 (p := 0) (hi := rfl) (hv := rfl) ?_
                      refine gm_g_town C dX9_rounds_98 wf_X9_19 ?_
                      refine g_iconst C dX9_rounds_101 ?_
                      refine gm_l_town C dX9_rounds_102 (by omega) (by omega) ?_
                      refine g_cI (b := (σ 4 0)) (by first | rfl | (rw [mr_app, if_pos rfl]; exact over_out (by omega)) | simp [mu_app, mr_app]) ?_
                      refine g_iload_n C dX9_rounds_103 (p := 1) (hi := rfl) (hv := rfl) ?_
                      refine g_iload C dX9_rounds_104 (p := 8) rfl ?_
                      refine gm_call C dX9_rounds_106 (kX9_bestBy (σ := (mr (mr (mu (mr (mu σ 0 0 0) 8 (over (σ 8) (fun p => (σ 3) (40 * r + p)) 0 (σ 4 2))) 0 1 0) 8 ((turK (σ 4) t (over (σ 8) (fun p => σ 3 (40 * r + p)) 0 (σ 4 2)) i).1)) 8 (turF (σ 4) t (turK (σ 4) t (over (σ 8) (fun p => σ 3 (40 * r + p)) 0 (σ 4 2)) i).1 j))) (pays := σ 4 0) (t := t) (p := (j : Int)) hap hE (by show TW (σ 4); first | assumption | omega | exact hT | exact hpe | exact hm | exact hit | exact rt | exact rr | exact rp | exact hks | exact htk | exact hT.1) (by show 1 ≤ σ 4 2 ∧ σ 4 2 ≤ 4; first | assumption | omega | exact hT | exact hpe | exact hm | exact hit | exact rt | exact rr | exact rp | exact hks | exact htk | exact hT.1) (by show SW (σ 4 2) (turF (σ 4) t (turK (σ 4) t (over (σ 8) (fun p => σ 3 (40 * r + p)) 0 (σ 4 2)) i).1 j); first | assumption | omega | exact hT | exact hpe | exact hm | exact hit | exact rt | exact rr | exact rp | exact hks | exact htk | exact hT.1) (by first | assumption | omega | exact hT | exact hpe | exact hm | exact hit | exact rt | exact rr | exact rp | exact hks | exact htk | exact hT.1) (by first | assumption | omega | exact hT | exact hpe | exact hm | exact hit | exact rt | exact rr | exact rp | exact hks | exact htk | exact hT.1) (by first | assumption | omega | exact hT | exact hpe | exact hm | exact hit | exact rt | exact rr | exact rp | exact hks | exact htk | exact hT.1)) mw_X9_bestBy wl_X9_200 (by decide) (by decide) rfl rfl (by simp [Value.category]) ?_
                      refine g_cI (b := (besB (σ 4 1) (σ 4 2) (turF (σ 4) t (turK (σ 4) t (over (σ 8) (fun p => σ 3 (40 * r + p)) 0 (σ 4 2)) i).1 j) (woF (σ 4) t (j : Int)) (σ 4 0) (j : Int))) (by first | rfl | (congr 1 <;> first | rfl | exact over_out (by omega)) | (congr 2 <;> first | rfl | exact over_out (by omega)) | simp [mu_app, mr_app]) ?_
                      refine g_istore C hn dX9_rounds_109 rfl rfl ?_
                      refine g_iload C dX9_rounds_111 (p := 8) rfl ?_
                      refine g_if_eq C (tgt := 132) dX9_rounds_113 (by decide) (by omega) (fun h_12 => ?_) (fun h_12 => ?_)
                      · refine g_iconst C dX9_rounds_132 ?_
                        refine g_istore C hn dX9_rounds_133 rfl rfl ?_
                        refine g_aload_n C dX9_rounds_135 (p := 2) (hi := rfl) (hv := rfl) ?_
                        refine gm_g_says C dX9_rounds_136 wf_X9_31 ?_
                        refine g_iload C dX9_rounds_139 (p := 9) rfl ?_
                        refine g_iload C dX9_rounds_141 (p := 1) rfl ?_
                        refine gm_s_says C dX9_rounds_143 (by omega) (by omega) ?_
                        refine g_iinc C hn dX9_rounds_144 (p := 9) rfl rfl rfl ?_
                        refine g_goto C (tgt := 85) dX9_rounds_147 (by decide) ?_
                        refine g_sub [3, 4, 5, 6, 7, 8, 9, 1, 0] rfl ?_
                        exact ihj (by omega) _ _ _ (by first | omega | (simp only [samF]; (repeat' split) <;> first | (exfalso; omega) | rfl | omega)) (by first | omega | (simp only [samF]; (repeat' split) <;> first | (exfalso; omega) | rfl | omega)) (by rw [mu_mr]; rfl)
                      · refine g_iload C dX9_rounds_116 (p := 0) rfl ?_
                        refine g_aload_n C dX9_rounds_118 (p := 1) (hi := rfl) (hv := rfl) ?_
                        refine gm_g_says C dX9_rounds_119 wf_X9_31 ?_
                        refine g_iload C dX9_rounds_122 (p := 9) rfl ?_
                        refine gm_l_says C dX9_rounds_124 (by omega) (by omega) ?_
                        refine g_cI (b := ((turF (σ 4) t (turK (σ 4) t (over (σ 8) (fun p => σ 3 (40 * r + p)) 0 (σ 4 2)) i).1 j) (j : Int))) (by first | rfl | (rw [mr_app, if_pos rfl]; exact over_out (by omega)) | simp [mu_app, mr_app]) ?_
                        refine g_icmp_ne C (tgt := 132) dX9_rounds_125 (by decide) (by have := @besB_in (σ 4 1) (σ 4 2) (σ 4 0) (j : Int) (woF (σ 4) t (j : Int)) (turF (σ 4) t (turK (σ 4) t (over (σ 8) (fun p => σ 3 (40 * r + p)) 0 (σ 4 2)) i).1 j); omega) (by have := htk (j : Int) (by omega) (by omega); omega) (fun h_13 => ?_) (fun h_13 => ?_)
                        · refine g_iconst C dX9_rounds_132 ?_
                          refine g_istore C hn dX9_rounds_133 rfl rfl ?_
                          refine g_aload_n C dX9_rounds_135 (p := 2) (hi := rfl) (hv := rfl) ?_
                          refine gm_g_says C dX9_rounds_136 wf_X9_31 ?_
                          refine g_iload C dX9_rounds_139 (p := 9) rfl ?_
                          refine g_iload C dX9_rounds_141 (p := 1) rfl ?_
                          refine gm_s_says C dX9_rounds_143 (by omega) (by omega) ?_
                          refine g_iinc C hn dX9_rounds_144 (p := 9) rfl rfl rfl ?_
                          refine g_goto C (tgt := 85) dX9_rounds_147 (by decide) ?_
                          refine g_sub [3, 4, 5, 6, 7, 8, 9, 1, 0] rfl ?_
                          exact ihj (by omega) _ _ _ (by first | omega | (simp only [samF]; (repeat' split) <;> first | (exfalso; omega) | rfl | omega)) (by first | omega | (simp only [samF]; (repeat' split) <;> first | (exfalso; omega) | rfl | omega)) (by rw [mu_mr]; rfl)
                        · refine g_iconst C dX9_rounds_128 ?_
                          refine g_goto C (tgt := 133) dX9_rounds_129 (by decide) ?_
                          refine g_istore C hn dX9_rounds_133 rfl rfl ?_
                          refine g_aload_n C dX9_rounds_135 (p := 2) (hi := rfl) (hv := rfl) ?_
                          refine gm_g_says C dX9_rounds_136 wf_X9_31 ?_
                          refine g_iload C dX9_rounds_139 (p := 9) rfl ?_
                          refine g_iload C dX9_rounds_141 (p := 1) rfl ?_
                          refine gm_s_says C dX9_rounds_143 (by omega) (by omega) ?_
                          refine g_iinc C hn dX9_rounds_144 (p := 9) rfl rfl rfl ?_
                          refine g_goto C (tgt := 85) dX9_rounds_147 (by decide) ?_
                          refine g_sub [3, 4, 5, 6, 7, 8, 9, 1, 0] rfl ?_
                          exact ihj (by omega) _ _ _ (by first | omega | (simp only [samF]; (repeat' split) <;> first | (exfalso; omega) | rfl | omega)) (by first | omega | (simp only [samF]; (repeat' split) <;> first | (exfalso; omega) | rfl | omega)) (by rw [mu_mr]; rfl)
                  refine g_sub [2, 3, 4, 5, 6, 7, 8, 1, 0] rfl ?_
                  exact L85 0 (Nat.zero_le _) _ _ _ (by first | rfl | omega | simp) (by first | rfl | omega | simp) (by (rw [mr_mr]; rfl))
            refine g_sub [3, 4, 5, 6, 2, 1, 0] rfl ?_
            exact L65 0 (Nat.zero_le _) _ _ _ (by first | rfl | omega | simp) (by first | rfl | omega | simp) (by exact (mr_self rfl).symm)
          · exact absurd h_5 (by decide)
        · have hnx : ¬ okB σ r := hb_4
          have hneg := barR_no (σ := (mu σ 0 0 0)) hb_4
          refine gm_call C dX9_rounds_45 (kX9_barred_no (σ := (mu σ 0 0 0)) (r := r) hap hE (by show 0 ≤ σ 4 2 ∧ σ 4 2 ≤ 4; first | assumption | omega | exact hT | exact hpe | exact hm | exact hit | exact rt | exact rr | exact rp | exact hks | exact htk | exact hT.1) (by show ∀ r : Int, 0 ≤ r → r ≤ 7 → (-1 ≤ (σ 1) r ∧ (σ 1) r ≤ 2) ∧ (0 ≤ (σ 2) r ∧ (σ 2) r ≤ 40); first | assumption | omega | exact hT | exact hpe | exact hm | exact hit | exact rt | exact rr | exact rp | exact hks | exact htk | exact hT.1) (by show ∀ j : Int, R3 ((σ 3) j); first | assumption | omega | exact hT | exact hpe | exact hm | exact hit | exact rt | exact rr | exact rp | exact hks | exact htk | exact hT.1) (by first | assumption | omega | exact hT | exact hpe | exact hm | exact hit | exact rt | exact rr | exact rp | exact hks | exact htk | exact hT.1) (by first | assumption | omega | exact hT | exact hpe | exact hm | exact hit | exact rt | exact rr | exact rp | exact hks | exact htk | exact hT.1)) mw_X9_barred wl_X9_217 (by decide) (by decide) rfl rfl (by simp [Value.category]) ?_
          refine g_istore C hn dX9_rounds_48 rfl rfl ?_
          refine g_iload C dX9_rounds_50 (p := 0) rfl ?_
          refine g_if_ge C (tgt := 58) dX9_rounds_52 (by decide) (by omega) (fun h_14 => ?_) (fun h_14 => ?_)
          · exact absurd h_14 (by omega)
          · refine g_iload C dX9_rounds_55 (p := 0) rfl ?_
            exact hret _ _ _ _ dX9_rounds_57 (by (try subst hiN); (try subst hjN); (try subst hiN); (repeat' split) <;> first | (exfalso; omega) | rfl | (rw [turK_stay (by omega) 20 hi]) | omega) (by (try subst hiN); (try subst hjN); (try subst hiN); (repeat' split) <;> first | (exfalso; omega) | rfl | exact (barM_ok (σ := mu σ 0 0 0) hbx).symm | (rw [mr_mu_c (by decide), mr_mr]; done) | (rw [turK_stay (by omega) 20 hi, mr_mu_c (by decide), mr_mr]))
      · refine g_ldc C (n := (-1000001)) wk_X9_64 (by decide +kernel) dX9_rounds_40 ?_
        exact hret _ _ _ _ dX9_rounds_42 (by (try subst hiN); (try subst hjN); (try subst hiN); (repeat' split) <;> first | (exfalso; omega) | rfl | (rw [turK_stay (by omega) 20 hi]) | omega) (by (try subst hiN); (try subst hjN); (try subst hiN); (repeat' split) <;> first | (exfalso; omega) | rfl | exact (barM_ok (σ := mu σ 0 0 0) hbx).symm | (rw [mr_mu_c (by decide), mr_mr]; done) | (rw [turK_stay (by omega) 20 hi, mr_mu_c (by decide), mr_mr]))
set_option maxHeartbeats 4000000 in
set_option maxRecDepth 100000 in
theorem kX9_feed {l : Launch} {K : Nat → ClassId} {D : va_G} {ad : Int → Nat} {E : gEnv} {σ : Mem} {w n : Int} (hap : Apart ad 12) (hE : gEok E) (hta : 0 ≤ σ 0 10 ∧ σ 0 10 ≤ 400) (rn : R3 n) : CtI l K D ad 12 (cfM ad K) E yX9_feed cX9_feed 5 (some .int) 1 [.ref (ad 0), .long (lI w), .int (iI n)] σ (if ¬ (1 ≤ n ∧ n ≤ 8) then -1000001 else if 400 < σ 0 10 + n then -1000003 else σ 0 10 + n) (if (1 ≤ n ∧ n ≤ 8) ∧ σ 0 10 + n ≤ 400 then mu (mr (mu σ 0 0 0) 7 (over (σ 7) (fun x => bytF w (n - 1 - (x - σ 0 10))) (σ 0 10) (σ 0 10 + n))) 0 10 (σ 0 10 + n) else mu σ 0 0 0) := by
  refine ctI_of hap hE (by decide) rfl .int (nar_i _) (fun M C hn hret => ?_)
  have C : Good l K D ad 12 E 1 cX9_feed RX9 M := C
  show G M ad 12 (cfM ad K) 0 [(0, .ref (ad 0)), (1, .long (lI w)), (3, .int (iI n))] [] σ
  refine g_aload_n C dX9_feed_0 (p := 0) (hi := rfl) (hv := rfl) ?_
  refine g_iconst C dX9_feed_1 ?_
  refine gm_p_thrown C dX9_feed_2 wf_X9_44 ?_
  refine g_iload_n C dX9_feed_5 (p := 2) (hi := rfl) (hv := rfl) ?_
  refine g_i2l C (by omega) dX9_feed_6 ?_
  refine g_lconst C (z := 1) dX9_feed_7 rfl ?_
  refine g_ldc2 C (n := 8) wk_X9_69 (by decide +kernel) dX9_feed_8 ?_
  refine g_callS C dX9_feed_11 (kX9_in (σ := (mu σ 0 0 0)) (v := n) (lo := 1) (hi := 8) hap hE (by first | assumption | omega | exact hta | exact rn) (by first | assumption | omega | exact hta | exact rn) (by first | assumption | omega | exact hta | exact rn)) mw_X9_in wl_X9_54 (by decide) (by decide) rfl rfl (by simp [Value.category]) ?_
  refine g_if_ne C (tgt := 20) dX9_feed_14 (by decide) (by omega) (fun h_1 => ?_) (fun h_1 => ?_)
  · refine g_aload_n C dX9_feed_20 (p := 0) (hi := rfl) (hv := rfl) ?_
    refine gm_g_taped C dX9_feed_21 wf_X9_71 ?_
    refine g_cI (b := (σ 0 10)) (by first | rfl | (rw [mr_app, if_pos rfl]; exact over_out (by omega)) | simp [mu_app, mr_app]) ?_
    refine g_iload_n C dX9_feed_24 (p := 2) (hi := rfl) (hv := rfl) ?_
    refine g_iadd C dX9_feed_25 ?_
    refine (g_sipush C dX9_feed_26 (by decide)) ?_
    refine g_icmp_le C (tgt := 35) dX9_feed_29 (by decide) (by omega) (by omega) (fun h_2 => ?_) (fun h_2 => ?_)
    · refine g_iload_n C dX9_feed_35 (p := 2) (hi := rfl) (hv := rfl) ?_
      refine g_iconst C dX9_feed_36 ?_
      refine g_isub C dX9_feed_37 ?_
      refine g_istore C hn dX9_feed_38 rfl rfl ?_
      have L40 : ∀ i : Nat, i ≤ n.toNat → ∀ (x4 : Int), ∀ (τ40 : Mem), x4 = n - 1 - (i : Int) → τ40 = (mu (mr (mu σ 0 0 0) 7 (over (σ 7) (fun x => bytF w (n - 1 - (x - σ 0 10))) (σ 0 10) (σ 0 10 + (i : Int)))) 0 10 (σ 0 10 + (i : Int))) → G M ad 12 (cfM ad K) 40 [(0, .ref (ad 0)), (1, .long (lI w)), (3, .int (iI n)), (4, .int (iI x4))] [] τ40 := by
        refine loopUp n.toNat ?_
        rintro i hi ihi x4 τ40 rfl rfl
        refine g_iload C dX9_feed_40 (p := 3) rfl ?_
        refine g_if_lt C (tgt := 82) dX9_feed_42 (by decide) (by omega) (fun h_3 => ?_) (fun h_3 => ?_)
        · have hiN : i = n.toNat := by omega
          refine g_aload_n C dX9_feed_82 (p := 0) (hi := rfl) (hv := rfl) ?_
          refine gm_g_taped C dX9_feed_83 wf_X9_71 ?_
          refine g_cI (b := (σ 0 10 + (i : Int))) (by first | rfl | (rw [mr_app, if_pos rfl]; exact over_out (by omega)) | simp [mu_app, mr_app]) ?_
          exact hret _ _ _ _ dX9_feed_86 (by (try subst hiN); (try subst hiN); (repeat' split) <;> first | (exfalso; omega) | rfl | omega) (by (try subst hiN); (try subst hiN); (repeat' split) <;> first | (exfalso; omega) | rfl | (rw [show ((n.toNat : Nat) : Int) = n by omega]))
        · refine g_aload_n C dX9_feed_45 (p := 0) (hi := rfl) (hv := rfl) ?_
          refine gm_g_tape C dX9_feed_46 wf_X9_28 ?_
          refine g_aload_n C dX9_feed_49 (p := 0) (hi := rfl) (hv := rfl) ?_
          refine gm_g_taped C dX9_feed_50 wf_X9_71 ?_
          refine g_cI (b := (σ 0 10 + (i : Int))) (by first | rfl | (rw [mr_app, if_pos rfl]; exact over_out (by omega)) | simp [mu_app, mr_app]) ?_
          refine g_lload_n C dX9_feed_53 (p := 1) (hi := rfl) (hv := rfl) ?_
          refine (g_bipush C dX9_feed_54 (by decide)) ?_
          refine g_iload C dX9_feed_56 (p := 3) rfl ?_
          refine g_imul C dX9_feed_58 ?_
          refine g_lshr C dX9_feed_59 ?_
          refine g_ldc2 C (n := 255) wk_X9_75 (by decide +kernel) dX9_feed_60 ?_
          refine g_land C dX9_feed_63 ?_
          refine g_l2i C dX9_feed_64 ?_
          refine gm_s_tape C dX9_feed_65 (by omega) (by omega) ?_
          refine g_aload_n C dX9_feed_66 (p := 0) (hi := rfl) (hv := rfl) ?_
          refine g_dup C dX9_feed_67 rfl ?_
          refine gm_g_taped C dX9_feed_68 wf_X9_71 ?_
          refine g_cI (b := (σ 0 10 + (i : Int))) (by first | rfl | (rw [mr_app, if_pos rfl]; exact over_out (by omega)) | simp [mu_app, mr_app]) ?_
          refine g_iconst C dX9_feed_71 ?_
          refine g_iadd C dX9_feed_72 ?_
          refine gm_p_taped C dX9_feed_73 wf_X9_71 ?_
          refine g_iinc C hn dX9_feed_76 (p := 3) rfl rfl rfl ?_
          refine g_goto C (tgt := 40) dX9_feed_79 (by decide) ?_
          refine g_sub [1, 2, 3, 0] rfl ?_
          exact ihi (by omega) _ _ (by first | rfl | omega) (by rw [mu_mu_c (by decide), mu_mu, mu_mu_c (by decide)]; exact mu_congr (over_step (by omega) (by omega) (by show _ = bytF w (n - 1 - (σ 0 10 + (i : Int) - σ 0 10)); rw [show σ 0 10 + (i : Int) - σ 0 10 = (i : Int) by omega]; rfl)) (by omega))
      refine g_sub [1, 2, 3, 0] rfl ?_
      exact L40 0 (Nat.zero_le _) _ _ (by first | rfl | omega | simp) (by rw [over_0 (by omega), mr_self (show σ 7 = (mu σ 0 0 0) 7 from rfl), mu_self (σ := mu σ 0 0 0) (k := 0) (j := 10) (by show _ = σ 0 10; omega)])
    · refine g_ldc C (n := (-1000003)) wk_X9_74 (by decide +kernel) dX9_feed_32 ?_
      exact hret _ _ _ _ dX9_feed_34 (by (try subst hiN); (try subst hiN); (repeat' split) <;> first | (exfalso; omega) | rfl | omega) (by (try subst hiN); (try subst hiN); (repeat' split) <;> first | (exfalso; omega) | rfl | (rw [show ((n.toNat : Nat) : Int) = n by omega]))
  · refine g_ldc C (n := (-1000001)) wk_X9_64 (by decide +kernel) dX9_feed_17 ?_
    exact hret _ _ _ _ dX9_feed_19 (by (try subst hiN); (try subst hiN); (repeat' split) <;> first | (exfalso; omega) | rfl | omega) (by (try subst hiN); (try subst hiN); (repeat' split) <;> first | (exfalso; omega) | rfl | (rw [show ((n.toNat : Nat) : Int) = n by omega]))

set_option maxHeartbeats 4000000 in
set_option maxRecDepth 100000 in
theorem kX8_hear {l : Launch} {K : Nat → ClassId} {D : va_G} {ad : Int → Nat} {E : gEnv} {σ : Mem} {r : Int} (hap : Apart ad 60) (hE : gEok E) (hH : 20 ≤ σ 0 8 ∧ σ 0 8 < 24) (hr : 0 ≤ r ∧ r < 8) (hm : R3 (σ (44 + r) 1)) (hl : 0 ≤ σ (44 + r) 3 ∧ σ (44 + r) 3 ≤ 40) (h2 : 0 ≤ σ (σ 0 8) 2 ∧ σ (σ 0 8) 2 ≤ 4) (hit : ∀ j, R3 (σ (44 + r + 8) j)) : CtI l K D ad 60 (cfC ad K) E yX8_hear cX8_hear 4 (some .int) 2 [.ref (ad 0), .int (iI r)] σ (hrR σ r) (hrM σ r) := by
  refine ctI_of hap hE (by decide) rfl .int (nar_i _) (fun M C hn hret => ?_)
  have C : Good l K D ad 60 E 2 cX8_hear RX8 M := C
  show G M ad 60 (cfC ad K) 0 [(0, .ref (ad 0)), (1, .int (iI r))] [] σ
  refine g_aload_n C dX8_hear_0 (p := 0) (hi := rfl) (hv := rfl) ?_
  refine gc_g_X8_rows C dX8_hear_1 wf_X8_11 ?_
  refine g_iload_n C dX8_hear_4 (p := 1) (hi := rfl) (hv := rfl) ?_
  refine gc_a_rows C dX8_hear_5 (by omega) (by omega) ?_
  refine g_astore_n C hn dX8_hear_6 rfl rfl rfl ?_
  refine g_aload_n C dX8_hear_7 (p := 0) (hi := rfl) (hv := rfl) ?_
  refine gc_g_X5_missing C (by omega) dX8_hear_8 wf_X8_88 ?_
  refine g_if_eq C (tgt := 20) dX8_hear_11 (by decide) (by omega) (fun h_1 => ?_) (fun h_1 => ?_)
  · refine g_aload_n C dX8_hear_20 (p := 0) (hi := rfl) (hv := rfl) ?_
    refine gc_g_X5_length C (by omega) dX8_hear_21 wf_X8_92 ?_
    refine g_aload_n C dX8_hear_24 (p := 1) (hi := rfl) (hv := rfl) ?_
    refine gc_g_X8_here C dX8_hear_25 wf_X8_65 ?_
    refine gc_g_X7_people C (by omega) dX8_hear_28 wf_X8_145 ?_
    refine g_icmp_ge C (tgt := 40) dX8_hear_31 (by decide) (by omega) (by omega) (fun h_2 => ?_) (fun h_2 => ?_)
    · refine g_iconst C dX8_hear_40 ?_
      refine g_istore_n C hn dX8_hear_41 rfl rfl rfl ?_
      have L42 : ∀ i : Nat, i ≤ ((σ (σ 0 8) 2).toNat) → ∀ (x3 : Int), x3 = (i : Int) → okC (σ (44 + r + 8)) i = 1 → G M ad 60 (cfC ad K) 42 [(0, .ref (ad 0)), (1, .int (iI r)), (2, .ref (ad (44 + r))), (3, .int (iI x3))] [] σ := by
        refine loopUp ((σ (σ 0 8) 2).toNat) ?_
        rintro i hi ihi x3 rfl hok
        refine g_iload_n C dX8_hear_42 (p := 3) (hi := rfl) (hv := rfl) ?_
        refine g_aload_n C dX8_hear_43 (p := 0) (hi := rfl) (hv := rfl) ?_
        refine gc_g_X8_here C dX8_hear_44 wf_X8_65 ?_
        refine gc_g_X7_people C (by omega) dX8_hear_47 wf_X8_145 ?_
        refine g_icmp_ge C (tgt := 81) dX8_hear_50 (by decide) (by omega) (by omega) (fun h_3 => ?_) (fun h_3 => ?_)
        · have hiN : i = ((σ (σ 0 8) 2).toNat) := by omega
          refine g_aload_n C dX8_hear_81 (p := 0) (hi := rfl) (hv := rfl) ?_
          refine gc_g_X8_sayings C dX8_hear_82 wf_X8_40 ?_
          refine g_aload_n C dX8_hear_85 (p := 2) (hi := rfl) (hv := rfl) ?_
          refine gc_g_X5_items C (by omega) dX8_hear_86 wf_X8_107 ?_
          refine g_aload_n C dX8_hear_89 (p := 0) (hi := rfl) (hv := rfl) ?_
          refine gc_g_X8_here C dX8_hear_90 wf_X8_65 ?_
          refine gc_g_X7_people C (by omega) dX8_hear_93 wf_X8_145 ?_
          refine gc_callv_X6 C dX8_hear_96 (kX6_sayTold (σ := σ) (a := (44 + r) + 8) (n := σ (σ 0 8) 2) (self := 10) hap hE (by first | assumption | omega | exact hH | exact hr | exact hm | exact hl | exact h2 | exact hit) (by first | assumption | omega | exact hH | exact hr | exact hm | exact hl | exact h2 | exact hit) (by first | assumption | omega | exact hH | exact hr | exact hm | exact hl | exact h2 | exact hit)) mw_X6_sayTold wl_X8_283 (by decide) (by decide) (by omega) rfl rfl (by simp [Value.category]) ?_
          refine g_eq (σ' := (mr (mu σ 10 0 (σ (σ 0 8) 2)) (10 + 1) (cpy ((σ ((44 + r) + 8))) ((σ 11)) 0 0 (σ (σ 0 8) 2)))) rfl rfl rfl (by simp only [show σ (10 + 1) = (σ 11) from by funext x; first | rfl | (simp only [mu_app, mr_app, ru, over, and_self, ↓reduceIte]; (repeat (first | rw [if_neg (by omega)] | rw [if_pos (by omega)])))]) ?_
          refine g_aload_n C dX8_hear_99 (p := 0) (hi := rfl) (hv := rfl) ?_
          refine g_iconst C dX8_hear_100 ?_
          refine gc_call_X8 C dX8_hear_101 (kX8_fine (σ := (mr (mu σ 10 0 (σ (σ 0 8) 2)) (10 + 1) (cpy ((σ ((44 + r) + 8))) ((σ 11)) 0 0 (σ (σ 0 8) 2)))) (k := 0) hap hE) mw_X8_fine wl_X8_85 (by decide) (by decide) rfl rfl (by simp [Value.category]) ?_
          exact hret _ _ _ _ dX8_hear_104 (by (try subst hiN); first | (unfold hrR; (repeat' split) <;> first | (exfalso; omega) | rfl) | (have e9 := okC_stay (n := (σ (σ 0 8) 2).toNat) (f := σ (44 + r + 8)) (k := i + 1) (by simp only [okC]; (repeat' split) <;> first | omega | rfl) (by omega); unfold hrR; (repeat' split) <;> first | (exfalso; omega) | rfl) | (have e8 : okC (σ (44 + r + 8)) (σ (σ 0 8) 2).toNat = 1 := by rw [show (σ (σ 0 8) 2).toNat = i by omega]; exact hok; unfold hrR; (repeat' split) <;> first | (exfalso; omega) | rfl) | (have e8 := hok; unfold hrR; (repeat' split) <;> first | (exfalso; omega) | rfl)) (by (try subst hiN); first | (unfold hrM; (repeat' split) <;> first | (exfalso; omega) | rfl) | (have e9 := okC_stay (n := (σ (σ 0 8) 2).toNat) (f := σ (44 + r + 8)) (k := i + 1) (by simp only [okC]; (repeat' split) <;> first | omega | rfl) (by omega); unfold hrM; (repeat' split) <;> first | (exfalso; omega) | rfl) | (have e8 : okC (σ (44 + r + 8)) (σ (σ 0 8) 2).toNat = 1 := by rw [show (σ (σ 0 8) 2).toNat = i by omega]; exact hok; unfold hrM; (repeat' split) <;> first | (exfalso; omega) | rfl) | (have e8 := hok; unfold hrM; (repeat' split) <;> first | (exfalso; omega) | rfl))
        · refine g_aload_n C dX8_hear_53 (p := 2) (hi := rfl) (hv := rfl) ?_
          refine gc_g_X5_items C (by omega) dX8_hear_54 wf_X8_107 ?_
          refine g_iload_n C dX8_hear_57 (p := 3) (hi := rfl) (hv := rfl) ?_
          refine gc_l_items C (by omega) dX8_hear_58 (by omega) (by omega) ?_
          refine g_if_lt C (tgt := 72) dX8_hear_59 (by decide) (hit _) (fun h_4 => ?_) (fun h_4 => ?_)
          · refine g_ldc C (n := (-1000001)) wk_X8_76 (by decide +kernel) dX8_hear_72 ?_
            exact hret _ _ _ _ dX8_hear_74 (by (try subst hiN); first | (unfold hrR; (repeat' split) <;> first | (exfalso; omega) | rfl) | (have e9 := okC_stay (n := (σ (σ 0 8) 2).toNat) (f := σ (44 + r + 8)) (k := i + 1) (by simp only [okC]; (repeat' split) <;> first | omega | rfl) (by omega); unfold hrR; (repeat' split) <;> first | (exfalso; omega) | rfl) | (have e8 : okC (σ (44 + r + 8)) (σ (σ 0 8) 2).toNat = 1 := by rw [show (σ (σ 0 8) 2).toNat = i by omega]; exact hok; unfold hrR; (repeat' split) <;> first | (exfalso; omega) | rfl) | (have e8 := hok; unfold hrR; (repeat' split) <;> first | (exfalso; omega) | rfl)) (by (try subst hiN); first | (unfold hrM; (repeat' split) <;> first | (exfalso; omega) | rfl) | (have e9 := okC_stay (n := (σ (σ 0 8) 2).toNat) (f := σ (44 + r + 8)) (k := i + 1) (by simp only [okC]; (repeat' split) <;> first | omega | rfl) (by omega); unfold hrM; (repeat' split) <;> first | (exfalso; omega) | rfl) | (have e8 : okC (σ (44 + r + 8)) (σ (σ 0 8) 2).toNat = 1 := by rw [show (σ (σ 0 8) 2).toNat = i by omega]; exact hok; unfold hrM; (repeat' split) <;> first | (exfalso; omega) | rfl) | (have e8 := hok; unfold hrM; (repeat' split) <;> first | (exfalso; omega) | rfl))
          · refine g_aload_n C dX8_hear_62 (p := 2) (hi := rfl) (hv := rfl) ?_
            refine gc_g_X5_items C (by omega) dX8_hear_63 wf_X8_107 ?_
            refine g_iload_n C dX8_hear_66 (p := 3) (hi := rfl) (hv := rfl) ?_
            refine gc_l_items C (by omega) dX8_hear_67 (by omega) (by omega) ?_
            refine g_iconst C dX8_hear_68 ?_
            refine g_icmp_le C (tgt := 75) dX8_hear_69 (by decide) (hit _) (by omega) (fun h_5 => ?_) (fun h_5 => ?_)
            · refine g_iinc C hn dX8_hear_75 (p := 3) rfl rfl rfl ?_
              refine g_goto C (tgt := 42) dX8_hear_78 (by decide) ?_
              refine g_sub [1, 2, 3, 0] rfl ?_
              exact ihi (by omega) _ (by first | rfl | omega) (by simp only [okC]; rw [hok, if_neg (by decide), if_neg (by omega), if_neg (by omega)])
            · refine g_ldc C (n := (-1000001)) wk_X8_76 (by decide +kernel) dX8_hear_72 ?_
              exact hret _ _ _ _ dX8_hear_74 (by (try subst hiN); first | (unfold hrR; (repeat' split) <;> first | (exfalso; omega) | rfl) | (have e9 := okC_stay (n := (σ (σ 0 8) 2).toNat) (f := σ (44 + r + 8)) (k := i + 1) (by simp only [okC]; (repeat' split) <;> first | omega | rfl) (by omega); unfold hrR; (repeat' split) <;> first | (exfalso; omega) | rfl) | (have e8 : okC (σ (44 + r + 8)) (σ (σ 0 8) 2).toNat = 1 := by rw [show (σ (σ 0 8) 2).toNat = i by omega]; exact hok; unfold hrR; (repeat' split) <;> first | (exfalso; omega) | rfl) | (have e8 := hok; unfold hrR; (repeat' split) <;> first | (exfalso; omega) | rfl)) (by (try subst hiN); first | (unfold hrM; (repeat' split) <;> first | (exfalso; omega) | rfl) | (have e9 := okC_stay (n := (σ (σ 0 8) 2).toNat) (f := σ (44 + r + 8)) (k := i + 1) (by simp only [okC]; (repeat' split) <;> first | omega | rfl) (by omega); unfold hrM; (repeat' split) <;> first | (exfalso; omega) | rfl) | (have e8 : okC (σ (44 + r + 8)) (σ (σ 0 8) 2).toNat = 1 := by rw [show (σ (σ 0 8) 2).toNat = i by omega]; exact hok; unfold hrM; (repeat' split) <;> first | (exfalso; omega) | rfl) | (have e8 := hok; unfold hrM; (repeat' split) <;> first | (exfalso; omega) | rfl))
      refine g_sub [2, 3, 1, 0] rfl ?_
      exact L42 0 (Nat.zero_le _) _ (by first | rfl | omega | simp) (by first | rfl | omega | assumption)
    · refine g_aload_n C dX8_hear_34 (p := 1) (hi := rfl) (hv := rfl) ?_
      refine g_iconst C dX8_hear_35 ?_
      refine gc_call_X8 C dX8_hear_36 (kX8_found (σ := σ) (k := 2) hap hE) mw_X8_found wl_X8_77 (by decide) (by decide) rfl rfl (by simp [Value.category]) ?_
      exact hret _ _ _ _ dX8_hear_39 (by (try subst hiN); first | (unfold hrR; (repeat' split) <;> first | (exfalso; omega) | rfl) | (have e9 := okC_stay (n := (σ (σ 0 8) 2).toNat) (f := σ (44 + r + 8)) (k := i + 1) (by simp only [okC]; (repeat' split) <;> first | omega | rfl) (by omega); unfold hrR; (repeat' split) <;> first | (exfalso; omega) | rfl) | (have e8 : okC (σ (44 + r + 8)) (σ (σ 0 8) 2).toNat = 1 := by rw [show (σ (σ 0 8) 2).toNat = i by omega]; exact hok; unfold hrR; (repeat' split) <;> first | (exfalso; omega) | rfl) | (have e8 := hok; unfold hrR; (repeat' split) <;> first | (exfalso; omega) | rfl)) (by (try subst hiN); first | (unfold hrM; (repeat' split) <;> first | (exfalso; omega) | rfl) | (have e9 := okC_stay (n := (σ (σ 0 8) 2).toNat) (f := σ (44 + r + 8)) (k := i + 1) (by simp only [okC]; (repeat' split) <;> first | omega | rfl) (by omega); unfold hrM; (repeat' split) <;> first | (exfalso; omega) | rfl) | (have e8 : okC (σ (44 + r + 8)) (σ (σ 0 8) 2).toNat = 1 := by rw [show (σ (σ 0 8) 2).toNat = i by omega]; exact hok; unfold hrM; (repeat' split) <;> first | (exfalso; omega) | rfl) | (have e8 := hok; unfold hrM; (repeat' split) <;> first | (exfalso; omega) | rfl))
  · refine g_aload_n C dX8_hear_14 (p := 1) (hi := rfl) (hv := rfl) ?_
    refine g_iconst C dX8_hear_15 ?_
    refine gc_call_X8 C dX8_hear_16 (kX8_found (σ := σ) (k := 1) hap hE) mw_X8_found wl_X8_77 (by decide) (by decide) rfl rfl (by simp [Value.category]) ?_
    exact hret _ _ _ _ dX8_hear_19 (by (try subst hiN); first | (unfold hrR; (repeat' split) <;> first | (exfalso; omega) | rfl) | (have e9 := okC_stay (n := (σ (σ 0 8) 2).toNat) (f := σ (44 + r + 8)) (k := i + 1) (by simp only [okC]; (repeat' split) <;> first | omega | rfl) (by omega); unfold hrR; (repeat' split) <;> first | (exfalso; omega) | rfl) | (have e8 : okC (σ (44 + r + 8)) (σ (σ 0 8) 2).toNat = 1 := by rw [show (σ (σ 0 8) 2).toNat = i by omega]; exact hok; unfold hrR; (repeat' split) <;> first | (exfalso; omega) | rfl) | (have e8 := hok; unfold hrR; (repeat' split) <;> first | (exfalso; omega) | rfl)) (by (try subst hiN); first | (unfold hrM; (repeat' split) <;> first | (exfalso; omega) | rfl) | (have e9 := okC_stay (n := (σ (σ 0 8) 2).toNat) (f := σ (44 + r + 8)) (k := i + 1) (by simp only [okC]; (repeat' split) <;> first | omega | rfl) (by omega); unfold hrM; (repeat' split) <;> first | (exfalso; omega) | rfl) | (have e8 : okC (σ (44 + r + 8)) (σ (σ 0 8) 2).toNat = 1 := by rw [show (σ (σ 0 8) 2).toNat = i by omega]; exact hok; unfold hrM; (repeat' split) <;> first | (exfalso; omega) | rfl) | (have e8 := hok; unfold hrM; (repeat' split) <;> first | (exfalso; omega) | rfl))

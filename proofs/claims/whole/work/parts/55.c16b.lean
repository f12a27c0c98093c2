set_option maxHeartbeats 4000000 in
set_option maxRecDepth 100000 in
theorem kX8_ask {l : Launch} {K : Nat → ClassId} {D : va_G} {ad : Int → Nat} {E : gEnv} {σ : Mem} {p what : Int} {P : cP} (hap : Apart ad 60) (hE : gEok E) (hcE : ∀ (A : Nat → Prop) (U : State) (H : Heap), E A U H → cE P A U H) (hH : 20 ≤ σ 0 8 ∧ σ 0 8 < 24) (hT : TC σ (σ 0 8)) (hho : ∀ t, R3 (σ (σ 0 8 + 16) t)) (rp : R3 p) (rw : R3 what) : CtI l K D ad 60 (cfC ad K) E yX8_ask cX8_ask 3 (some .int) 8 [.ref (ad 0), .int (iI p), .int (iI what)] σ (if (0 ≤ p ∧ p < σ (σ 0 8) 2) ∧ (what = 0 ∨ what = 1) then akV σ (σ 0 8) p what else -1000001) (if (0 ≤ p ∧ p < σ (σ 0 8) 2) ∧ (what = 0 ∨ what = 1) then akM σ (σ 0 8) p what else σ) := by
  have h2 : 0 ≤ σ (σ 0 8) 2 ∧ σ (σ 0 8) 2 ≤ 4 := hT.2.2.1
  have h3 : 0 ≤ σ (σ 0 8) 3 ∧ σ (σ 0 8) 3 ≤ 5 := hT.2.2.2.1
  have h5 := hT.2.2.2.2.1 p
  refine ctI_of hap hE (by decide) rfl .int (nar_i _) (fun M C hn hret => ?_)
  have C : Good l K D ad 60 E 8 cX8_ask RX8 M := C
  have hcS := hcE _ _ _ (gd_E C)
  show G M ad 60 (cfC ad K) 0 [(0, .ref (ad 0)), (1, .int (iI p)), (2, .int (iI what))] [] σ
  refine g_aload_n C dX8_ask_0 (p := 0) (hi := rfl) (hv := rfl) ?_
  refine g_iload_n C dX8_ask_1 (p := 1) (hi := rfl) (hv := rfl) ?_
  by_cases hb_1 : 0 ≤ p ∧ p < σ (σ 0 8) 2
  · refine gc_call_X8 C dX8_ask_2 (kX8_isPerson_y (σ := σ) (r := p) hap hE (by first | assumption | omega | exact hH | exact hT | exact hho | exact rp | exact rw | exact fun t _ _ => hho t | exact h5 (by omega) (by omega)) (by first | assumption | omega | exact hH | exact hT | exact hho | exact rp | exact rw | exact fun t _ _ => hho t | exact h5 (by omega) (by omega)) (by first | assumption | omega | exact hH | exact hT | exact hho | exact rp | exact rw | exact fun t _ _ => hho t | exact h5 (by omega) (by omega)) (by first | assumption | omega | exact hH | exact hT | exact hho | exact rp | exact rw | exact fun t _ _ => hho t | exact h5 (by omega) (by omega))) mw_X8_isPerson wl_X8_179 (by decide) (by decide) rfl rfl (by simp [Value.category]) ?_
    refine g_if_eq C (tgt := 15) dX8_ask_5 (by decide) (by omega) (fun h_2 => ?_) (fun h_2 => ?_)
    · exact absurd h_2 (by decide)
    · refine g_iload_n C dX8_ask_8 (p := 2) (hi := rfl) (hv := rfl) ?_
      by_cases hb_3 : what = 0 ∨ what = 1
      · refine g_callS C dX8_ask_9 (kX8_isEither_y (σ := σ) (r := what) hap hE (by first | assumption | omega | exact hH | exact hT | exact hho | exact rp | exact rw | exact fun t _ _ => hho t | exact h5 (by omega) (by omega)) (by first | assumption | omega | exact hH | exact hT | exact hho | exact rp | exact rw | exact fun t _ _ => hho t | exact h5 (by omega) (by omega))) mw_X8_isEither wl_X8_185 (by decide) (by decide) rfl rfl (by simp [Value.category]) ?_
        refine g_if_ne C (tgt := 18) dX8_ask_12 (by decide) (by omega) (fun h_4 => ?_) (fun h_4 => ?_)
        · refine g_aload_n C dX8_ask_18 (p := 0) (hi := rfl) (hv := rfl) ?_
          refine gc_g_X8_asking C dX8_ask_19 wf_X8_61 ?_
          refine g_aload_n C dX8_ask_22 (p := 0) (hi := rfl) (hv := rfl) ?_
          refine gc_g_X8_here C dX8_ask_23 wf_X8_65 ?_
          refine g_iload_n C dX8_ask_26 (p := 1) (hi := rfl) (hv := rfl) ?_
          refine g_iload_n C dX8_ask_27 (p := 2) (hi := rfl) (hv := rfl) ?_
          refine gc_call_X1 C dX8_ask_28 (kX1_answer (σ := σ) (a := σ 0 8) (p := p) (w := what) (P := P) hap hE (by first | assumption | omega | exact hH | exact hT | exact hho | exact rp | exact rw | exact fun t _ _ => hho t | exact h5 (by omega) (by omega)) (by first | assumption | omega | exact hH | exact hT | exact hho | exact rp | exact rw | exact fun t _ _ => hho t | exact h5 (by omega) (by omega)) (by first | assumption | omega | exact hH | exact hT | exact hho | exact rp | exact rw | exact fun t _ _ => hho t | exact h5 (by omega) (by omega)) (by first | assumption | omega | exact hH | exact hT | exact hho | exact rp | exact rw | exact fun t _ _ => hho t | exact h5 (by omega) (by omega)) (by first | assumption | omega | exact hH | exact hT | exact hho | exact rp | exact rw | exact fun t _ _ => hho t | exact h5 (by omega) (by omega)) (by first | assumption | omega | exact hH | exact hT | exact hho | exact rp | exact rw | exact fun t _ _ => hho t | exact h5 (by omega) (by omega)) (by first | assumption | omega | exact hH | exact hT | exact hho | exact rp | exact rw | exact fun t _ _ => hho t | exact h5 (by omega) (by omega))) mw_X1_answer wl_X8_256 (by decide) (by decide) rfl rfl (by simp [Value.category]) ?_
          exact hret _ _ _ _ dX8_ask_31 (by first | ((repeat (first | (with_reducible refine pI ?_ ?_; focus (first | assumption | omega)) | (with_reducible refine nIt ?_ ?_; focus (first | assumption | omega)))); first | rfl | omega) | ((repeat' split) <;> first | (exfalso; omega) | contradiction | rfl | omega)) (by first | ((repeat (first | (with_reducible refine pI ?_ ?_; focus (first | assumption | omega)) | (with_reducible refine nIt ?_ ?_; focus (first | assumption | omega)))); first | rfl | omega) | ((repeat' split) <;> first | (exfalso; omega) | contradiction | rfl | omega))
        · exact absurd h_4 (by decide)
      · refine g_callS C dX8_ask_9 (kX8_isEither_n (σ := σ) (r := what) hap hE (by first | assumption | omega | exact hH | exact hT | exact hho | exact rp | exact rw | exact fun t _ _ => hho t | exact h5 (by omega) (by omega)) (by first | assumption | omega | exact hH | exact hT | exact hho | exact rp | exact rw | exact fun t _ _ => hho t | exact h5 (by omega) (by omega))) mw_X8_isEither wl_X8_185 (by decide) (by decide) rfl rfl (by simp [Value.category]) ?_
        refine g_if_ne C (tgt := 18) dX8_ask_12 (by decide) (by omega) (fun h_5 => ?_) (fun h_5 => ?_)
        · exact absurd h_5 (by decide)
        · refine g_ldc C (n := (-1000001)) wk_X8_76 (by decide +kernel) dX8_ask_15 ?_
          exact hret _ _ _ _ dX8_ask_17 (by first | ((repeat (first | (with_reducible refine pI ?_ ?_; focus (first | assumption | omega)) | (with_reducible refine nIt ?_ ?_; focus (first | assumption | omega)))); first | rfl | omega) | ((repeat' split) <;> first | (exfalso; omega) | contradiction | rfl | omega)) (by first | ((repeat (first | (with_reducible refine pI ?_ ?_; focus (first | assumption | omega)) | (with_reducible refine nIt ?_ ?_; focus (first | assumption | omega)))); first | rfl | omega) | ((repeat' split) <;> first | (exfalso; omega) | contradiction | rfl | omega))
  · refine gc_call_X8 C dX8_ask_2 (kX8_isPerson_n (σ := σ) (r := p) hap hE (by first | assumption | omega | exact hH | exact hT | exact hho | exact rp | exact rw | exact fun t _ _ => hho t | exact h5 (by omega) (by omega)) (by first | assumption | omega | exact hH | exact hT | exact hho | exact rp | exact rw | exact fun t _ _ => hho t | exact h5 (by omega) (by omega)) (by first | assumption | omega | exact hH | exact hT | exact hho | exact rp | exact rw | exact fun t _ _ => hho t | exact h5 (by omega) (by omega)) (by first | assumption | omega | exact hH | exact hT | exact hho | exact rp | exact rw | exact fun t _ _ => hho t | exact h5 (by omega) (by omega))) mw_X8_isPerson wl_X8_179 (by decide) (by decide) rfl rfl (by simp [Value.category]) ?_
    refine g_if_eq C (tgt := 15) dX8_ask_5 (by decide) (by omega) (fun h_6 => ?_) (fun h_6 => ?_)
    · refine g_ldc C (n := (-1000001)) wk_X8_76 (by decide +kernel) dX8_ask_15 ?_
      exact hret _ _ _ _ dX8_ask_17 (by first | ((repeat (first | (with_reducible refine pI ?_ ?_; focus (first | assumption | omega)) | (with_reducible refine nIt ?_ ?_; focus (first | assumption | omega)))); first | rfl | omega) | ((repeat' split) <;> first | (exfalso; omega) | contradiction | rfl | omega)) (by first | ((repeat (first | (with_reducible refine pI ?_ ?_; focus (first | assumption | omega)) | (with_reducible refine nIt ?_ ?_; focus (first | assumption | omega)))); first | rfl | omega) | ((repeat' split) <;> first | (exfalso; omega) | contradiction | rfl | omega))
    · exact absurd h_6 (by decide)
set_option maxHeartbeats 4000000 in
set_option maxRecDepth 100000 in
theorem kX8_as {l : Launch} {K : Nat → ClassId} {D : va_G} {ad : Int → Nat} {E : gEnv} {σ : Mem} {p k : Int} {P : cP} (hap : Apart ad 60) (hE : gEok E) (hcE : ∀ (A : Nat → Prop) (U : State) (H : Heap), E A U H → cE P A U H) (hH : 20 ≤ σ 0 8 ∧ σ 0 8 < 24) (hT : TC σ (σ 0 8)) (rp : R3 p) (rk : R3 k) : CtI l K D ad 60 (cfC ad K) E yX8_as cX8_as 3 (some .int) 2 [.ref (ad 0), .int (iI p), .int (iI k)] σ (if (0 ≤ p ∧ p < σ (σ 0 8) 2) ∧ (0 ≤ k ∧ k < 6) then (if anF (σ (σ 0 8 + 4) p) k 6 = k then p else -1000013) else -1000001) (if (0 ≤ p ∧ p < σ (σ 0 8) 2) ∧ (0 ≤ k ∧ k < 6) then (if anF (σ (σ 0 8 + 4) p) k 6 = k then mu σ 0 11 0 else mu σ 0 11 3) else σ) := by
  have h2 : 0 ≤ σ (σ 0 8) 2 ∧ σ (σ 0 8) 2 ≤ 4 := hT.2.2.1
  have h3 : 0 ≤ σ (σ 0 8) 3 ∧ σ (σ 0 8) 3 ≤ 5 := hT.2.2.2.1
  have h5 := hT.2.2.2.2.1 p
  refine ctI_of hap hE (by decide) rfl .int (nar_i _) (fun M C hn hret => ?_)
  have C : Good l K D ad 60 E 2 cX8_as RX8 M := C
  have hcS := hcE _ _ _ (gd_E C)
  show G M ad 60 (cfC ad K) 0 [(0, .ref (ad 0)), (1, .int (iI p)), (2, .int (iI k))] [] σ
  refine g_aload_n C dX8_as_0 (p := 0) (hi := rfl) (hv := rfl) ?_
  refine g_iload_n C dX8_as_1 (p := 1) (hi := rfl) (hv := rfl) ?_
  by_cases hb_1 : 0 ≤ p ∧ p < σ (σ 0 8) 2
  · refine gc_call_X8 C dX8_as_2 (kX8_isPerson_y (σ := σ) (r := p) hap hE (by first | assumption | omega | exact hH | exact hT | exact rp | exact rk | exact h5 (by omega) (by omega)) (by first | assumption | omega | exact hH | exact hT | exact rp | exact rk | exact h5 (by omega) (by omega)) (by first | assumption | omega | exact hH | exact hT | exact rp | exact rk | exact h5 (by omega) (by omega)) (by first | assumption | omega | exact hH | exact hT | exact rp | exact rk | exact h5 (by omega) (by omega))) mw_X8_isPerson wl_X8_179 (by decide) (by decide) rfl rfl (by simp [Value.category]) ?_
    refine g_if_eq C (tgt := 18) dX8_as_5 (by decide) (by omega) (fun h_2 => ?_) (fun h_2 => ?_)
    · exact absurd h_2 (by decide)
    · refine g_iload_n C dX8_as_8 (p := 2) (hi := rfl) (hv := rfl) ?_
      refine g_if_lt C (tgt := 18) dX8_as_9 (by decide) (by omega) (fun h_3 => ?_) (fun h_3 => ?_)
      · refine g_ldc C (n := (-1000001)) wk_X8_76 (by decide +kernel) dX8_as_18 ?_
        exact hret _ _ _ _ dX8_as_20 (by first | ((repeat (first | (with_reducible refine pI ?_ ?_; focus (first | assumption | omega)) | (with_reducible refine nIt ?_ ?_; focus (first | assumption | omega)))); first | rfl | omega) | ((repeat' split) <;> first | (exfalso; omega) | contradiction | rfl | omega)) (by first | ((repeat (first | (with_reducible refine pI ?_ ?_; focus (first | assumption | omega)) | (with_reducible refine nIt ?_ ?_; focus (first | assumption | omega)))); first | rfl | omega) | ((repeat' split) <;> first | (exfalso; omega) | contradiction | rfl | omega))
      · refine g_iload_n C dX8_as_12 (p := 2) (hi := rfl) (hv := rfl) ?_
        refine (g_bipush C dX8_as_13 (by decide)) ?_
        refine g_icmp_lt C (tgt := 21) dX8_as_15 (by decide) (by omega) (by omega) (fun h_4 => ?_) (fun h_4 => ?_)
        · refine g_aload_n C dX8_as_21 (p := 0) (hi := rfl) (hv := rfl) ?_
          refine gc_g_X8_here C dX8_as_22 wf_X8_65 ?_
          refine gc_g_X7_kinds C (by omega) dX8_as_25 wf_X8_250 ?_
          refine g_iload_n C dX8_as_28 (p := 1) (hi := rfl) (hv := rfl) ?_
          refine gc_l_kinds C (by omega) dX8_as_29 (by omega) (by omega) ?_
          refine g_iload_n C dX8_as_30 (p := 2) (hi := rfl) (hv := rfl) ?_
          by_cases hb_5 : anF (σ ((σ 0 8) + 4) p) k 6 = k
          · refine g_callS C dX8_as_31 (kX1_isOne_y (σ := σ) (k := σ ((σ 0 8) + 4) p) (w := k) (P := P) hap hE (by first | assumption | omega | exact hH | exact hT | exact rp | exact rk | exact h5 (by omega) (by omega)) (by first | assumption | omega | exact hH | exact hT | exact rp | exact rk | exact h5 (by omega) (by omega)) (by first | assumption | omega | exact hH | exact hT | exact rp | exact rk | exact h5 (by omega) (by omega)) (by first | assumption | omega | exact hH | exact hT | exact rp | exact rk | exact h5 (by omega) (by omega))) mw_X1_isOne wl_X8_253 (by decide) (by decide) rfl rfl (by simp [Value.category]) ?_
            refine g_if_eq C (tgt := 45) dX8_as_34 (by decide) (by omega) (fun h_6 => ?_) (fun h_6 => ?_)
            · exact absurd h_6 (by decide)
            · refine g_aload_n C dX8_as_37 (p := 0) (hi := rfl) (hv := rfl) ?_
              refine g_iload_n C dX8_as_38 (p := 1) (hi := rfl) (hv := rfl) ?_
              refine gc_call_X8 C dX8_as_39 (kX8_fine (σ := σ) (k := p) hap hE) mw_X8_fine wl_X8_85 (by decide) (by decide) rfl rfl (by simp [Value.category]) ?_
              refine g_goto C (tgt := 50) dX8_as_42 (by decide) ?_
              exact hret _ _ _ _ dX8_as_50 (by first | ((repeat (first | (with_reducible refine pI ?_ ?_; focus (first | assumption | omega)) | (with_reducible refine nIt ?_ ?_; focus (first | assumption | omega)))); first | rfl | omega) | ((repeat' split) <;> first | (exfalso; omega) | contradiction | rfl | omega)) (by first | ((repeat (first | (with_reducible refine pI ?_ ?_; focus (first | assumption | omega)) | (with_reducible refine nIt ?_ ?_; focus (first | assumption | omega)))); first | rfl | omega) | ((repeat' split) <;> first | (exfalso; omega) | contradiction | rfl | omega))
          · refine g_callS C dX8_as_31 (kX1_isOne_n (σ := σ) (k := σ ((σ 0 8) + 4) p) (w := k) (P := P) hap hE (by first | assumption | omega | exact hH | exact hT | exact rp | exact rk | exact h5 (by omega) (by omega)) (by first | assumption | omega | exact hH | exact hT | exact rp | exact rk | exact h5 (by omega) (by omega)) (by first | assumption | omega | exact hH | exact hT | exact rp | exact rk | exact h5 (by omega) (by omega)) (by first | assumption | omega | exact hH | exact hT | exact rp | exact rk | exact h5 (by omega) (by omega))) mw_X1_isOne wl_X8_253 (by decide) (by decide) rfl rfl (by simp [Value.category]) ?_
            refine g_if_eq C (tgt := 45) dX8_as_34 (by decide) (by omega) (fun h_7 => ?_) (fun h_7 => ?_)
            · refine g_aload_n C dX8_as_45 (p := 0) (hi := rfl) (hv := rfl) ?_
              refine g_iconst C dX8_as_46 ?_
              refine gc_call_X8 C dX8_as_47 (kX8_found (σ := σ) (k := 3) hap hE) mw_X8_found wl_X8_77 (by decide) (by decide) rfl rfl (by simp [Value.category]) ?_
              exact hret _ _ _ _ dX8_as_50 (by first | ((repeat (first | (with_reducible refine pI ?_ ?_; focus (first | assumption | omega)) | (with_reducible refine nIt ?_ ?_; focus (first | assumption | omega)))); first | rfl | omega) | ((repeat' split) <;> first | (exfalso; omega) | contradiction | rfl | omega)) (by first | ((repeat (first | (with_reducible refine pI ?_ ?_; focus (first | assumption | omega)) | (with_reducible refine nIt ?_ ?_; focus (first | assumption | omega)))); first | rfl | omega) | ((repeat' split) <;> first | (exfalso; omega) | contradiction | rfl | omega))
            · exact absurd h_7 (by decide)
        · refine g_ldc C (n := (-1000001)) wk_X8_76 (by decide +kernel) dX8_as_18 ?_
          exact hret _ _ _ _ dX8_as_20 (by first | ((repeat (first | (with_reducible refine pI ?_ ?_; focus (first | assumption | omega)) | (with_reducible refine nIt ?_ ?_; focus (first | assumption | omega)))); first | rfl | omega) | ((repeat' split) <;> first | (exfalso; omega) | contradiction | rfl | omega)) (by first | ((repeat (first | (with_reducible refine pI ?_ ?_; focus (first | assumption | omega)) | (with_reducible refine nIt ?_ ?_; focus (first | assumption | omega)))); first | rfl | omega) | ((repeat' split) <;> first | (exfalso; omega) | contradiction | rfl | omega))
  · refine gc_call_X8 C dX8_as_2 (kX8_isPerson_n (σ := σ) (r := p) hap hE (by first | assumption | omega | exact hH | exact hT | exact rp | exact rk | exact h5 (by omega) (by omega)) (by first | assumption | omega | exact hH | exact hT | exact rp | exact rk | exact h5 (by omega) (by omega)) (by first | assumption | omega | exact hH | exact hT | exact rp | exact rk | exact h5 (by omega) (by omega)) (by first | assumption | omega | exact hH | exact hT | exact rp | exact rk | exact h5 (by omega) (by omega))) mw_X8_isPerson wl_X8_179 (by decide) (by decide) rfl rfl (by simp [Value.category]) ?_
    refine g_if_eq C (tgt := 18) dX8_as_5 (by decide) (by omega) (fun h_8 => ?_) (fun h_8 => ?_)
    · refine g_ldc C (n := (-1000001)) wk_X8_76 (by decide +kernel) dX8_as_18 ?_
      exact hret _ _ _ _ dX8_as_20 (by first | ((repeat (first | (with_reducible refine pI ?_ ?_; focus (first | assumption | omega)) | (with_reducible refine nIt ?_ ?_; focus (first | assumption | omega)))); first | rfl | omega) | ((repeat' split) <;> first | (exfalso; omega) | contradiction | rfl | omega)) (by first | ((repeat (first | (with_reducible refine pI ?_ ?_; focus (first | assumption | omega)) | (with_reducible refine nIt ?_ ?_; focus (first | assumption | omega)))); first | rfl | omega) | ((repeat' split) <;> first | (exfalso; omega) | contradiction | rfl | omega))
    · exact absurd h_8 (by decide)

set_option maxHeartbeats 4000000 in
set_option maxRecDepth 100000 in
theorem kX8_count {l : Launch} {K : Nat → ClassId} {D : va_G} {ad : Int → Nat} {E : gEnv} {σ : Mem} {what : Int} (hap : Apart ad 60) (hE : gEok E) (hH : 20 ≤ σ 0 8 ∧ σ 0 8 < 24) (hT : TC σ (σ 0 8)) (hrw : ∀ r, 0 ≤ r → r < 8 → (0 ≤ σ (44 + r) 1 ∧ σ (44 + r) 1 ≤ 1) ∧ (0 ≤ σ (44 + r) 2 ∧ σ (44 + r) 2 ≤ 2) ∧ (0 ≤ σ (44 + r) 3 ∧ σ (44 + r) 3 ≤ 40)) (hho : ∀ t, R3 (σ (σ 0 8 + 16) t)) (rw : R3 what) : CtI l K D ad 60 (cfC ad K) E yX8_count cX8_count 2 (some .int) 2 [.ref (ad 0), .int (iI what)] σ (if what = 0 then crC σ 8 else if what = 1 then σ (σ 0 8) 2 else if what = 2 then σ (σ 0 8) 3 else if what = 3 then chC (σ (σ 0 8 + 16)) (σ (σ 0 8) 3).toNat else if what = 4 then σ 5 0 else if what = 5 then σ (σ 0 8) 0 else if what = 6 then σ (σ 0 8) 1 else if what = 7 then σ 3 1 else -1000001) σ := by
  have h2 : 0 ≤ σ (σ 0 8) 2 ∧ σ (σ 0 8) 2 ≤ 4 := hT.2.2.1
  have h3 : 0 ≤ σ (σ 0 8) 3 ∧ σ (σ 0 8) 3 ≤ 5 := hT.2.2.2.1
  refine ctI_of hap hE (by decide) rfl .int (nar_i _) (fun M C hn hret => ?_)
  have C : Good l K D ad 60 E 2 cX8_count RX8 M := C
  show G M ad 60 (cfC ad K) 0 [(0, .ref (ad 0)), (1, .int (iI what))] [] σ
  refine g_iload_n C dX8_count_0 (p := 1) (hi := rfl) (hv := rfl) ?_
  rcases (show what = 0 ∨ what = 1 ∨ what = 2 ∨ what = 3 ∨ what = 4 ∨ what = 5 ∨ what = 6 ∨ what = 7 ∨ (what < 0 ∨ 7 < what) from by omega) with h_1 | h_1 | h_1 | h_1 | h_1 | h_1 | h_1 | h_1 | h_1
  · refine g_swIn C 0 (tgt := 48) dX8_count_1 (by omega) h_1 (by decide) (by decide) rfl (by decide) ?_
    refine g_aload_n C dX8_count_48 (p := 0) (hi := rfl) (hv := rfl) ?_
    refine gc_call_X8 C dX8_count_49 (kX8_countRows (σ := σ) hap hE (by first | assumption | omega | exact hH | exact hT | exact hrw | exact hho | exact rw | exact fun t _ _ => hho t | (intro q q0 q1; have := hrw q q0 q1; constructor <;> omega))) mw_X8_countRows wl_X8_266 (by decide) (by decide) rfl rfl (by simp [Value.category]) ?_
    exact hret _ _ _ _ dX8_count_52 (by subst_vars; first | rfl | ((repeat' split) <;> first | (exfalso; omega) | rfl)) (by first | ((repeat (first | (with_reducible refine pI ?_ ?_; focus (first | assumption | omega)) | (with_reducible refine nIt ?_ ?_; focus (first | assumption | omega)))); first | rfl | omega) | ((repeat' split) <;> first | (exfalso; omega) | contradiction | rfl | omega))
  · refine g_swIn C 1 (tgt := 53) dX8_count_1 (by omega) h_1 (by decide) (by decide) rfl (by decide) ?_
    refine g_aload_n C dX8_count_53 (p := 0) (hi := rfl) (hv := rfl) ?_
    refine gc_g_X8_here C dX8_count_54 wf_X8_65 ?_
    refine gc_g_X7_people C (by omega) dX8_count_57 wf_X8_145 ?_
    exact hret _ _ _ _ dX8_count_60 (by subst_vars; first | rfl | ((repeat' split) <;> first | (exfalso; omega) | rfl)) (by first | ((repeat (first | (with_reducible refine pI ?_ ?_; focus (first | assumption | omega)) | (with_reducible refine nIt ?_ ?_; focus (first | assumption | omega)))); first | rfl | omega) | ((repeat' split) <;> first | (exfalso; omega) | contradiction | rfl | omega))
  · refine g_swIn C 2 (tgt := 61) dX8_count_1 (by omega) h_1 (by decide) (by decide) rfl (by decide) ?_
    refine g_aload_n C dX8_count_61 (p := 0) (hi := rfl) (hv := rfl) ?_
    refine gc_g_X8_here C dX8_count_62 wf_X8_65 ?_
    refine gc_g_X7_things C (by omega) dX8_count_65 wf_X8_269 ?_
    exact hret _ _ _ _ dX8_count_68 (by subst_vars; first | rfl | ((repeat' split) <;> first | (exfalso; omega) | rfl)) (by first | ((repeat (first | (with_reducible refine pI ?_ ?_; focus (first | assumption | omega)) | (with_reducible refine nIt ?_ ?_; focus (first | assumption | omega)))); first | rfl | omega) | ((repeat' split) <;> first | (exfalso; omega) | contradiction | rfl | omega))
  · refine g_swIn C 3 (tgt := 69) dX8_count_1 (by omega) h_1 (by decide) (by decide) rfl (by decide) ?_
    refine g_aload_n C dX8_count_69 (p := 0) (hi := rfl) (hv := rfl) ?_
    refine gc_g_X8_here C dX8_count_70 wf_X8_65 ?_
    refine gc_call_X7 C dX8_count_73 (kX7_countHeld (σ := σ) (self := σ 0 8) hap hE (by first | assumption | omega | exact hH | exact hT | exact hrw | exact hho | exact rw | exact fun t _ _ => hho t | (intro q q0 q1; have := hrw q q0 q1; constructor <;> omega)) (by first | assumption | omega | exact hH | exact hT | exact hrw | exact hho | exact rw | exact fun t _ _ => hho t | (intro q q0 q1; have := hrw q q0 q1; constructor <;> omega)) (by first | assumption | omega | exact hH | exact hT | exact hrw | exact hho | exact rw | exact fun t _ _ => hho t | (intro q q0 q1; have := hrw q q0 q1; constructor <;> omega))) mw_X7_countHeld wl_X8_272 (by decide) (by decide) (by omega) rfl rfl (by simp [Value.category]) ?_
    refine g_cI (b := (chC ((σ ((σ 0 8) + 16))) (σ (σ 0 8) 3).toNat)) rfl ?_
    exact hret _ _ _ _ dX8_count_76 (by subst_vars; first | rfl | ((repeat' split) <;> first | (exfalso; omega) | rfl)) (by first | ((repeat (first | (with_reducible refine pI ?_ ?_; focus (first | assumption | omega)) | (with_reducible refine nIt ?_ ?_; focus (first | assumption | omega)))); first | rfl | omega) | ((repeat' split) <;> first | (exfalso; omega) | contradiction | rfl | omega))
  · refine g_swIn C 4 (tgt := 77) dX8_count_1 (by omega) h_1 (by decide) (by decide) rfl (by decide) ?_
    refine g_aload_n C dX8_count_77 (p := 0) (hi := rfl) (hv := rfl) ?_
    refine gc_g_X8_acts C dX8_count_78 wf_X8_33 ?_
    refine gc_g_X0_many C dX8_count_81 wf_X8_142 ?_
    exact hret _ _ _ _ dX8_count_84 (by subst_vars; first | rfl | ((repeat' split) <;> first | (exfalso; omega) | rfl)) (by first | ((repeat (first | (with_reducible refine pI ?_ ?_; focus (first | assumption | omega)) | (with_reducible refine nIt ?_ ?_; focus (first | assumption | omega)))); first | rfl | omega) | ((repeat' split) <;> first | (exfalso; omega) | contradiction | rfl | omega))
  · refine g_swIn C 5 (tgt := 85) dX8_count_1 (by omega) h_1 (by decide) (by decide) rfl (by decide) ?_
    refine g_aload_n C dX8_count_85 (p := 0) (hi := rfl) (hv := rfl) ?_
    refine gc_g_X8_here C dX8_count_86 wf_X8_65 ?_
    refine gc_g_X7_pays C (by omega) dX8_count_89 wf_X8_194 ?_
    exact hret _ _ _ _ dX8_count_92 (by subst_vars; first | rfl | ((repeat' split) <;> first | (exfalso; omega) | rfl)) (by first | ((repeat (first | (with_reducible refine pI ?_ ?_; focus (first | assumption | omega)) | (with_reducible refine nIt ?_ ?_; focus (first | assumption | omega)))); first | rfl | omega) | ((repeat' split) <;> first | (exfalso; omega) | contradiction | rfl | omega))
  · refine g_swIn C 6 (tgt := 93) dX8_count_1 (by omega) h_1 (by decide) (by decide) rfl (by decide) ?_
    refine g_aload_n C dX8_count_93 (p := 0) (hi := rfl) (hv := rfl) ?_
    refine gc_g_X8_here C dX8_count_94 wf_X8_65 ?_
    refine gc_g_X7_fee C (by omega) dX8_count_97 wf_X8_275 ?_
    exact hret _ _ _ _ dX8_count_100 (by subst_vars; first | rfl | ((repeat' split) <;> first | (exfalso; omega) | rfl)) (by first | ((repeat (first | (with_reducible refine pI ?_ ?_; focus (first | assumption | omega)) | (with_reducible refine nIt ?_ ?_; focus (first | assumption | omega)))); first | rfl | omega) | ((repeat' split) <;> first | (exfalso; omega) | contradiction | rfl | omega))
  · refine g_swIn C 7 (tgt := 101) dX8_count_1 (by omega) h_1 (by decide) (by decide) rfl (by decide) ?_
    refine g_aload_n C dX8_count_101 (p := 0) (hi := rfl) (hv := rfl) ?_
    refine gc_g_X8_reader C dX8_count_102 wf_X8_26 ?_
    refine gc_g_X4_fed C dX8_count_105 wf_X8_125 ?_
    exact hret _ _ _ _ dX8_count_108 (by subst_vars; first | rfl | ((repeat' split) <;> first | (exfalso; omega) | rfl)) (by first | ((repeat (first | (with_reducible refine pI ?_ ?_; focus (first | assumption | omega)) | (with_reducible refine nIt ?_ ?_; focus (first | assumption | omega)))); first | rfl | omega) | ((repeat' split) <;> first | (exfalso; omega) | contradiction | rfl | omega))
  · refine g_swOut C (tgt := 109) dX8_count_1 (by omega) h_1 (by decide) ?_
    refine g_ldc C (n := (-1000001)) wk_X8_76 (by decide +kernel) dX8_count_109 ?_
    exact hret _ _ _ _ dX8_count_111 (by subst_vars; first | rfl | ((repeat' split) <;> first | (exfalso; omega) | rfl)) (by first | ((repeat (first | (with_reducible refine pI ?_ ?_; focus (first | assumption | omega)) | (with_reducible refine nIt ?_ ?_; focus (first | assumption | omega)))); first | rfl | omega) | ((repeat' split) <;> first | (exfalso; omega) | contradiction | rfl | omega))

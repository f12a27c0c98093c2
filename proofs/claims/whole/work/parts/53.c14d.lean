set_option maxHeartbeats 4000000 in
set_option maxRecDepth 100000 in
theorem kX8_feed {l : Launch} {K : Nat → ClassId} {D : va_G} {ad : Int → Nat} {E : gEnv} {σ : Mem} {w n : Int} (hap : Apart ad 60) (hE : gEok E) (h31 : 0 ≤ σ 3 1 ∧ σ 3 1 ≤ 400) (rn : R3 n) : CtI l K D ad 60 (cfC ad K) E yX8_feed cX8_feed 4 (some .int) 1 [.ref (ad 0), .long (lI w), .int (iI n)] σ (if n < 1 ∨ 8 < n then -1000001 else if σ 3 1 + n ≤ 400 then σ 3 1 + n else -1000003) (if n < 1 ∨ 8 < n then σ else if σ 3 1 + n ≤ 400 then (mu (mr σ 4 (over (σ 4) (fun k => bytC w (n - 1 - (k - σ 3 1))) (σ 3 1) (σ 3 1 + n))) 3 1 (σ 3 1 + n)) else σ) := by
  refine ctI_of hap hE (by decide) rfl .int (nar_i _) (fun M C hn hret => ?_)
  have C : Good l K D ad 60 E 1 cX8_feed RX8 M := C
  show G M ad 60 (cfC ad K) 0 [(0, .ref (ad 0)), (1, .long (lI w)), (3, .int (iI n))] [] σ
  refine g_iload_n C dX8_feed_0 (p := 2) (hi := rfl) (hv := rfl) ?_
  refine g_iconst C dX8_feed_1 ?_
  refine g_icmp_lt C (tgt := 11) dX8_feed_2 (by decide) (by omega) (by omega) (fun h_1 => ?_) (fun h_1 => ?_)
  · refine g_ldc C (n := (-1000001)) wk_X8_76 (by decide +kernel) dX8_feed_11 ?_
    exact hret _ _ _ _ dX8_feed_13 (by first | ((repeat (first | (with_reducible refine pI ?_ ?_; focus (first | assumption | omega)) | (with_reducible refine nIt ?_ ?_; focus (first | assumption | omega)))); first | rfl | omega) | ((repeat' split) <;> first | (exfalso; omega) | contradiction | rfl | omega)) (by first | ((repeat (first | (with_reducible refine pI ?_ ?_; focus (first | assumption | omega)) | (with_reducible refine nIt ?_ ?_; focus (first | assumption | omega)))); first | rfl | omega) | ((repeat' split) <;> first | (exfalso; omega) | contradiction | rfl | omega))
  · refine g_iload_n C dX8_feed_5 (p := 2) (hi := rfl) (hv := rfl) ?_
    refine (g_bipush C dX8_feed_6 (by decide)) ?_
    refine g_icmp_le C (tgt := 14) dX8_feed_8 (by decide) (by omega) (by omega) (fun h_2 => ?_) (fun h_2 => ?_)
    · refine g_aload_n C dX8_feed_14 (p := 0) (hi := rfl) (hv := rfl) ?_
      refine gc_g_X8_reader C dX8_feed_15 wf_X8_26 ?_
      refine g_iload_n C dX8_feed_18 (p := 2) (hi := rfl) (hv := rfl) ?_
      refine gc_call_X4 C dX8_feed_19 (kX4_hasRoom (σ := σ) (n := n) hap hE (by first | assumption | omega | exact h31 | exact rn) (by first | assumption | omega | exact h31 | exact rn)) mw_X4_hasRoom wl_X8_117 (by decide) (by decide) rfl rfl (by simp [Value.category]) ?_
      refine g_if_ne C (tgt := 28) dX8_feed_22 (by decide) (by omega) (fun h_3 => ?_) (fun h_3 => ?_)
      · refine g_aload_n C dX8_feed_28 (p := 0) (hi := rfl) (hv := rfl) ?_
        refine gc_g_X8_reader C dX8_feed_29 wf_X8_26 ?_
        refine g_lload_n C dX8_feed_32 (p := 1) (hi := rfl) (hv := rfl) ?_
        refine g_iload_n C dX8_feed_33 (p := 2) (hi := rfl) (hv := rfl) ?_
        refine gc_callv_X4 C dX8_feed_34 (kX4_append (σ := σ) (w := w) (n := n) hap hE (by first | assumption | omega | exact h31 | exact rn) (by first | assumption | omega | exact h31 | exact rn)) mw_X4_append wl_X8_121 (by decide) (by decide) rfl rfl (by simp [Value.category]) ?_
        refine g_aload_n C dX8_feed_37 (p := 0) (hi := rfl) (hv := rfl) ?_
        refine gc_g_X8_reader C dX8_feed_38 wf_X8_26 ?_
        refine gc_g_X4_fed C dX8_feed_41 wf_X8_125 ?_
        refine g_cI (b := (σ 3 1 + n)) (by first | rfl | (simp only [mu_app, mr_app, ru, over, and_self, ↓reduceIte]; (repeat (first | rw [if_neg (by omega)] | rw [if_pos (by omega)])))) ?_
        exact hret _ _ _ _ dX8_feed_44 (by first | ((repeat (first | (with_reducible refine pI ?_ ?_; focus (first | assumption | omega)) | (with_reducible refine nIt ?_ ?_; focus (first | assumption | omega)))); first | rfl | omega) | ((repeat' split) <;> first | (exfalso; omega) | contradiction | rfl | omega)) (by first | ((repeat (first | (with_reducible refine pI ?_ ?_; focus (first | assumption | omega)) | (with_reducible refine nIt ?_ ?_; focus (first | assumption | omega)))); first | rfl | omega) | ((repeat' split) <;> first | (exfalso; omega) | contradiction | rfl | omega))
      · refine g_ldc C (n := (-1000003)) wk_X8_120 (by decide +kernel) dX8_feed_25 ?_
        exact hret _ _ _ _ dX8_feed_27 (by first | ((repeat (first | (with_reducible refine pI ?_ ?_; focus (first | assumption | omega)) | (with_reducible refine nIt ?_ ?_; focus (first | assumption | omega)))); first | rfl | omega) | ((repeat' split) <;> first | (exfalso; omega) | contradiction | rfl | omega)) (by first | ((repeat (first | (with_reducible refine pI ?_ ?_; focus (first | assumption | omega)) | (with_reducible refine nIt ?_ ?_; focus (first | assumption | omega)))); first | rfl | omega) | ((repeat' split) <;> first | (exfalso; omega) | contradiction | rfl | omega))
    · refine g_ldc C (n := (-1000001)) wk_X8_76 (by decide +kernel) dX8_feed_11 ?_
      exact hret _ _ _ _ dX8_feed_13 (by first | ((repeat (first | (with_reducible refine pI ?_ ?_; focus (first | assumption | omega)) | (with_reducible refine nIt ?_ ?_; focus (first | assumption | omega)))); first | rfl | omega) | ((repeat' split) <;> first | (exfalso; omega) | contradiction | rfl | omega)) (by first | ((repeat (first | (with_reducible refine pI ?_ ?_; focus (first | assumption | omega)) | (with_reducible refine nIt ?_ ?_; focus (first | assumption | omega)))); first | rfl | omega) | ((repeat' split) <;> first | (exfalso; omega) | contradiction | rfl | omega))
set_option maxHeartbeats 4000000 in
set_option maxRecDepth 100000 in
theorem kX8_town {l : Launch} {K : Nat → ClassId} {D : va_G} {ad : Int → Nat} {E : gEnv} {σ : Mem} {P : cP} (hap : Apart ad 60) (hE : gEok E) (hcE : ∀ (A : Nat → Prop) (U : State) (H : Heap), E A U H → cE P A U H) (hH : 22 ≤ σ 0 8 ∧ σ 0 8 < 24) (hH9 : 22 ≤ σ 0 9 ∧ σ 0 9 < 24) (hb4 : ∀ k : Int, 0 ≤ σ 4 k ∧ σ 4 k ≤ 255) (h31 : 0 ≤ σ 3 1 ∧ σ 3 1 ≤ 400) : CtI l K D ad 60 (cfC ad K) E yX8_town cX8_town 3 (some .int) 9 [.ref (ad 0)] σ (if (riS σ (σ 0 9)).1 = 0 then -1000100 - (riS σ (σ 0 9)).2 3 3 else (riS σ (σ 0 9)).2 (σ 0 9) 2) (if (riS σ (σ 0 9)).1 = 0 then mu (mu (riS σ (σ 0 9)).2 3 1 0) 0 10 ((riS σ (σ 0 9)).2 3 2) else mu (mu (mu (mu (riS σ (σ 0 9)).2 3 1 0) 0 8 (σ 0 9)) 0 9 (σ 0 8)) 5 0 0) := by
  have hq0 : σ 0 = (riS σ (σ 0 9)).2 0 := (riS_c (by decide) (by omega)).symm
  refine ctI_of hap hE (by decide) rfl .int (nar_i _) (fun M C hn hret => ?_)
  have C : Good l K D ad 60 E 9 cX8_town RX8 M := C
  have hcS := hcE _ _ _ (gd_E C)
  show G M ad 60 (cfC ad K) 0 [(0, .ref (ad 0))] [] σ
  refine g_aload_n C dX8_town_0 (p := 0) (hi := rfl) (hv := rfl) ?_
  refine gc_g_X8_reader C dX8_town_1 wf_X8_26 ?_
  refine g_aload_n C dX8_town_4 (p := 0) (hi := rfl) (hv := rfl) ?_
  refine gc_g_X8_spare C dX8_town_5 wf_X8_69 ?_
  refine gc_call_X4 C dX8_town_8 (kX4_readsInto (σ := σ) (a := σ 0 9) (P := P) hap hE (by first | assumption | omega | exact hH | exact hH9 | exact hb4 | exact h31) (by first | assumption | omega | exact hH | exact hH9 | exact hb4 | exact h31) (by first | assumption | omega | exact hH | exact hH9 | exact hb4 | exact h31) (by first | assumption | omega | exact hH | exact hH9 | exact hb4 | exact h31)) mw_X4_readsInto wl_X8_128 (by decide) (by decide) rfl rfl (by simp [Value.category]) ?_
  refine g_eq (σ' := (mr (riS σ (σ 0 9)).2 0 (σ 0))) rfl rfl rfl (by exact (mr_self hq0).symm) ?_
  refine g_istore_n C hn dX8_town_11 rfl rfl rfl ?_
  refine g_aload_n C dX8_town_12 (p := 1) (hi := rfl) (hv := rfl) ?_
  refine gc_g_X8_reader C dX8_town_13 wf_X8_26 ?_
  refine g_iconst C dX8_town_16 ?_
  refine gc_p_X4_fed C dX8_town_17 wf_X8_125 ?_
  refine g_iload_n C dX8_town_20 (p := 0) (hi := rfl) (hv := rfl) ?_
  refine g_if_ne C (tgt := 46) dX8_town_21 (by decide) (r3_01 riS_01) (fun h_1 => ?_) (fun h_1 => ?_)
  · refine g_aload_n C dX8_town_46 (p := 1) (hi := rfl) (hv := rfl) ?_
    refine gc_g_X8_here C dX8_town_47 wf_X8_65 ?_
    refine g_cR (b := (σ 0 8)) (by first | rfl | (simp only [mu_app, mr_app, ru, over, and_self, ↓reduceIte]; (repeat (first | rw [if_neg (by omega)] | rw [if_pos (by omega)])))) ?_
    refine g_astore_n C hn dX8_town_50 rfl rfl rfl ?_
    refine g_aload_n C dX8_town_51 (p := 2) (hi := rfl) (hv := rfl) ?_
    refine g_aload_n C dX8_town_52 (p := 2) (hi := rfl) (hv := rfl) ?_
    refine gc_g_X8_spare C dX8_town_53 wf_X8_69 ?_
    refine g_cR (b := (σ 0 9)) (by first | rfl | (simp only [mu_app, mr_app, ru, over, and_self, ↓reduceIte]; (repeat (first | rw [if_neg (by omega)] | rw [if_pos (by omega)])))) ?_
    refine gc_p_X8_here C dX8_town_56 wf_X8_65 ?_
    refine g_aload_n C dX8_town_59 (p := 2) (hi := rfl) (hv := rfl) ?_
    refine g_aload_n C dX8_town_60 (p := 0) (hi := rfl) (hv := rfl) ?_
    refine gc_p_X8_spare C dX8_town_61 wf_X8_69 ?_
    refine g_aload_n C dX8_town_64 (p := 2) (hi := rfl) (hv := rfl) ?_
    refine gc_g_X8_acts C dX8_town_65 wf_X8_33 ?_
    refine g_iconst C dX8_town_68 ?_
    refine gc_p_X0_many C dX8_town_69 wf_X8_142 ?_
    refine g_aload_n C dX8_town_72 (p := 2) (hi := rfl) (hv := rfl) ?_
    refine gc_g_X8_here C dX8_town_73 wf_X8_65 ?_
    refine g_cR (b := (σ 0 9)) (by first | rfl | (simp only [mu_app, mr_app, ru, over, and_self, ↓reduceIte]; (repeat (first | rw [if_neg (by omega)] | rw [if_pos (by omega)])))) ?_
    refine gc_g_X7_people C (by omega) dX8_town_76 wf_X8_145 ?_
    refine g_cI (b := ((riS σ (σ 0 9)).2 (σ 0 9) 2)) (by first | rfl | (simp only [mu_app, mr_app, ru, over, and_self, ↓reduceIte]; (repeat (first | rw [if_neg (by omega)] | rw [if_pos (by omega)])))) ?_
    exact hret _ _ _ _ dX8_town_79 (by (try rw [mr_self hq0]); first | ((repeat (first | (with_reducible refine pI ?_ ?_; focus (first | assumption | omega)) | (with_reducible refine nIt ?_ ?_; focus (first | assumption | omega)))); first | rfl | omega) | ((repeat' split) <;> first | (exfalso; omega) | contradiction | rfl | omega)) (by (try rw [mr_self hq0]); first | ((repeat (first | (with_reducible refine pI ?_ ?_; focus (first | assumption | omega)) | (with_reducible refine nIt ?_ ?_; focus (first | assumption | omega)))); first | rfl | omega) | ((repeat' split) <;> first | (exfalso; omega) | contradiction | rfl | omega))
  · refine g_aload_n C dX8_town_24 (p := 1) (hi := rfl) (hv := rfl) ?_
    refine g_aload_n C dX8_town_25 (p := 1) (hi := rfl) (hv := rfl) ?_
    refine gc_g_X8_reader C dX8_town_26 wf_X8_26 ?_
    refine gc_g_X4_wrong C dX8_town_29 wf_X8_132 ?_
    refine g_cI (b := ((riS σ (σ 0 9)).2 3 2)) (by first | rfl | (simp only [mu_app, mr_app, ru, over, and_self, ↓reduceIte]; (repeat (first | rw [if_neg (by omega)] | rw [if_pos (by omega)])))) ?_
    refine gc_p_X8_latestFault C dX8_town_32 wf_X8_135 ?_
    refine g_ldc C (n := (-1000100)) wk_X8_138 (by decide +kernel) dX8_town_35 ?_
    refine g_aload_n C dX8_town_37 (p := 1) (hi := rfl) (hv := rfl) ?_
    refine gc_g_X8_reader C dX8_town_38 wf_X8_26 ?_
    refine gc_g_X4_at C dX8_town_41 wf_X8_139 ?_
    refine g_cI (b := ((riS σ (σ 0 9)).2 3 3)) (by first | rfl | (simp only [mu_app, mr_app, ru, over, and_self, ↓reduceIte]; (repeat (first | rw [if_neg (by omega)] | rw [if_pos (by omega)])))) ?_
    refine g_isub C dX8_town_44 ?_
    exact hret _ _ _ _ dX8_town_45 (by (try rw [mr_self hq0]); first | ((repeat (first | (with_reducible refine pI ?_ ?_; focus (first | assumption | omega)) | (with_reducible refine nIt ?_ ?_; focus (first | assumption | omega)))); first | rfl | omega) | ((repeat' split) <;> first | (exfalso; omega) | contradiction | rfl | omega)) (by (try rw [mr_self hq0]); first | ((repeat (first | (with_reducible refine pI ?_ ?_; focus (first | assumption | omega)) | (with_reducible refine nIt ?_ ?_; focus (first | assumption | omega)))); first | rfl | omega) | ((repeat' split) <;> first | (exfalso; omega) | contradiction | rfl | omega))

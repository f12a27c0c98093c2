set_option maxHeartbeats 4000000 in
set_option maxRecDepth 100000 in
theorem kX5_lay {l : Launch} {K : Nat → ClassId} {D : va_G} {ad : Int → Nat} {E : gEnv} {σ : Mem} {self ln n : Int} (hap : Apart ad 60) (hE : gEok E) (hsl : 44 ≤ self ∧ self < 52) : CtV l K D ad 60 (cfC ad K) E yX5_lay cX5_lay 4 none 0 [.ref (ad self), .int (iI ln), .int (iI n)] σ (mr (mu (mu (mu σ self 1 0) self 2 ln) self 3 n) (self + 8) (over (σ (self + 8)) (fun _ => 0) 0 40)) := by
  refine ctV_of hap hE (by decide) rfl (fun M C hn hret => ?_)
  have C : Good l K D ad 60 E 0 cX5_lay RX5 M := C
  show G M ad 60 (cfC ad K) 0 [(0, .ref (ad self)), (1, .int (iI ln)), (2, .int (iI n))] [] σ
  refine g_aload_n C dX5_lay_0 (p := 0) (hi := rfl) (hv := rfl) ?_
  refine g_iconst C dX5_lay_1 ?_
  refine gc_p_X5_missing C (by omega) (by omega) dX5_lay_2 wf_X5_13 ?_
  refine g_aload_n C dX5_lay_5 (p := 0) (hi := rfl) (hv := rfl) ?_
  refine g_iload_n C dX5_lay_6 (p := 1) (hi := rfl) (hv := rfl) ?_
  refine gc_p_X5_lane C (by omega) dX5_lay_7 wf_X5_17 ?_
  refine g_aload_n C dX5_lay_10 (p := 0) (hi := rfl) (hv := rfl) ?_
  refine g_iload_n C dX5_lay_11 (p := 2) (hi := rfl) (hv := rfl) ?_
  refine gc_p_X5_length C (by omega) dX5_lay_12 wf_X5_21 ?_
  refine g_iconst C dX5_lay_15 ?_
  refine g_istore_n C hn dX5_lay_16 rfl rfl rfl ?_
  have L17 : ∀ i : Nat, i ≤ 40 → ∀ (x3 : Int), ∀ (τ17 : Mem), x3 = (i : Int) → τ17 = (mr (mu (mu (mu σ self 1 0) self 2 ln) self 3 n) (self + 8) (over (σ (self + 8)) (fun _ => 0) 0 (i : Int))) → G M ad 60 (cfC ad K) 17 [(0, .ref (ad self)), (1, .int (iI ln)), (2, .int (iI n)), (3, .int (iI x3))] [] τ17 := by
    refine loopUp 40 ?_
    rintro i hi ihi x3 τ17 rfl rfl
    refine g_iload_n C dX5_lay_17 (p := 3) (hi := rfl) (hv := rfl) ?_
    refine (g_bipush C dX5_lay_18 (by decide)) ?_
    refine g_icmp_ge C (tgt := 36) dX5_lay_20 (by decide) (by omega) (by omega) (fun h_1 => ?_) (fun h_1 => ?_)
    · have hiN : i = 40 := by omega
      exact hret _ _ _ dX5_lay_36 (by (try subst hiN); first | rfl | (congr 2 <;> omega))
    · refine g_aload_n C dX5_lay_23 (p := 0) (hi := rfl) (hv := rfl) ?_
      refine gc_g_X5_items C (by omega) dX5_lay_24 wf_X5_9 ?_
      refine g_iload_n C dX5_lay_27 (p := 3) (hi := rfl) (hv := rfl) ?_
      refine g_iconst C dX5_lay_28 ?_
      refine gc_s_items C (by omega) dX5_lay_29 (by omega) (by omega) ?_
      refine g_iinc C hn dX5_lay_30 (p := 3) rfl rfl rfl ?_
      refine g_goto C (tgt := 17) dX5_lay_33 (by decide) ?_
      refine g_sub [1, 2, 3, 0] rfl ?_
      exact ihi (by omega) _ _ (by first | rfl | omega) (by exact over_step (by omega) (by omega) rfl)
  refine g_sub [1, 2, 3, 0] rfl ?_
  exact L17 0 (Nat.zero_le _) _ _ (by first | rfl | omega | simp) (by exact (mr_self ((over_0 (by omega)).trans (by funext x; first | rfl | (simp only [mu_app, mr_app]; (repeat rw [if_neg (by omega)]))))).symm)
set_option maxHeartbeats 4000000 in
set_option maxRecDepth 100000 in
theorem kX5_put {l : Launch} {K : Nat → ClassId} {D : va_G} {ad : Int → Nat} {E : gEnv} {σ : Mem} {self i v : Int} (hap : Apart ad 60) (hE : gEok E) (hsl : 44 ≤ self ∧ self < 52) (hi : 0 ≤ i ∧ i < 40) (rv : R3 v) (hl : 0 ≤ σ self 2 ∧ σ self 2 ≤ 2) : CtI l K D ad 60 (cfC ad K) E yX5_put cX5_put 4 (some .int) 0 [.ref (ad self), .int (iI i), .int (iI v)] σ (cutC (σ self 2) v) (mu σ (self + 8) i (cutC (σ self 2) v)) := by
  refine ctI_of hap hE (by decide) rfl .int (nar_i _) (fun M C hn hret => ?_)
  have C : Good l K D ad 60 E 0 cX5_put RX5 M := C
  show G M ad 60 (cfC ad K) 0 [(0, .ref (ad self)), (1, .int (iI i)), (2, .int (iI v))] [] σ
  refine g_iload_n C dX5_put_0 (p := 2) (hi := rfl) (hv := rfl) ?_
  refine g_istore_n C hn dX5_put_1 rfl rfl rfl ?_
  refine g_aload_n C dX5_put_2 (p := 1) (hi := rfl) (hv := rfl) ?_
  refine gc_g_X5_lane C (by omega) dX5_put_3 wf_X5_17 ?_
  refine g_if_ne C (tgt := 15) dX5_put_6 (by decide) (by omega) (fun h_1 => ?_) (fun h_1 => ?_)
  · refine g_aload_n C dX5_put_15 (p := 1) (hi := rfl) (hv := rfl) ?_
    refine gc_g_X5_lane C (by omega) dX5_put_16 wf_X5_17 ?_
    refine g_iconst C dX5_put_19 ?_
    refine g_icmp_ne C (tgt := 26) dX5_put_20 (by decide) (by omega) (by omega) (fun h_2 => ?_) (fun h_2 => ?_)
    · refine g_aload_n C dX5_put_26 (p := 1) (hi := rfl) (hv := rfl) ?_
      refine gc_g_X5_items C (by omega) dX5_put_27 wf_X5_9 ?_
      refine g_iload_n C dX5_put_30 (p := 2) (hi := rfl) (hv := rfl) ?_
      refine g_iload_n C dX5_put_31 (p := 0) (hi := rfl) (hv := rfl) ?_
      refine gc_s_items C (by omega) dX5_put_32 (by omega) (by omega) ?_
      refine g_iload_n C dX5_put_33 (p := 0) (hi := rfl) (hv := rfl) ?_
      exact hret _ _ _ _ dX5_put_34 (by unfold cutC; (repeat' split) <;> first | rfl | omega) (by unfold cutC; (repeat' split) <;> first | rfl | (exfalso; omega))
    · refine g_iload_n C dX5_put_23 (p := 3) (hi := rfl) (hv := rfl) ?_
      refine g_i2s C dX5_put_24 ?_
      refine g_istore_n C hn dX5_put_25 rfl rfl rfl ?_
      refine g_aload_n C dX5_put_26 (p := 1) (hi := rfl) (hv := rfl) ?_
      refine gc_g_X5_items C (by omega) dX5_put_27 wf_X5_9 ?_
      refine g_iload_n C dX5_put_30 (p := 2) (hi := rfl) (hv := rfl) ?_
      refine g_iload_n C dX5_put_31 (p := 0) (hi := rfl) (hv := rfl) ?_
      refine gc_s_items C (by omega) dX5_put_32 (by omega) (by omega) ?_
      refine g_iload_n C dX5_put_33 (p := 0) (hi := rfl) (hv := rfl) ?_
      exact hret _ _ _ _ dX5_put_34 (by unfold cutC; (repeat' split) <;> first | rfl | omega) (by unfold cutC; (repeat' split) <;> first | rfl | (exfalso; omega))
  · refine g_iload_n C dX5_put_9 (p := 3) (hi := rfl) (hv := rfl) ?_
    refine g_i2b C dX5_put_10 ?_
    refine g_istore_n C hn dX5_put_11 rfl rfl rfl ?_
    refine g_goto C (tgt := 26) dX5_put_12 (by decide) ?_
    refine g_aload_n C dX5_put_26 (p := 1) (hi := rfl) (hv := rfl) ?_
    refine gc_g_X5_items C (by omega) dX5_put_27 wf_X5_9 ?_
    refine g_iload_n C dX5_put_30 (p := 2) (hi := rfl) (hv := rfl) ?_
    refine g_iload_n C dX5_put_31 (p := 0) (hi := rfl) (hv := rfl) ?_
    refine gc_s_items C (by omega) dX5_put_32 (by omega) (by omega) ?_
    refine g_iload_n C dX5_put_33 (p := 0) (hi := rfl) (hv := rfl) ?_
    exact hret _ _ _ _ dX5_put_34 (by unfold cutC; (repeat' split) <;> first | rfl | omega) (by unfold cutC; (repeat' split) <;> first | rfl | (exfalso; omega))
set_option maxHeartbeats 4000000 in
set_option maxRecDepth 100000 in
theorem kX5_has {l : Launch} {K : Nat → ClassId} {D : va_G} {ad : Int → Nat} {E : gEnv} {σ : Mem} {self a n : Int} (hap : Apart ad 60) (hE : gEok E) (hsl : 44 ≤ self ∧ self < 52) (ra : R3 a) (rn : R3 n) (hl : 0 ≤ σ self 3 ∧ σ self 3 ≤ 40) : CtI l K D ad 60 (cfC ad K) E yX5_has cX5_has 3 (some .boolean) 0 [.ref (ad self), .int (iI a), .int (iI n)] σ (if 0 ≤ a ∧ 0 ≤ n ∧ a ≤ σ self 3 - n then 1 else 0) σ := by
  refine ctI_of hap hE (by decide) rfl .boolean (nar_z (by split <;> simp)) (fun M C hn hret => ?_)
  have C : Good l K D ad 60 E 0 cX5_has RX5 M := C
  show G M ad 60 (cfC ad K) 0 [(0, .ref (ad self)), (1, .int (iI a)), (2, .int (iI n))] [] σ
  refine g_iload_n C dX5_has_0 (p := 1) (hi := rfl) (hv := rfl) ?_
  refine g_if_lt C (tgt := 22) dX5_has_1 (by decide) (by omega) (fun h_1 => ?_) (fun h_1 => ?_)
  · refine g_iconst C dX5_has_22 ?_
    exact hret _ _ _ _ dX5_has_23 (by first | rfl | omega | ((repeat' split) <;> first | (exfalso; omega) | rfl | exact mu_mu | omega)) (by first | rfl | omega | ((repeat' split) <;> first | (exfalso; omega) | rfl | exact mu_mu | omega))
  · refine g_iload_n C dX5_has_4 (p := 2) (hi := rfl) (hv := rfl) ?_
    refine g_if_lt C (tgt := 22) dX5_has_5 (by decide) (by omega) (fun h_2 => ?_) (fun h_2 => ?_)
    · refine g_iconst C dX5_has_22 ?_
      exact hret _ _ _ _ dX5_has_23 (by first | rfl | omega | ((repeat' split) <;> first | (exfalso; omega) | rfl | exact mu_mu | omega)) (by first | rfl | omega | ((repeat' split) <;> first | (exfalso; omega) | rfl | exact mu_mu | omega))
    · refine g_iload_n C dX5_has_8 (p := 1) (hi := rfl) (hv := rfl) ?_
      refine g_aload_n C dX5_has_9 (p := 0) (hi := rfl) (hv := rfl) ?_
      refine gc_g_X5_length C (by omega) dX5_has_10 wf_X5_21 ?_
      refine g_iload_n C dX5_has_13 (p := 2) (hi := rfl) (hv := rfl) ?_
      refine g_isub C dX5_has_14 ?_
      refine g_icmp_gt C (tgt := 22) dX5_has_15 (by decide) (by omega) (by omega) (fun h_3 => ?_) (fun h_3 => ?_)
      · refine g_iconst C dX5_has_22 ?_
        exact hret _ _ _ _ dX5_has_23 (by first | rfl | omega | ((repeat' split) <;> first | (exfalso; omega) | rfl | exact mu_mu | omega)) (by first | rfl | omega | ((repeat' split) <;> first | (exfalso; omega) | rfl | exact mu_mu | omega))
      · refine g_iconst C dX5_has_18 ?_
        refine g_goto C (tgt := 23) dX5_has_19 (by decide) ?_
        exact hret _ _ _ _ dX5_has_23 (by first | rfl | omega | ((repeat' split) <;> first | (exfalso; omega) | rfl | exact mu_mu | omega)) (by first | rfl | omega | ((repeat' split) <;> first | (exfalso; omega) | rfl | exact mu_mu | omega))
set_option maxHeartbeats 4000000 in
set_option maxRecDepth 100000 in
theorem kX7_countHeld {l : Launch} {K : Nat → ClassId} {D : va_G} {ad : Int → Nat} {E : gEnv} {σ : Mem} {self : Int} (hap : Apart ad 60) (hE : gEok E) (hsl : 20 ≤ self ∧ self < 24) (h3 : 0 ≤ σ self 3 ∧ σ self 3 ≤ 5) (hh : ∀ t, 0 ≤ t → t < 5 → R3 (σ (self + 16) t)) : CtI l K D ad 60 (cfC ad K) E yX7_countHeld cX7_countHeld 3 (some .int) 0 [.ref (ad self)] σ (chC (σ (self + 16)) (σ self 3).toNat) σ := by
  refine ctI_of hap hE (by decide) rfl .int (nar_i _) (fun M C hn hret => ?_)
  have C : Good l K D ad 60 E 0 cX7_countHeld RX7 M := C
  show G M ad 60 (cfC ad K) 0 [(0, .ref (ad self))] [] σ
  refine g_iconst C dX7_countHeld_0 ?_
  refine g_istore_n C hn dX7_countHeld_1 rfl rfl rfl ?_
  refine g_iconst C dX7_countHeld_2 ?_
  refine g_istore_n C hn dX7_countHeld_3 rfl rfl rfl ?_
  have L4 : ∀ i : Nat, i ≤ ((σ self 3).toNat) → ∀ (x1 x2 : Int), x1 = (chC (σ (self + 16)) i) → x2 = (i : Int) → G M ad 60 (cfC ad K) 4 [(0, .ref (ad self)), (1, .int (iI x1)), (2, .int (iI x2))] [] σ := by
    refine loopUp ((σ self 3).toNat) ?_
    rintro i hi ihi x1 x2 rfl rfl
    refine g_iload_n C dX7_countHeld_4 (p := 2) (hi := rfl) (hv := rfl) ?_
    refine g_aload_n C dX7_countHeld_5 (p := 0) (hi := rfl) (hv := rfl) ?_
    refine gc_g_X7_things C (by omega) dX7_countHeld_6 wf_X7_37 ?_
    refine g_icmp_ge C (tgt := 32) dX7_countHeld_9 (by decide) (by omega) (by omega) (fun h_1 => ?_) (fun h_1 => ?_)
    · have hiN : i = ((σ self 3).toNat) := by omega
      refine g_iload_n C dX7_countHeld_32 (p := 1) (hi := rfl) (hv := rfl) ?_
      exact hret _ _ _ _ dX7_countHeld_33 (by (try subst hiN); first | rfl | omega | ((repeat' split) <;> first | (exfalso; omega) | rfl | exact mu_mu | omega)) (by (try subst hiN); first | rfl | omega | ((repeat' split) <;> first | (exfalso; omega) | rfl | exact mu_mu | omega))
    · refine g_aload_n C dX7_countHeld_12 (p := 0) (hi := rfl) (hv := rfl) ?_
      refine gc_g_X7_holders C (by omega) dX7_countHeld_13 wf_X7_21 ?_
      refine g_iload_n C dX7_countHeld_16 (p := 2) (hi := rfl) (hv := rfl) ?_
      refine gc_l_holders C (by omega) dX7_countHeld_17 (by omega) (by omega) ?_
      refine g_ldc C (n := (-1000000)) wk_X7_40 (by decide +kernel) dX7_countHeld_18 ?_
      refine g_icmp_eq C (tgt := 26) dX7_countHeld_20 (by decide) (by have := hh (i : Int) (by omega) (by omega); omega) (by omega) (fun h_2 => ?_) (fun h_2 => ?_)
      · refine g_iinc C hn dX7_countHeld_26 (p := 2) rfl rfl rfl ?_
        refine g_goto C (tgt := 4) dX7_countHeld_29 (by decide) ?_
        refine g_sub [1, 2, 0] rfl ?_
        exact ihi (by omega) _ _ (by first | rfl | omega | (simp only [chC]; (repeat' split) <;> omega)) (by first | rfl | omega | (simp only [chC]; (repeat' split) <;> omega))
      · refine g_iinc C hn dX7_countHeld_23 (p := 1) rfl rfl rfl ?_
        refine g_iinc C hn dX7_countHeld_26 (p := 2) rfl rfl rfl ?_
        refine g_goto C (tgt := 4) dX7_countHeld_29 (by decide) ?_
        refine g_sub [2, 1, 0] rfl ?_
        exact ihi (by omega) _ _ (by first | rfl | omega | (simp only [chC]; (repeat' split) <;> omega)) (by first | rfl | omega | (simp only [chC]; (repeat' split) <;> omega))
  refine g_sub [2, 1, 0] rfl ?_
  exact L4 0 (Nat.zero_le _) _ _ (by first | rfl | omega | simp) (by first | rfl | omega | simp)
set_option maxHeartbeats 4000000 in
set_option maxRecDepth 100000 in
theorem kX7_countHeldBy {l : Launch} {K : Nat → ClassId} {D : va_G} {ad : Int → Nat} {E : gEnv} {σ : Mem} {self p : Int} (hap : Apart ad 60) (hE : gEok E) (hsl : 20 ≤ self ∧ self < 24) (h3 : 0 ≤ σ self 3 ∧ σ self 3 ≤ 5) (hh : ∀ t, 0 ≤ t → t < 5 → R3 (σ (self + 16) t)) (rp : R3 p) : CtI l K D ad 60 (cfC ad K) E yX7_countHeldBy cX7_countHeldBy 4 (some .int) 0 [.ref (ad self), .int (iI p)] σ (cbC (σ (self + 16)) p (σ self 3).toNat) σ := by
  refine ctI_of hap hE (by decide) rfl .int (nar_i _) (fun M C hn hret => ?_)
  have C : Good l K D ad 60 E 0 cX7_countHeldBy RX7 M := C
  show G M ad 60 (cfC ad K) 0 [(0, .ref (ad self)), (1, .int (iI p))] [] σ
  refine g_iconst C dX7_countHeldBy_0 ?_
  refine g_istore_n C hn dX7_countHeldBy_1 rfl rfl rfl ?_
  refine g_iconst C dX7_countHeldBy_2 ?_
  refine g_istore_n C hn dX7_countHeldBy_3 rfl rfl rfl ?_
  have L4 : ∀ i : Nat, i ≤ ((σ self 3).toNat) → ∀ (x2 x3 : Int), x2 = (cbC (σ (self + 16)) p i) → x3 = (i : Int) → G M ad 60 (cfC ad K) 4 [(0, .ref (ad self)), (1, .int (iI p)), (2, .int (iI x2)), (3, .int (iI x3))] [] σ := by
    refine loopUp ((σ self 3).toNat) ?_
    rintro i hi ihi x2 x3 rfl rfl
    refine g_iload_n C dX7_countHeldBy_4 (p := 3) (hi := rfl) (hv := rfl) ?_
    refine g_aload_n C dX7_countHeldBy_5 (p := 0) (hi := rfl) (hv := rfl) ?_
    refine gc_g_X7_things C (by omega) dX7_countHeldBy_6 wf_X7_37 ?_
    refine g_icmp_ge C (tgt := 31) dX7_countHeldBy_9 (by decide) (by omega) (by omega) (fun h_1 => ?_) (fun h_1 => ?_)
    · have hiN : i = ((σ self 3).toNat) := by omega
      refine g_iload_n C dX7_countHeldBy_31 (p := 2) (hi := rfl) (hv := rfl) ?_
      exact hret _ _ _ _ dX7_countHeldBy_32 (by (try subst hiN); first | rfl | omega | ((repeat' split) <;> first | (exfalso; omega) | rfl | exact mu_mu | omega)) (by (try subst hiN); first | rfl | omega | ((repeat' split) <;> first | (exfalso; omega) | rfl | exact mu_mu | omega))
    · refine g_aload_n C dX7_countHeldBy_12 (p := 0) (hi := rfl) (hv := rfl) ?_
      refine gc_g_X7_holders C (by omega) dX7_countHeldBy_13 wf_X7_21 ?_
      refine g_iload_n C dX7_countHeldBy_16 (p := 3) (hi := rfl) (hv := rfl) ?_
      refine gc_l_holders C (by omega) dX7_countHeldBy_17 (by omega) (by omega) ?_
      refine g_iload_n C dX7_countHeldBy_18 (p := 1) (hi := rfl) (hv := rfl) ?_
      refine g_icmp_ne C (tgt := 25) dX7_countHeldBy_19 (by decide) (by have := hh (i : Int) (by omega) (by omega); omega) (by omega) (fun h_2 => ?_) (fun h_2 => ?_)
      · refine g_iinc C hn dX7_countHeldBy_25 (p := 3) rfl rfl rfl ?_
        refine g_goto C (tgt := 4) dX7_countHeldBy_28 (by decide) ?_
        refine g_sub [1, 2, 3, 0] rfl ?_
        exact ihi (by omega) _ _ (by first | rfl | omega | (simp only [cbC]; (repeat' split) <;> omega)) (by first | rfl | omega | (simp only [cbC]; (repeat' split) <;> omega))
      · refine g_iinc C hn dX7_countHeldBy_22 (p := 2) rfl rfl rfl ?_
        refine g_iinc C hn dX7_countHeldBy_25 (p := 3) rfl rfl rfl ?_
        refine g_goto C (tgt := 4) dX7_countHeldBy_28 (by decide) ?_
        refine g_sub [2, 3, 1, 0] rfl ?_
        exact ihi (by omega) _ _ (by first | rfl | omega | (simp only [cbC]; (repeat' split) <;> omega)) (by first | rfl | omega | (simp only [cbC]; (repeat' split) <;> omega))
  refine g_sub [2, 3, 1, 0] rfl ?_
  exact L4 0 (Nat.zero_le _) _ _ (by first | rfl | omega | simp) (by first | rfl | omega | simp)
set_option maxHeartbeats 4000000 in
set_option maxRecDepth 100000 in
theorem kX7_wantsLeast {l : Launch} {K : Nat → ClassId} {D : va_G} {ad : Int → Nat} {E : gEnv} {σ : Mem} {self t : Int} (hap : Apart ad 60) (hE : gEok E) (hsl : 20 ≤ self ∧ self < 24) (hT : TC σ self) (htt : 0 ≤ t ∧ t < 5) (hp1 : 1 ≤ σ self 2 ∧ σ self 2 ≤ 4) : CtI l K D ad 60 (cfC ad K) E yX7_wantsLeast cX7_wantsLeast 4 (some .int) 1 [.ref (ad self), .int (iI t)] σ (wlC (σ (self + 12)) (σ (self + 20)) t (σ self 2).toNat) σ := by
  refine ctI_of hap hE (by decide) rfl .int (nar_i _) (fun M C hn hret => ?_)
  have C : Good l K D ad 60 E 1 cX7_wantsLeast RX7 M := C
  show G M ad 60 (cfC ad K) 0 [(0, .ref (ad self)), (1, .int (iI t))] [] σ
  refine g_iconst C dX7_wantsLeast_0 ?_
  refine g_istore_n C hn dX7_wantsLeast_1 rfl rfl rfl ?_
  refine g_iconst C dX7_wantsLeast_2 ?_
  refine g_istore_n C hn dX7_wantsLeast_3 rfl rfl rfl ?_
  have L4 : ∀ i : Nat, i ≤ ((σ self 2).toNat) → ∀ (x2 x3 : Int), x2 = (wlC (σ (self + 12)) (σ (self + 20)) t i) → x3 = (i : Int) → G M ad 60 (cfC ad K) 4 [(0, .ref (ad self)), (1, .int (iI t)), (2, .int (iI x2)), (3, .int (iI x3))] [] σ := by
    refine loopUp ((σ self 2).toNat) ?_
    rintro i hi ihi x2 x3 rfl rfl
    have hwi := wlC_in (told := σ (self + 12)) (worn := σ (self + 20)) (t := t) i
    have hw1 := fun hlt : (i : Int) < 4 => woC_in hT htt (p := (i : Int)) ⟨by omega, hlt⟩
    have hw2 := fun hlt : wlC (σ (self + 12)) (σ (self + 20)) t i < 4 => woC_in hT htt (p := wlC (σ (self + 12)) (σ (self + 20)) t i) ⟨hwi.1, hlt⟩
    refine g_iload_n C dX7_wantsLeast_4 (p := 3) (hi := rfl) (hv := rfl) ?_
    refine g_aload_n C dX7_wantsLeast_5 (p := 0) (hi := rfl) (hv := rfl) ?_
    refine gc_g_X7_people C (by omega) dX7_wantsLeast_6 wf_X7_34 ?_
    refine g_icmp_ge C (tgt := 35) dX7_wantsLeast_9 (by decide) (by omega) (by omega) (fun h_1 => ?_) (fun h_1 => ?_)
    · have hiN : i = ((σ self 2).toNat) := by omega
      refine g_iload_n C dX7_wantsLeast_35 (p := 2) (hi := rfl) (hv := rfl) ?_
      exact hret _ _ _ _ dX7_wantsLeast_36 (by (try subst hiN); first | rfl | omega | ((repeat' split) <;> first | (exfalso; omega) | rfl | exact mu_mu | omega)) (by (try subst hiN); first | rfl | omega | ((repeat' split) <;> first | (exfalso; omega) | rfl | exact mu_mu | omega))
    · refine g_aload_n C dX7_wantsLeast_12 (p := 0) (hi := rfl) (hv := rfl) ?_
      refine g_iload_n C dX7_wantsLeast_13 (p := 1) (hi := rfl) (hv := rfl) ?_
      refine g_iload_n C dX7_wantsLeast_14 (p := 3) (hi := rfl) (hv := rfl) ?_
      refine gc_call_X7 C dX7_wantsLeast_15 (kX7_worthOf (σ := σ) (t := t) (p := (i : Int)) (self := self) hap hE (by first | assumption | omega | exact hsl | exact hT | exact htt | exact hp1) (by first | assumption | omega | exact hsl | exact hT | exact htt | exact hp1) (by first | assumption | omega | exact hsl | exact hT | exact htt | exact hp1)) mw_X7_worthOf wl_X7_49 (by decide) (by decide) (by omega) rfl rfl (by simp [Value.category]) ?_
      refine g_aload_n C dX7_wantsLeast_18 (p := 0) (hi := rfl) (hv := rfl) ?_
      refine g_iload_n C dX7_wantsLeast_19 (p := 1) (hi := rfl) (hv := rfl) ?_
      refine g_iload_n C dX7_wantsLeast_20 (p := 2) (hi := rfl) (hv := rfl) ?_
      refine gc_call_X7 C dX7_wantsLeast_21 (kX7_worthOf (σ := σ) (t := t) (p := wlC (σ (self + 12)) (σ (self + 20)) t i) (self := self) hap hE (by first | assumption | omega | exact hsl | exact hT | exact htt | exact hp1) (by first | assumption | omega | exact hsl | exact hT | exact htt | exact hp1) (by first | assumption | omega | exact hsl | exact hT | exact htt | exact hp1)) mw_X7_worthOf wl_X7_49 (by decide) (by decide) (by omega) rfl rfl (by simp [Value.category]) ?_
      refine g_icmp_ge C (tgt := 29) dX7_wantsLeast_24 (by decide) (by have hw1' := hw1 (by omega); have hw2' := hw2 (by omega); omega) (by have hw1' := hw1 (by omega); have hw2' := hw2 (by omega); omega) (fun h_2 => ?_) (fun h_2 => ?_)
      · refine g_iinc C hn dX7_wantsLeast_29 (p := 3) rfl rfl rfl ?_
        refine g_goto C (tgt := 4) dX7_wantsLeast_32 (by decide) ?_
        refine g_sub [1, 2, 3, 0] rfl ?_
        exact ihi (by omega) _ _ (by first | rfl | omega | (simp only [wlC]; (repeat' split) <;> first | rfl | omega)) (by first | rfl | omega | (simp only [wlC]; (repeat' split) <;> first | rfl | omega))
      · refine g_iload_n C dX7_wantsLeast_27 (p := 3) (hi := rfl) (hv := rfl) ?_
        refine g_istore_n C hn dX7_wantsLeast_28 rfl rfl rfl ?_
        refine g_iinc C hn dX7_wantsLeast_29 (p := 3) rfl rfl rfl ?_
        refine g_goto C (tgt := 4) dX7_wantsLeast_32 (by decide) ?_
        refine g_sub [2, 3, 1, 0] rfl ?_
        exact ihi (by omega) _ _ (by first | rfl | omega | (simp only [wlC]; (repeat' split) <;> first | rfl | omega)) (by first | rfl | omega | (simp only [wlC]; (repeat' split) <;> first | rfl | omega))
  refine g_sub [2, 3, 1, 0] rfl ?_
  exact L4 1 (by omega) _ _ (by simp [wlC]) (by first | rfl | omega | simp)
set_option maxHeartbeats 4000000 in
set_option maxRecDepth 100000 in
theorem kX7_wantsMost {l : Launch} {K : Nat → ClassId} {D : va_G} {ad : Int → Nat} {E : gEnv} {σ : Mem} {self t : Int} (hap : Apart ad 60) (hE : gEok E) (hsl : 20 ≤ self ∧ self < 24) (hT : TC σ self) (htt : 0 ≤ t ∧ t < 5) (hp1 : 1 ≤ σ self 2 ∧ σ self 2 ≤ 4) : CtI l K D ad 60 (cfC ad K) E yX7_wantsMost cX7_wantsMost 4 (some .int) 1 [.ref (ad self), .int (iI t)] σ (wmC (σ (self + 12)) (σ (self + 20)) t (σ self 2).toNat) σ := by
  refine ctI_of hap hE (by decide) rfl .int (nar_i _) (fun M C hn hret => ?_)
  have C : Good l K D ad 60 E 1 cX7_wantsMost RX7 M := C
  show G M ad 60 (cfC ad K) 0 [(0, .ref (ad self)), (1, .int (iI t))] [] σ
  refine g_iconst C dX7_wantsMost_0 ?_
  refine g_istore_n C hn dX7_wantsMost_1 rfl rfl rfl ?_
  refine g_iconst C dX7_wantsMost_2 ?_
  refine g_istore_n C hn dX7_wantsMost_3 rfl rfl rfl ?_
  have L4 : ∀ i : Nat, i ≤ ((σ self 2).toNat) → ∀ (x2 x3 : Int), x2 = (wmC (σ (self + 12)) (σ (self + 20)) t i) → x3 = (i : Int) → G M ad 60 (cfC ad K) 4 [(0, .ref (ad self)), (1, .int (iI t)), (2, .int (iI x2)), (3, .int (iI x3))] [] σ := by
    refine loopUp ((σ self 2).toNat) ?_
    rintro i hi ihi x2 x3 rfl rfl
    have hwi := wmC_in (told := σ (self + 12)) (worn := σ (self + 20)) (t := t) i
    have hw1 := fun hlt : (i : Int) < 4 => woC_in hT htt (p := (i : Int)) ⟨by omega, hlt⟩
    have hw2 := fun hlt : wmC (σ (self + 12)) (σ (self + 20)) t i < 4 => woC_in hT htt (p := wmC (σ (self + 12)) (σ (self + 20)) t i) ⟨hwi.1, hlt⟩
    refine g_iload_n C dX7_wantsMost_4 (p := 3) (hi := rfl) (hv := rfl) ?_
    refine g_aload_n C dX7_wantsMost_5 (p := 0) (hi := rfl) (hv := rfl) ?_
    refine gc_g_X7_people C (by omega) dX7_wantsMost_6 wf_X7_34 ?_
    refine g_icmp_ge C (tgt := 35) dX7_wantsMost_9 (by decide) (by omega) (by omega) (fun h_1 => ?_) (fun h_1 => ?_)
    · have hiN : i = ((σ self 2).toNat) := by omega
      refine g_iload_n C dX7_wantsMost_35 (p := 2) (hi := rfl) (hv := rfl) ?_
      exact hret _ _ _ _ dX7_wantsMost_36 (by (try subst hiN); first | rfl | omega | ((repeat' split) <;> first | (exfalso; omega) | rfl | exact mu_mu | omega)) (by (try subst hiN); first | rfl | omega | ((repeat' split) <;> first | (exfalso; omega) | rfl | exact mu_mu | omega))
    · refine g_aload_n C dX7_wantsMost_12 (p := 0) (hi := rfl) (hv := rfl) ?_
      refine g_iload_n C dX7_wantsMost_13 (p := 1) (hi := rfl) (hv := rfl) ?_
      refine g_iload_n C dX7_wantsMost_14 (p := 3) (hi := rfl) (hv := rfl) ?_
      refine gc_call_X7 C dX7_wantsMost_15 (kX7_worthOf (σ := σ) (t := t) (p := (i : Int)) (self := self) hap hE (by first | assumption | omega | exact hsl | exact hT | exact htt | exact hp1) (by first | assumption | omega | exact hsl | exact hT | exact htt | exact hp1) (by first | assumption | omega | exact hsl | exact hT | exact htt | exact hp1)) mw_X7_worthOf wl_X7_49 (by decide) (by decide) (by omega) rfl rfl (by simp [Value.category]) ?_
      refine g_aload_n C dX7_wantsMost_18 (p := 0) (hi := rfl) (hv := rfl) ?_
      refine g_iload_n C dX7_wantsMost_19 (p := 1) (hi := rfl) (hv := rfl) ?_
      refine g_iload_n C dX7_wantsMost_20 (p := 2) (hi := rfl) (hv := rfl) ?_
      refine gc_call_X7 C dX7_wantsMost_21 (kX7_worthOf (σ := σ) (t := t) (p := wmC (σ (self + 12)) (σ (self + 20)) t i) (self := self) hap hE (by first | assumption | omega | exact hsl | exact hT | exact htt | exact hp1) (by first | assumption | omega | exact hsl | exact hT | exact htt | exact hp1) (by first | assumption | omega | exact hsl | exact hT | exact htt | exact hp1)) mw_X7_worthOf wl_X7_49 (by decide) (by decide) (by omega) rfl rfl (by simp [Value.category]) ?_
      refine g_icmp_le C (tgt := 29) dX7_wantsMost_24 (by decide) (by have hw1' := hw1 (by omega); have hw2' := hw2 (by omega); omega) (by have hw1' := hw1 (by omega); have hw2' := hw2 (by omega); omega) (fun h_2 => ?_) (fun h_2 => ?_)
      · refine g_iinc C hn dX7_wantsMost_29 (p := 3) rfl rfl rfl ?_
        refine g_goto C (tgt := 4) dX7_wantsMost_32 (by decide) ?_
        refine g_sub [1, 2, 3, 0] rfl ?_
        exact ihi (by omega) _ _ (by first | rfl | omega | (simp only [wmC]; (repeat' split) <;> first | rfl | omega)) (by first | rfl | omega | (simp only [wmC]; (repeat' split) <;> first | rfl | omega))
      · refine g_iload_n C dX7_wantsMost_27 (p := 3) (hi := rfl) (hv := rfl) ?_
        refine g_istore_n C hn dX7_wantsMost_28 rfl rfl rfl ?_
        refine g_iinc C hn dX7_wantsMost_29 (p := 3) rfl rfl rfl ?_
        refine g_goto C (tgt := 4) dX7_wantsMost_32 (by decide) ?_
        refine g_sub [2, 3, 1, 0] rfl ?_
        exact ihi (by omega) _ _ (by first | rfl | omega | (simp only [wmC]; (repeat' split) <;> first | rfl | omega)) (by first | rfl | omega | (simp only [wmC]; (repeat' split) <;> first | rfl | omega))
  refine g_sub [2, 3, 1, 0] rfl ?_
  exact L4 1 (by omega) _ _ (by simp [wmC]) (by first | rfl | omega | simp)
set_option maxHeartbeats 4000000 in
set_option maxRecDepth 100000 in
theorem kX3_gainBy {l : Launch} {K : Nat → ClassId} {D : va_G} {ad : Int → Nat} {E : gEnv} {σ : Mem} {self s : Int} (hap : Apart ad 60) (hE : gEok E) (hsl : self = 12 ∨ self = 17) (rs : R3 s) (rl : R3 (σ self 1)) : CtI l K D ad 60 (cfC ad K) E yX3_gainBy cX3_gainBy 2 (some .int) 0 [.ref (ad self), .int (iI s)] σ (gbC (σ self 1) (σ self 2) (σ self 3) (σ self 4) s) σ := by
  refine ctI_of hap hE (by decide) rfl .int (nar_i _) (fun M C hn hret => ?_)
  have C : Good l K D ad 60 E 0 cX3_gainBy RX3 M := C
  show G M ad 60 (cfC ad K) 0 [(0, .ref (ad self)), (1, .int (iI s))] [] σ
  refine g_iload_n C dX3_gainBy_0 (p := 1) (hi := rfl) (hv := rfl) ?_
  refine g_aload_n C dX3_gainBy_1 (p := 0) (hi := rfl) (hv := rfl) ?_
  refine gc_g_X3_lowest C (by omega) dX3_gainBy_2 wf_X3_13 ?_
  refine g_icmp_ge C (tgt := 13) dX3_gainBy_5 (by decide) (by omega) (by omega) (fun h_1 => ?_) (fun h_1 => ?_)
  · refine g_iload_n C dX3_gainBy_13 (p := 1) (hi := rfl) (hv := rfl) ?_
    refine g_aload_n C dX3_gainBy_14 (p := 0) (hi := rfl) (hv := rfl) ?_
    refine gc_g_X3_lowest C (by omega) dX3_gainBy_15 wf_X3_13 ?_
    refine g_icmp_le C (tgt := 28) dX3_gainBy_18 (by decide) (by omega) (by omega) (fun h_2 => ?_) (fun h_2 => ?_)
    · refine g_aload_n C dX3_gainBy_28 (p := 0) (hi := rfl) (hv := rfl) ?_
      refine gc_g_X3_shared C (by omega) dX3_gainBy_29 wf_X3_42 ?_
      exact hret _ _ _ _ dX3_gainBy_32 (by first | rfl | omega | (unfold gbC; (repeat' split) <;> first | (exfalso; omega) | rfl | exact mu_mu | omega)) (by first | rfl | omega | (unfold gbC; (repeat' split) <;> first | (exfalso; omega) | rfl | exact mu_mu | omega))
    · refine g_aload_n C dX3_gainBy_21 (p := 0) (hi := rfl) (hv := rfl) ?_
      refine gc_g_X3_above C (by omega) dX3_gainBy_22 wf_X3_45 ?_
      refine g_goto C (tgt := 32) dX3_gainBy_25 (by decide) ?_
      exact hret _ _ _ _ dX3_gainBy_32 (by first | rfl | omega | (unfold gbC; (repeat' split) <;> first | (exfalso; omega) | rfl | exact mu_mu | omega)) (by first | rfl | omega | (unfold gbC; (repeat' split) <;> first | (exfalso; omega) | rfl | exact mu_mu | omega))
  · refine g_aload_n C dX3_gainBy_8 (p := 0) (hi := rfl) (hv := rfl) ?_
    refine gc_g_X3_below C (by omega) dX3_gainBy_9 wf_X3_39 ?_
    exact hret _ _ _ _ dX3_gainBy_12 (by first | rfl | omega | (unfold gbC; (repeat' split) <;> first | (exfalso; omega) | rfl | exact mu_mu | omega)) (by first | rfl | omega | (unfold gbC; (repeat' split) <;> first | (exfalso; omega) | rfl | exact mu_mu | omega))
set_option maxHeartbeats 4000000 in
set_option maxRecDepth 100000 in
theorem kX6_next {l : Launch} {K : Nat → ClassId} {D : va_G} {ad : Int → Nat} {E : gEnv} {σ : Mem} {self w : Int} (hap : Apart ad 60) (hE : gEok E) (hsl : self = 10 ∨ self = 15) (hp : 0 ≤ σ self 0 ∧ σ self 0 ≤ 4) (hs : ∀ j, 0 ≤ j → j < σ self 0 → 0 ≤ σ (self + 1) j ∧ σ (self + 1) j ≤ 5) (rw : R3 w) : CtI l K D ad 60 (cfC ad K) E yX6_next cX6_next 2 (some .int) 1 [.ref (ad self), .int (iI w)] σ (if 1 < σ self 0 then loC (σ (self + 1)) w (σ self 0).toNat else 0) σ := by
  refine ctI_of hap hE (by decide) rfl .int (nar_i _) (fun M C hn hret => ?_)
  have C : Good l K D ad 60 E 1 cX6_next RX6 M := C
  show G M ad 60 (cfC ad K) 0 [(0, .ref (ad self)), (1, .int (iI w))] [] σ
  refine g_aload_n C dX6_next_0 (p := 0) (hi := rfl) (hv := rfl) ?_
  refine gc_g_X6_people C (by omega) dX6_next_1 wf_X6_15 ?_
  refine g_iconst C dX6_next_4 ?_
  refine g_icmp_le C (tgt := 16) dX6_next_5 (by decide) (by omega) (by omega) (fun h_1 => ?_) (fun h_1 => ?_)
  · refine g_iconst C dX6_next_16 ?_
    exact hret _ _ _ _ dX6_next_17 (by first | rfl | omega | ((repeat' split) <;> first | (exfalso; omega) | rfl | exact mu_mu | omega)) (by first | rfl | omega | ((repeat' split) <;> first | (exfalso; omega) | rfl | exact mu_mu | omega))
  · refine g_aload_n C dX6_next_8 (p := 0) (hi := rfl) (hv := rfl) ?_
    refine g_iload_n C dX6_next_9 (p := 1) (hi := rfl) (hv := rfl) ?_
    refine gc_call_X6 C dX6_next_10 (kX6_lowest (σ := σ) (but := w) (self := self) hap hE (by first | assumption | omega | exact hsl | exact hp | exact hs | exact rw) (by first | assumption | omega | exact hsl | exact hp | exact hs | exact rw) (by first | assumption | omega | exact hsl | exact hp | exact hs | exact rw) (by first | assumption | omega | exact hsl | exact hp | exact hs | exact rw)) mw_X6_lowest wl_X6_30 (by decide) (by decide) (by omega) rfl rfl (by simp [Value.category]) ?_
    refine g_goto C (tgt := 17) dX6_next_13 (by decide) ?_
    exact hret _ _ _ _ dX6_next_17 (by first | rfl | omega | ((repeat' split) <;> first | (exfalso; omega) | rfl | exact mu_mu | omega)) (by first | rfl | omega | ((repeat' split) <;> first | (exfalso; omega) | rfl | exact mu_mu | omega))
set_option maxHeartbeats 4000000 in
set_option maxRecDepth 100000 in
theorem kX6_sayTold {l : Launch} {K : Nat → ClassId} {D : va_G} {ad : Int → Nat} {E : gEnv} {σ : Mem} {self a n : Int} (hap : Apart ad 60) (hE : gEok E) (hsl : self = 10 ∨ self = 15) (ha : 52 ≤ a ∧ a < 60) (hn4 : 0 ≤ n ∧ n ≤ 4) : CtV l K D ad 60 (cfC ad K) E yX6_sayTold cX6_sayTold 3 none 1 [.ref (ad self), .ref (ad a), .int (iI n)] σ (mr (mu σ self 0 n) (self + 1) (cpy (σ a) (σ (self + 1)) 0 0 n)) := by
  refine ctV_of hap hE (by decide) rfl (fun M C hn hret => ?_)
  have C : Good l K D ad 60 E 1 cX6_sayTold RX6 M := C
  show G M ad 60 (cfC ad K) 0 [(0, .ref (ad self)), (1, .ref (ad a)), (2, .int (iI n))] [] σ
  refine g_aload_n C dX6_sayTold_0 (p := 0) (hi := rfl) (hv := rfl) ?_
  refine g_iload_n C dX6_sayTold_1 (p := 2) (hi := rfl) (hv := rfl) ?_
  refine gc_p_X6_people C (by omega) dX6_sayTold_2 wf_X6_15 ?_
  refine g_aload_n C dX6_sayTold_5 (p := 1) (hi := rfl) (hv := rfl) ?_
  refine g_iconst C dX6_sayTold_6 ?_
  refine g_aload_n C dX6_sayTold_7 (p := 0) (hi := rfl) (hv := rfl) ?_
  refine gc_g_X6_said C (by omega) dX6_sayTold_8 wf_X6_9 ?_
  refine g_iconst C dX6_sayTold_11 ?_
  refine g_iload_n C dX6_sayTold_12 (p := 2) (hi := rfl) (hv := rfl) ?_
  refine g_copy C (q0 := a) (q1 := (self + 1)) (sp := 0) (dp := 0) (n := n) wl_X6_19 dX6_sayTold_13 ⟨by omega, by omega⟩ ⟨by omega, by omega⟩ (fun _ => cfC_items (by omega)) (fun _ => cfC_said (by omega)) (by omega) (by omega) (by omega) (by omega) (by omega) (by omega) (by omega) (by omega) (by simp [Value.category]) (by decide) ?_
  refine g_eq (σ' := (mr (mu σ self 0 n) (self + 1) (cpy (σ a) (σ (self + 1)) 0 0 n))) rfl rfl rfl (by rw [show ((mu σ self 0 n) a) = (σ a) from by funext x; first | rfl | (simp only [mu_app, mr_app, ru, over, and_self, ↓reduceIte]; (repeat (first | rw [if_neg (by omega)] | rw [if_pos (by omega)]))), show ((mu σ self 0 n) (self + 1)) = (σ (self + 1)) from by funext x; first | rfl | (simp only [mu_app, mr_app, ru, over, and_self, ↓reduceIte]; (repeat (first | rw [if_neg (by omega)] | rw [if_pos (by omega)])))]) ?_
  exact hret _ _ _ dX6_sayTold_16 (by rfl)
set_option maxHeartbeats 4000000 in
set_option maxRecDepth 100000 in
theorem kX6_sayOwn {l : Launch} {K : Nat → ClassId} {D : va_G} {ad : Int → Nat} {E : gEnv} {σ : Mem} {self a t : Int} (hap : Apart ad 60) (hE : gEok E) (hsl : self = 10 ∨ self = 15) (hal : 20 ≤ a ∧ a < 24) (hT : TC σ a) (htt : 0 ≤ t ∧ t < 5) : CtV l K D ad 60 (cfC ad K) E yX6_sayOwn cX6_sayOwn 4 none 2 [.ref (ad self), .ref (ad a), .int (iI t)] σ (mr (mu σ self 0 (σ a 2)) (self + 1) (over (σ (self + 1)) (fun p => owC (σ (a + 4) p) (woC (σ (a + 12)) (σ (a + 20)) t p)) 0 (σ a 2))) := by
  have hp : 0 ≤ σ a 2 ∧ σ a 2 ≤ 4 := hT.2.2.1
  refine ctV_of hap hE (by decide) rfl (fun M C hn hret => ?_)
  have C : Good l K D ad 60 E 2 cX6_sayOwn RX6 M := C
  show G M ad 60 (cfC ad K) 0 [(0, .ref (ad self)), (1, .ref (ad a)), (2, .int (iI t))] [] σ
  refine g_aload_n C dX6_sayOwn_0 (p := 0) (hi := rfl) (hv := rfl) ?_
  refine g_aload_n C dX6_sayOwn_1 (p := 1) (hi := rfl) (hv := rfl) ?_
  refine gc_g_X7_people C (by omega) dX6_sayOwn_2 wf_X6_25 ?_
  refine gc_p_X6_people C (by omega) dX6_sayOwn_5 wf_X6_15 ?_
  refine g_iconst C dX6_sayOwn_8 ?_
  refine g_istore_n C hn dX6_sayOwn_9 rfl rfl rfl ?_
  have L10 : ∀ i : Nat, i ≤ ((σ a 2).toNat) → ∀ (x3 : Int), ∀ (τ10 : Mem), x3 = (i : Int) → τ10 = (mr (mu σ self 0 (σ a 2)) (self + 1) (over (σ (self + 1)) (fun p => owC (σ (a + 4) p) (woC (σ (a + 12)) (σ (a + 20)) t p)) 0 (i : Int))) → G M ad 60 (cfC ad K) 10 [(0, .ref (ad self)), (1, .ref (ad a)), (2, .int (iI t)), (3, .int (iI x3))] [] τ10 := by
    refine loopUp ((σ a 2).toNat) ?_
    rintro i hi ihi x3 τ10 rfl rfl
    refine g_iload_n C dX6_sayOwn_10 (p := 3) (hi := rfl) (hv := rfl) ?_
    refine g_aload_n C dX6_sayOwn_11 (p := 0) (hi := rfl) (hv := rfl) ?_
    refine gc_g_X6_people C (by omega) dX6_sayOwn_12 wf_X6_15 ?_
    refine g_cI (b := (σ a 2)) (by first | rfl | (simp only [mu_app, mr_app, ru, over, and_self, ↓reduceIte]; (repeat (first | rw [if_neg (by omega)] | rw [if_pos (by omega)])))) ?_
    refine g_icmp_ge C (tgt := 36) dX6_sayOwn_15 (by decide) (by omega) (by omega) (fun h_1 => ?_) (fun h_1 => ?_)
    · have hiN : i = ((σ a 2).toNat) := by omega
      exact hret _ _ _ dX6_sayOwn_36 (by (try subst hiN); rw [show ((σ a 2).toNat : Int) = σ a 2 by omega])
    · refine g_aload_n C dX6_sayOwn_18 (p := 0) (hi := rfl) (hv := rfl) ?_
      refine gc_g_X6_said C (by omega) dX6_sayOwn_19 wf_X6_9 ?_
      refine g_iload_n C dX6_sayOwn_22 (p := 3) (hi := rfl) (hv := rfl) ?_
      refine g_aload_n C dX6_sayOwn_23 (p := 1) (hi := rfl) (hv := rfl) ?_
      refine g_iload_n C dX6_sayOwn_24 (p := 2) (hi := rfl) (hv := rfl) ?_
      refine g_iload_n C dX6_sayOwn_25 (p := 3) (hi := rfl) (hv := rfl) ?_
      refine gc_call_X7 C dX6_sayOwn_26 (kX7_ownSaying (σ := (mr (mu σ self 0 (σ a 2)) (self + 1) (over (σ (self + 1)) (fun p => owC (σ (a + 4) p) (woC (σ (a + 12)) (σ (a + 20)) t p)) 0 (i : Int)))) (t := t) (p := (i : Int)) (self := a) hap hE (by first | assumption | omega | exact hsl | exact hal | exact hT | exact htt | exact TC_of hT (by funext x; first | rfl | (simp only [mu_app, mr_app, ru, over, and_self, ↓reduceIte]; (repeat (first | rw [if_neg (by omega)] | rw [if_pos (by omega)])))) (by funext x; first | rfl | (simp only [mu_app, mr_app, ru, over, and_self, ↓reduceIte]; (repeat (first | rw [if_neg (by omega)] | rw [if_pos (by omega)])))) (by funext x; first | rfl | (simp only [mu_app, mr_app, ru, over, and_self, ↓reduceIte]; (repeat (first | rw [if_neg (by omega)] | rw [if_pos (by omega)])))) (by funext x; first | rfl | (simp only [mu_app, mr_app, ru, over, and_self, ↓reduceIte]; (repeat (first | rw [if_neg (by omega)] | rw [if_pos (by omega)]))))) (by (try simp only [show (mr (mu σ self 0 (σ a 2)) (self + 1) (over (σ (self + 1)) (fun p => owC (σ (a + 4) p) (woC (σ (a + 12)) (σ (a + 20)) t p)) 0 (i : Int))) a = (σ a) from by funext x; first | rfl | (simp only [mu_app, mr_app, ru, over, and_self, ↓reduceIte]; (repeat (first | rw [if_neg (by omega)] | rw [if_pos (by omega)])))]); first | assumption | omega | exact hsl | exact hal | exact hT | exact htt | exact TC_of hT (by funext x; first | rfl | (simp only [mu_app, mr_app, ru, over, and_self, ↓reduceIte]; (repeat (first | rw [if_neg (by omega)] | rw [if_pos (by omega)])))) (by funext x; first | rfl | (simp only [mu_app, mr_app, ru, over, and_self, ↓reduceIte]; (repeat (first | rw [if_neg (by omega)] | rw [if_pos (by omega)])))) (by funext x; first | rfl | (simp only [mu_app, mr_app, ru, over, and_self, ↓reduceIte]; (repeat (first | rw [if_neg (by omega)] | rw [if_pos (by omega)])))) (by funext x; first | rfl | (simp only [mu_app, mr_app, ru, over, and_self, ↓reduceIte]; (repeat (first | rw [if_neg (by omega)] | rw [if_pos (by omega)]))))) (by first | assumption | omega | exact hsl | exact hal | exact hT | exact htt | exact TC_of hT (by funext x; first | rfl | (simp only [mu_app, mr_app, ru, over, and_self, ↓reduceIte]; (repeat (first | rw [if_neg (by omega)] | rw [if_pos (by omega)])))) (by funext x; first | rfl | (simp only [mu_app, mr_app, ru, over, and_self, ↓reduceIte]; (repeat (first | rw [if_neg (by omega)] | rw [if_pos (by omega)])))) (by funext x; first | rfl | (simp only [mu_app, mr_app, ru, over, and_self, ↓reduceIte]; (repeat (first | rw [if_neg (by omega)] | rw [if_pos (by omega)])))) (by funext x; first | rfl | (simp only [mu_app, mr_app, ru, over, and_self, ↓reduceIte]; (repeat (first | rw [if_neg (by omega)] | rw [if_pos (by omega)]))))) (by first | assumption | omega | exact hsl | exact hal | exact hT | exact htt | exact TC_of hT (by funext x; first | rfl | (simp only [mu_app, mr_app, ru, over, and_self, ↓reduceIte]; (repeat (first | rw [if_neg (by omega)] | rw [if_pos (by omega)])))) (by funext x; first | rfl | (simp only [mu_app, mr_app, ru, over, and_self, ↓reduceIte]; (repeat (first | rw [if_neg (by omega)] | rw [if_pos (by omega)])))) (by funext x; first | rfl | (simp only [mu_app, mr_app, ru, over, and_self, ↓reduceIte]; (repeat (first | rw [if_neg (by omega)] | rw [if_pos (by omega)])))) (by funext x; first | rfl | (simp only [mu_app, mr_app, ru, over, and_self, ↓reduceIte]; (repeat (first | rw [if_neg (by omega)] | rw [if_pos (by omega)])))))) mw_X7_ownSaying wl_X6_26 (by decide) (by decide) (by omega) rfl rfl (by simp [Value.category]) ?_
      refine g_cI (b := (owC ((σ (a + 4)) (i : Int)) (woC ((σ (a + 12))) ((σ (a + 20))) t (i : Int)))) (by rw [show (mr (mu σ self 0 (σ a 2)) (self + 1) (over (σ (self + 1)) (fun p => owC (σ (a + 4) p) (woC (σ (a + 12)) (σ (a + 20)) t p)) 0 (i : Int))) (a + 4) = (σ (a + 4)) from by funext x; first | rfl | (simp only [mu_app, mr_app, ru, over, and_self, ↓reduceIte]; (repeat (first | rw [if_neg (by omega)] | rw [if_pos (by omega)]))), show (mr (mu σ self 0 (σ a 2)) (self + 1) (over (σ (self + 1)) (fun p => owC (σ (a + 4) p) (woC (σ (a + 12)) (σ (a + 20)) t p)) 0 (i : Int))) (a + 12) = (σ (a + 12)) from by funext x; first | rfl | (simp only [mu_app, mr_app, ru, over, and_self, ↓reduceIte]; (repeat (first | rw [if_neg (by omega)] | rw [if_pos (by omega)]))), show (mr (mu σ self 0 (σ a 2)) (self + 1) (over (σ (self + 1)) (fun p => owC (σ (a + 4) p) (woC (σ (a + 12)) (σ (a + 20)) t p)) 0 (i : Int))) (a + 20) = (σ (a + 20)) from by funext x; first | rfl | (simp only [mu_app, mr_app, ru, over, and_self, ↓reduceIte]; (repeat (first | rw [if_neg (by omega)] | rw [if_pos (by omega)])))]) ?_
      refine gc_s_said C (by omega) dX6_sayOwn_29 (by omega) (by omega) ?_
      refine g_iinc C hn dX6_sayOwn_30 (p := 3) rfl rfl rfl ?_
      refine g_goto C (tgt := 10) dX6_sayOwn_33 (by decide) ?_
      refine g_sub [1, 2, 3, 0] rfl ?_
      exact ihi (by omega) _ _ (by first | rfl | omega) (by exact over_step (by omega) (by omega) rfl)
  refine g_sub [1, 2, 3, 0] rfl ?_
  exact L10 0 (Nat.zero_le _) _ _ (by first | rfl | omega | simp) (by exact (mr_self ((over_0 (by omega)).trans (by funext x; first | rfl | (simp only [mu_app, mr_app]; (repeat rw [if_neg (by omega)]))))).symm)

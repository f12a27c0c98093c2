set_option maxHeartbeats 4000000 in
set_option maxRecDepth 100000 in
theorem kX7_worthOf {l : Launch} {K : Nat → ClassId} {D : va_G} {ad : Int → Nat} {E : gEnv} {σ : Mem} {self t p : Int} (hap : Apart ad 60) (hE : gEok E) (hsl : 20 ≤ self ∧ self < 24) (htt : 0 ≤ t ∧ t < 5) (hpp : 0 ≤ p ∧ p < 4) : CtI l K D ad 60 (cfC ad K) E yX7_worthOf cX7_worthOf 3 (some .int) 0 [.ref (ad self), .int (iI t), .int (iI p)] σ (woC (σ (self + 12)) (σ (self + 20)) t p) σ := by
  refine ctI_of hap hE (by decide) rfl .int (nar_i _) (fun M C hn hret => ?_)
  have C : Good l K D ad 60 E 0 cX7_worthOf RX7 M := C
  show G M ad 60 (cfC ad K) 0 [(0, .ref (ad self)), (1, .int (iI t)), (2, .int (iI p))] [] σ
  refine g_aload_n C dX7_worthOf_0 (p := 0) (hi := rfl) (hv := rfl) ?_
  refine gc_g_X7_told C (by omega) dX7_worthOf_1 wf_X7_18 ?_
  refine g_iload_n C dX7_worthOf_4 (p := 1) (hi := rfl) (hv := rfl) ?_
  refine g_iconst C dX7_worthOf_5 ?_
  refine g_imul C dX7_worthOf_6 ?_
  refine g_iload_n C dX7_worthOf_7 (p := 2) (hi := rfl) (hv := rfl) ?_
  refine g_iadd C dX7_worthOf_8 ?_
  refine gc_l_told C (by omega) dX7_worthOf_9 (by omega) (by omega) ?_
  refine g_iconst C dX7_worthOf_10 ?_
  refine g_aload_n C dX7_worthOf_11 (p := 0) (hi := rfl) (hv := rfl) ?_
  refine gc_g_X7_worn C (by omega) dX7_worthOf_12 wf_X7_24 ?_
  refine g_iload_n C dX7_worthOf_15 (p := 1) (hi := rfl) (hv := rfl) ?_
  refine gc_l_worn C (by omega) dX7_worthOf_16 (by omega) (by omega) ?_
  refine g_imul C dX7_worthOf_17 ?_
  refine g_isub C dX7_worthOf_18 ?_
  exact hret _ _ _ _ dX7_worthOf_19 (by first | rfl | omega | (unfold woC; (repeat' split) <;> first | (exfalso; omega) | rfl | exact mu_mu | omega)) (by first | rfl | omega | (unfold woC; (repeat' split) <;> first | (exfalso; omega) | rfl | exact mu_mu | omega))
set_option maxHeartbeats 4000000 in
set_option maxRecDepth 100000 in
theorem kX7_othersGet {l : Launch} {K : Nat → ClassId} {D : va_G} {ad : Int → Nat} {E : gEnv} {σ : Mem} {self w : Int} (hap : Apart ad 60) (hE : gEok E) (hsl : 20 ≤ self ∧ self < 24) (hw : R3 w) : CtI l K D ad 60 (cfC ad K) E yX7_othersGet cX7_othersGet 2 (some .int) 0 [.ref (ad self), .int (iI w)] σ (ogC w (σ self 1)) σ := by
  refine ctI_of hap hE (by decide) rfl .int (nar_i _) (fun M C hn hret => ?_)
  have C : Good l K D ad 60 E 0 cX7_othersGet RX7 M := C
  show G M ad 60 (cfC ad K) 0 [(0, .ref (ad self)), (1, .int (iI w))] [] σ
  refine g_iload_n C dX7_othersGet_0 (p := 1) (hi := rfl) (hv := rfl) ?_
  refine g_iconst C dX7_othersGet_1 ?_
  refine g_icmp_ne C (tgt := 13) dX7_othersGet_2 (by decide) (by omega) (by omega) (fun h_1 => ?_) (fun h_1 => ?_)
  · refine g_iconst C dX7_othersGet_13 ?_
    exact hret _ _ _ _ dX7_othersGet_14 (by first | rfl | omega | (unfold ogC; (repeat' split) <;> first | (exfalso; omega) | rfl | exact mu_mu | omega)) (by first | rfl | omega | (unfold ogC; (repeat' split) <;> first | (exfalso; omega) | rfl | exact mu_mu | omega))
  · refine g_aload_n C dX7_othersGet_5 (p := 0) (hi := rfl) (hv := rfl) ?_
    refine gc_g_X7_fee C (by omega) dX7_othersGet_6 wf_X7_31 ?_
    refine g_ineg C dX7_othersGet_9 ?_
    refine g_goto C (tgt := 14) dX7_othersGet_10 (by decide) ?_
    exact hret _ _ _ _ dX7_othersGet_14 (by first | rfl | omega | (unfold ogC; (repeat' split) <;> first | (exfalso; omega) | rfl | exact mu_mu | omega)) (by first | rfl | omega | (unfold ogC; (repeat' split) <;> first | (exfalso; omega) | rfl | exact mu_mu | omega))
set_option maxHeartbeats 4000000 in
set_option maxRecDepth 100000 in
theorem kX7_winnerGets {l : Launch} {K : Nat → ClassId} {D : va_G} {ad : Int → Nat} {E : gEnv} {σ : Mem} {self w n : Int} (hap : Apart ad 60) (hE : gEok E) (hsl : 20 ≤ self ∧ self < 24) (hw : R3 w) : CtI l K D ad 60 (cfC ad K) E yX7_winnerGets cX7_winnerGets 3 (some .int) 0 [.ref (ad self), .int (iI w), .int (iI n)] σ (wgC w (σ self 1) (σ self 2) n) σ := by
  refine ctI_of hap hE (by decide) rfl .int (nar_i _) (fun M C hn hret => ?_)
  have C : Good l K D ad 60 E 0 cX7_winnerGets RX7 M := C
  show G M ad 60 (cfC ad K) 0 [(0, .ref (ad self)), (1, .int (iI w)), (2, .int (iI n))] [] σ
  refine g_iload_n C dX7_winnerGets_0 (p := 1) (hi := rfl) (hv := rfl) ?_
  rcases (show w = 1 ∨ w = 2 ∨ w = 3 ∨ (w < 1 ∨ 3 < w) from by omega) with h_1 | h_1 | h_1 | h_1
  · refine g_swIn C 1 (tgt := 28) dX7_winnerGets_1 (by omega) h_1 (by decide) (by decide) rfl (by decide) ?_
    refine g_aload_n C dX7_winnerGets_28 (p := 0) (hi := rfl) (hv := rfl) ?_
    refine gc_g_X7_fee C (by omega) dX7_winnerGets_29 wf_X7_31 ?_
    refine g_ineg C dX7_winnerGets_32 ?_
    refine g_iload_n C dX7_winnerGets_33 (p := 2) (hi := rfl) (hv := rfl) ?_
    refine g_imul C dX7_winnerGets_34 ?_
    exact hret _ _ _ _ dX7_winnerGets_35 (by first | rfl | omega | (unfold wgC; (repeat' split) <;> first | (exfalso; omega) | rfl | exact mu_mu | omega)) (by first | rfl | omega | (unfold wgC; (repeat' split) <;> first | (exfalso; omega) | rfl | exact mu_mu | omega))
  · refine g_swIn C 2 (tgt := 36) dX7_winnerGets_1 (by omega) h_1 (by decide) (by decide) rfl (by decide) ?_
    refine g_aload_n C dX7_winnerGets_36 (p := 0) (hi := rfl) (hv := rfl) ?_
    refine gc_g_X7_fee C (by omega) dX7_winnerGets_37 wf_X7_31 ?_
    refine g_iload_n C dX7_winnerGets_40 (p := 2) (hi := rfl) (hv := rfl) ?_
    refine g_imul C dX7_winnerGets_41 ?_
    exact hret _ _ _ _ dX7_winnerGets_42 (by first | rfl | omega | (unfold wgC; (repeat' split) <;> first | (exfalso; omega) | rfl | exact mu_mu | omega)) (by first | rfl | omega | (unfold wgC; (repeat' split) <;> first | (exfalso; omega) | rfl | exact mu_mu | omega))
  · refine g_swIn C 3 (tgt := 43) dX7_winnerGets_1 (by omega) h_1 (by decide) (by decide) rfl (by decide) ?_
    refine g_aload_n C dX7_winnerGets_43 (p := 0) (hi := rfl) (hv := rfl) ?_
    refine gc_g_X7_fee C (by omega) dX7_winnerGets_44 wf_X7_31 ?_
    refine g_aload_n C dX7_winnerGets_47 (p := 0) (hi := rfl) (hv := rfl) ?_
    refine gc_g_X7_people C (by omega) dX7_winnerGets_48 wf_X7_34 ?_
    refine g_iconst C dX7_winnerGets_51 ?_
    refine g_isub C dX7_winnerGets_52 ?_
    refine g_imul C dX7_winnerGets_53 ?_
    exact hret _ _ _ _ dX7_winnerGets_54 (by first | rfl | omega | (unfold wgC; (repeat' split) <;> first | (exfalso; omega) | rfl | exact mu_mu | omega)) (by first | rfl | omega | (unfold wgC; (repeat' split) <;> first | (exfalso; omega) | rfl | exact mu_mu | omega))
  · refine g_swOut C (tgt := 55) dX7_winnerGets_1 (by omega) h_1 (by decide) ?_
    refine g_iconst C dX7_winnerGets_55 ?_
    exact hret _ _ _ _ dX7_winnerGets_56 (by first | rfl | omega | (unfold wgC; (repeat' split) <;> first | (exfalso; omega) | rfl | exact mu_mu | omega)) (by first | rfl | omega | (unfold wgC; (repeat' split) <;> first | (exfalso; omega) | rfl | exact mu_mu | omega))
set_option maxHeartbeats 4000000 in
set_option maxRecDepth 100000 in
theorem kX7_ownSaying {l : Launch} {K : Nat → ClassId} {D : va_G} {ad : Int → Nat} {E : gEnv} {σ : Mem} {self t p : Int} (hap : Apart ad 60) (hE : gEok E) (hsl : 20 ≤ self ∧ self < 24) (hT : TC σ self) (htt : 0 ≤ t ∧ t < 5) (hpp : 0 ≤ p ∧ p < 4) : CtI l K D ad 60 (cfC ad K) E yX7_ownSaying cX7_ownSaying 4 (some .int) 1 [.ref (ad self), .int (iI t), .int (iI p)] σ (owC (σ (self + 4) p) (woC (σ (self + 12)) (σ (self + 20)) t p)) σ := by
  have hw := woC_in hT htt hpp
  have hk := hT.2.2.2.2.1 p hpp.1 hpp.2
  have hcl : ∀ x : Int, clF x = if x < 0 then 0 else if 5 < x then 5 else x := fun _ => rfl
  have hr3 := tdiv_R3 (a := 30 + woC (σ (self + 12)) (σ (self + 20)) t p) (b := 10) (by omega) (by omega)
  refine ctI_of hap hE (by decide) rfl .int (nar_i _) (fun M C hn hret => ?_)
  have C : Good l K D ad 60 E 1 cX7_ownSaying RX7 M := C
  show G M ad 60 (cfC ad K) 0 [(0, .ref (ad self)), (1, .int (iI t)), (2, .int (iI p))] [] σ
  refine g_iconst C dX7_ownSaying_0 ?_
  refine g_iconst C dX7_ownSaying_1 ?_
  refine (g_bipush C dX7_ownSaying_2 (by decide)) ?_
  refine g_aload_n C dX7_ownSaying_4 (p := 0) (hi := rfl) (hv := rfl) ?_
  refine g_iload_n C dX7_ownSaying_5 (p := 1) (hi := rfl) (hv := rfl) ?_
  refine g_iload_n C dX7_ownSaying_6 (p := 2) (hi := rfl) (hv := rfl) ?_
  refine gc_call_X7 C dX7_ownSaying_7 (kX7_worthOf (σ := σ) (t := t) (p := p) (self := self) hap hE (by first | assumption | omega | exact hsl | exact hT | exact htt | exact hpp) (by first | assumption | omega | exact hsl | exact hT | exact htt | exact hpp) (by first | assumption | omega | exact hsl | exact hT | exact htt | exact hpp)) mw_X7_worthOf wl_X7_49 (by decide) (by decide) (by omega) rfl rfl (by simp [Value.category]) ?_
  refine g_iadd C dX7_ownSaying_10 ?_
  refine (g_bipush C dX7_ownSaying_11 (by decide)) ?_
  refine g_idiv C (by omega) (by omega) (by omega) dX7_ownSaying_13 ?_
  refine g_mmin C (by omega) (by omega) wl_X7_53 dX7_ownSaying_14 (by decide) (by decide) ?_
  refine g_mmax C (by omega) (by omega) wl_X7_58 dX7_ownSaying_17 (by decide) (by decide) ?_
  refine g_istore_n C hn dX7_ownSaying_20 rfl rfl rfl ?_
  refine g_aload_n C dX7_ownSaying_21 (p := 1) (hi := rfl) (hv := rfl) ?_
  refine gc_g_X7_kinds C (by omega) dX7_ownSaying_22 wf_X7_11 ?_
  refine g_iload_n C dX7_ownSaying_25 (p := 3) (hi := rfl) (hv := rfl) ?_
  refine gc_l_kinds C (by omega) dX7_ownSaying_26 (by omega) (by omega) ?_
  rcases (show σ (self + 4) p = 2 ∨ σ (self + 4) p = 3 ∨ σ (self + 4) p = 4 ∨ σ (self + 4) p = 5 ∨ (σ (self + 4) p < 2 ∨ 5 < σ (self + 4) p) from by omega) with h_1 | h_1 | h_1 | h_1 | h_1
  · refine g_swIn C 2 (tgt := 56) dX7_ownSaying_27 (by omega) h_1 (by decide) (by decide) rfl (by decide) ?_
    refine g_iconst C dX7_ownSaying_56 ?_
    refine g_iload_n C dX7_ownSaying_57 (p := 0) (hi := rfl) (hv := rfl) ?_
    refine g_isub C dX7_ownSaying_58 ?_
    exact hret _ _ _ _ dX7_ownSaying_59 (by unfold owC frC; rw [hcl]; (repeat' split) <;> first | rfl | omega) (by first | rfl | omega | ((repeat' split) <;> first | (exfalso; omega) | rfl | exact mu_mu | omega))
  · refine g_swIn C 3 (tgt := 60) dX7_ownSaying_27 (by omega) h_1 (by decide) (by decide) rfl (by decide) ?_
    refine g_iconst C dX7_ownSaying_60 ?_
    refine g_iload_n C dX7_ownSaying_61 (p := 0) (hi := rfl) (hv := rfl) ?_
    refine g_iconst C dX7_ownSaying_62 ?_
    refine g_isub C dX7_ownSaying_63 ?_
    refine g_mmax C (by omega) (by omega) wl_X7_58 dX7_ownSaying_64 (by decide) (by decide) ?_
    exact hret _ _ _ _ dX7_ownSaying_67 (by unfold owC frC; rw [hcl]; (repeat' split) <;> first | rfl | omega) (by first | rfl | omega | ((repeat' split) <;> first | (exfalso; omega) | rfl | exact mu_mu | omega))
  · refine g_swIn C 4 (tgt := 68) dX7_ownSaying_27 (by omega) h_1 (by decide) (by decide) rfl (by decide) ?_
    refine g_iconst C dX7_ownSaying_68 ?_
    refine g_iload_n C dX7_ownSaying_69 (p := 0) (hi := rfl) (hv := rfl) ?_
    refine g_mmax C (by omega) (by omega) wl_X7_58 dX7_ownSaying_70 (by decide) (by decide) ?_
    exact hret _ _ _ _ dX7_ownSaying_73 (by unfold owC frC; rw [hcl]; (repeat' split) <;> first | rfl | omega) (by first | rfl | omega | ((repeat' split) <;> first | (exfalso; omega) | rfl | exact mu_mu | omega))
  · refine g_swIn C 5 (tgt := 74) dX7_ownSaying_27 (by omega) h_1 (by decide) (by decide) rfl (by decide) ?_
    refine g_iconst C dX7_ownSaying_74 ?_
    exact hret _ _ _ _ dX7_ownSaying_75 (by unfold owC frC; rw [hcl]; (repeat' split) <;> first | rfl | omega) (by first | rfl | omega | ((repeat' split) <;> first | (exfalso; omega) | rfl | exact mu_mu | omega))
  · refine g_swOut C (tgt := 76) dX7_ownSaying_27 (by omega) h_1 (by decide) ?_
    refine g_iload_n C dX7_ownSaying_76 (p := 0) (hi := rfl) (hv := rfl) ?_
    exact hret _ _ _ _ dX7_ownSaying_77 (by unfold owC frC; rw [hcl]; (repeat' split) <;> first | rfl | omega) (by first | rfl | omega | ((repeat' split) <;> first | (exfalso; omega) | rfl | exact mu_mu | omega))
set_option maxHeartbeats 4000000 in
set_option maxRecDepth 100000 in
theorem kX6_lowest {l : Launch} {K : Nat → ClassId} {D : va_G} {ad : Int → Nat} {E : gEnv} {σ : Mem} {self but : Int} (hap : Apart ad 60) (hE : gEok E) (hsl : self = 10 ∨ self = 15) (hp : 0 ≤ σ self 0 ∧ σ self 0 ≤ 4) (hs : ∀ j, 0 ≤ j → j < σ self 0 → 0 ≤ σ (self + 1) j ∧ σ (self + 1) j ≤ 5) (rb : R3 but) : CtI l K D ad 60 (cfC ad K) E yX6_lowest cX6_lowest 4 (some .int) 0 [.ref (ad self), .int (iI but)] σ (loC (σ (self + 1)) but (σ self 0).toNat) σ := by
  refine ctI_of hap hE (by decide) rfl .int (nar_i _) (fun M C hn hret => ?_)
  have C : Good l K D ad 60 E 0 cX6_lowest RX6 M := C
  show G M ad 60 (cfC ad K) 0 [(0, .ref (ad self)), (1, .int (iI but))] [] σ
  refine (g_bipush C dX6_lowest_0 (by decide)) ?_
  refine g_istore_n C hn dX6_lowest_2 rfl rfl rfl ?_
  refine g_iconst C dX6_lowest_3 ?_
  refine g_istore_n C hn dX6_lowest_4 rfl rfl rfl ?_
  have L5 : ∀ i : Nat, i ≤ ((σ self 0).toNat) → ∀ (x2 x3 : Int), x2 = (loC (σ (self + 1)) but i) → x3 = (i : Int) → G M ad 60 (cfC ad K) 5 [(0, .ref (ad self)), (1, .int (iI but)), (2, .int (iI x2)), (3, .int (iI x3))] [] σ := by
    refine loopUp ((σ self 0).toNat) ?_
    rintro i hi ihi x2 x3 rfl rfl
    have hle := loC_in (f := σ (self + 1)) (but := but) i (fun j a b => hs j a (by omega))
    try have hsi := hs (i : Int) (by omega) (by omega)
    refine g_iload_n C dX6_lowest_5 (p := 3) (hi := rfl) (hv := rfl) ?_
    refine g_aload_n C dX6_lowest_6 (p := 0) (hi := rfl) (hv := rfl) ?_
    refine gc_g_X6_people C (by omega) dX6_lowest_7 wf_X6_15 ?_
    refine g_icmp_ge C (tgt := 41) dX6_lowest_10 (by decide) (by omega) (by omega) (fun h_1 => ?_) (fun h_1 => ?_)
    · have hiN : i = ((σ self 0).toNat) := by omega
      refine g_iload_n C dX6_lowest_41 (p := 2) (hi := rfl) (hv := rfl) ?_
      exact hret _ _ _ _ dX6_lowest_42 (by (try subst hiN); first | rfl | omega | ((repeat' split) <;> first | (exfalso; omega) | rfl | exact mu_mu | omega)) (by (try subst hiN); first | rfl | omega | ((repeat' split) <;> first | (exfalso; omega) | rfl | exact mu_mu | omega))
    · refine g_iload_n C dX6_lowest_13 (p := 3) (hi := rfl) (hv := rfl) ?_
      refine g_iload_n C dX6_lowest_14 (p := 1) (hi := rfl) (hv := rfl) ?_
      refine g_icmp_eq C (tgt := 35) dX6_lowest_15 (by decide) (by omega) (by omega) (fun h_2 => ?_) (fun h_2 => ?_)
      · refine g_iinc C hn dX6_lowest_35 (p := 3) rfl rfl rfl ?_
        refine g_goto C (tgt := 5) dX6_lowest_38 (by decide) ?_
        refine g_sub [1, 2, 3, 0] rfl ?_
        exact ihi (by omega) _ _ (by first | rfl | omega | (simp only [loC]; (repeat' split) <;> omega)) (by first | rfl | omega | (simp only [loC]; (repeat' split) <;> omega))
      · refine g_aload_n C dX6_lowest_18 (p := 0) (hi := rfl) (hv := rfl) ?_
        refine gc_g_X6_said C (by omega) dX6_lowest_19 wf_X6_9 ?_
        refine g_iload_n C dX6_lowest_22 (p := 3) (hi := rfl) (hv := rfl) ?_
        refine gc_l_said C (by omega) dX6_lowest_23 (by omega) (by omega) ?_
        refine g_iload_n C dX6_lowest_24 (p := 2) (hi := rfl) (hv := rfl) ?_
        refine g_icmp_ge C (tgt := 35) dX6_lowest_25 (by decide) (by have := hs (i : Int) (by omega) (by omega); omega) (by omega) (fun h_3 => ?_) (fun h_3 => ?_)
        · refine g_iinc C hn dX6_lowest_35 (p := 3) rfl rfl rfl ?_
          refine g_goto C (tgt := 5) dX6_lowest_38 (by decide) ?_
          refine g_sub [1, 2, 3, 0] rfl ?_
          exact ihi (by omega) _ _ (by first | rfl | omega | (simp only [loC]; (repeat' split) <;> omega)) (by first | rfl | omega | (simp only [loC]; (repeat' split) <;> omega))
        · refine g_aload_n C dX6_lowest_28 (p := 0) (hi := rfl) (hv := rfl) ?_
          refine gc_g_X6_said C (by omega) dX6_lowest_29 wf_X6_9 ?_
          refine g_iload_n C dX6_lowest_32 (p := 3) (hi := rfl) (hv := rfl) ?_
          refine gc_l_said C (by omega) dX6_lowest_33 (by omega) (by omega) ?_
          refine g_istore_n C hn dX6_lowest_34 rfl rfl rfl ?_
          refine g_iinc C hn dX6_lowest_35 (p := 3) rfl rfl rfl ?_
          refine g_goto C (tgt := 5) dX6_lowest_38 (by decide) ?_
          refine g_sub [2, 3, 1, 0] rfl ?_
          exact ihi (by omega) _ _ (by first | rfl | omega | (simp only [loC]; (repeat' split) <;> omega)) (by first | rfl | omega | (simp only [loC]; (repeat' split) <;> omega))
  refine g_sub [2, 3, 1, 0] rfl ?_
  exact L5 0 (Nat.zero_le _) _ _ (by first | rfl | omega | simp) (by first | rfl | omega | simp)
set_option maxHeartbeats 4000000 in
set_option maxRecDepth 100000 in
theorem kX6_manyAt {l : Launch} {K : Nat → ClassId} {D : va_G} {ad : Int → Nat} {E : gEnv} {σ : Mem} {self v but : Int} (hap : Apart ad 60) (hE : gEok E) (hsl : self = 10 ∨ self = 15) (hp : 0 ≤ σ self 0 ∧ σ self 0 ≤ 4) (hs : ∀ j, 0 ≤ j → j < σ self 0 → 0 ≤ σ (self + 1) j ∧ σ (self + 1) j ≤ 5) (rv : R3 v) (rb : R3 but) : CtI l K D ad 60 (cfC ad K) E yX6_manyAt cX6_manyAt 5 (some .int) 0 [.ref (ad self), .int (iI v), .int (iI but)] σ (maC (σ (self + 1)) v but (σ self 0).toNat) σ := by
  refine ctI_of hap hE (by decide) rfl .int (nar_i _) (fun M C hn hret => ?_)
  have C : Good l K D ad 60 E 0 cX6_manyAt RX6 M := C
  show G M ad 60 (cfC ad K) 0 [(0, .ref (ad self)), (1, .int (iI v)), (2, .int (iI but))] [] σ
  refine g_iconst C dX6_manyAt_0 ?_
  refine g_istore_n C hn dX6_manyAt_1 rfl rfl rfl ?_
  refine g_iconst C dX6_manyAt_2 ?_
  refine g_istore C hn dX6_manyAt_3 rfl rfl ?_
  have L5 : ∀ i : Nat, i ≤ ((σ self 0).toNat) → ∀ (x3 x4 : Int), x3 = (maC (σ (self + 1)) v but i) → x4 = (i : Int) → G M ad 60 (cfC ad K) 5 [(0, .ref (ad self)), (1, .int (iI v)), (2, .int (iI but)), (3, .int (iI x3)), (4, .int (iI x4))] [] σ := by
    refine loopUp ((σ self 0).toNat) ?_
    rintro i hi ihi x3 x4 rfl rfl
    have hle := maC_in (f := σ (self + 1)) (s := v) (but := but) i
    try have hsi := hs (i : Int) (by omega) (by omega)
    refine g_iload C dX6_manyAt_5 (p := 4) rfl ?_
    refine g_aload_n C dX6_manyAt_7 (p := 0) (hi := rfl) (hv := rfl) ?_
    refine gc_g_X6_people C (by omega) dX6_manyAt_8 wf_X6_15 ?_
    refine g_icmp_ge C (tgt := 40) dX6_manyAt_11 (by decide) (by omega) (by omega) (fun h_1 => ?_) (fun h_1 => ?_)
    · have hiN : i = ((σ self 0).toNat) := by omega
      refine g_iload_n C dX6_manyAt_40 (p := 3) (hi := rfl) (hv := rfl) ?_
      exact hret _ _ _ _ dX6_manyAt_41 (by (try subst hiN); first | rfl | omega | ((repeat' split) <;> first | (exfalso; omega) | rfl | exact mu_mu | omega)) (by (try subst hiN); first | rfl | omega | ((repeat' split) <;> first | (exfalso; omega) | rfl | exact mu_mu | omega))
    · refine g_iload C dX6_manyAt_14 (p := 4) rfl ?_
      refine g_iload_n C dX6_manyAt_16 (p := 2) (hi := rfl) (hv := rfl) ?_
      refine g_icmp_eq C (tgt := 34) dX6_manyAt_17 (by decide) (by omega) (by omega) (fun h_2 => ?_) (fun h_2 => ?_)
      · refine g_iinc C hn dX6_manyAt_34 (p := 4) rfl rfl rfl ?_
        refine g_goto C (tgt := 5) dX6_manyAt_37 (by decide) ?_
        refine g_sub [1, 2, 3, 4, 0] rfl ?_
        exact ihi (by omega) _ _ (by first | rfl | omega | (simp only [maC]; (repeat' split) <;> omega)) (by first | rfl | omega | (simp only [maC]; (repeat' split) <;> omega))
      · refine g_aload_n C dX6_manyAt_20 (p := 0) (hi := rfl) (hv := rfl) ?_
        refine gc_g_X6_said C (by omega) dX6_manyAt_21 wf_X6_9 ?_
        refine g_iload C dX6_manyAt_24 (p := 4) rfl ?_
        refine gc_l_said C (by omega) dX6_manyAt_26 (by omega) (by omega) ?_
        refine g_iload_n C dX6_manyAt_27 (p := 1) (hi := rfl) (hv := rfl) ?_
        refine g_icmp_ne C (tgt := 34) dX6_manyAt_28 (by decide) (by have := hs (i : Int) (by omega) (by omega); omega) (by omega) (fun h_3 => ?_) (fun h_3 => ?_)
        · refine g_iinc C hn dX6_manyAt_34 (p := 4) rfl rfl rfl ?_
          refine g_goto C (tgt := 5) dX6_manyAt_37 (by decide) ?_
          refine g_sub [1, 2, 3, 4, 0] rfl ?_
          exact ihi (by omega) _ _ (by first | rfl | omega | (simp only [maC]; (repeat' split) <;> omega)) (by first | rfl | omega | (simp only [maC]; (repeat' split) <;> omega))
        · refine g_iinc C hn dX6_manyAt_31 (p := 3) rfl rfl rfl ?_
          refine g_iinc C hn dX6_manyAt_34 (p := 4) rfl rfl rfl ?_
          refine g_goto C (tgt := 5) dX6_manyAt_37 (by decide) ?_
          refine g_sub [2, 3, 4, 1, 0] rfl ?_
          exact ihi (by omega) _ _ (by first | rfl | omega | (simp only [maC]; (repeat' split) <;> omega)) (by first | rfl | omega | (simp only [maC]; (repeat' split) <;> omega))
  refine g_sub [2, 3, 4, 1, 0] rfl ?_
  exact L5 0 (Nat.zero_le _) _ _ (by first | rfl | omega | simp) (by first | rfl | omega | simp)

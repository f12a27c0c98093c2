set_option maxHeartbeats 4000000 in
set_option maxRecDepth 100000 in
theorem kX4_append {l : Launch} {K : Nat → ClassId} {D : va_G} {ad : Int → Nat} {E : gEnv} {σ : Mem} {w n : Int} (hap : Apart ad 60) (hE : gEok E) (h31 : 0 ≤ σ 3 1 ∧ σ 3 1 + n ≤ 400) (hn : 1 ≤ n ∧ n ≤ 8) : CtV l K D ad 60 (cfC ad K) E yX4_append cX4_append 5 none 0 [.ref (ad 3), .long (lI w), .int (iI n)] σ (mu (mr σ 4 (over (σ 4) (fun k => bytC w (n - 1 - (k - σ 3 1))) (σ 3 1) (σ 3 1 + n))) 3 1 (σ 3 1 + n)) := by
  refine ctV_of hap hE (by decide) rfl (fun M C hn hret => ?_)
  have C : Good l K D ad 60 E 0 cX4_append RX4 M := C
  show G M ad 60 (cfC ad K) 0 [(0, .ref (ad 3)), (1, .long (lI w)), (3, .int (iI n))] [] σ
  refine g_iload_n C dX4_append_0 (p := 2) (hi := rfl) (hv := rfl) ?_
  refine g_iconst C dX4_append_1 ?_
  refine g_isub C dX4_append_2 ?_
  refine g_istore C hn dX4_append_3 rfl rfl ?_
  have L5 : ∀ i : Nat, i ≤ n.toNat → ∀ (x4 : Int), ∀ (τ5 : Mem), x4 = (n - 1 - (i : Int)) → τ5 = (mu (mr σ 4 (over (σ 4) (fun k => bytC w (n - 1 - (k - σ 3 1))) (σ 3 1) (σ 3 1 + (i : Int)))) 3 1 (σ 3 1 + (i : Int))) → G M ad 60 (cfC ad K) 5 [(0, .ref (ad 3)), (1, .long (lI w)), (3, .int (iI n)), (4, .int (iI x4))] [] τ5 := by
    refine loopUp n.toNat ?_
    rintro i hi ihi x4 τ5 rfl rfl
    refine g_iload C dX4_append_5 (p := 3) rfl ?_
    refine g_if_lt C (tgt := 47) dX4_append_7 (by decide) (by omega) (fun h_1 => ?_) (fun h_1 => ?_)
    · have hiN : i = n.toNat := by omega
      exact hret _ _ _ dX4_append_47 (by (try subst hiN); rw [show ((n.toNat : Nat) : Int) = n by omega])
    · refine g_aload_n C dX4_append_10 (p := 0) (hi := rfl) (hv := rfl) ?_
      refine gc_g_X4_tape C dX4_append_11 wf_X4_11 ?_
      refine g_aload_n C dX4_append_14 (p := 0) (hi := rfl) (hv := rfl) ?_
      refine gc_g_X4_fed C dX4_append_15 wf_X4_15 ?_
      refine g_cI (b := (σ 3 1 + (i : Int))) (by first | rfl | (simp only [mu_app, mr_app, ru, over, and_self, ↓reduceIte]; (repeat (first | rw [if_neg (by omega)] | rw [if_pos (by omega)])))) ?_
      refine g_lload_n C dX4_append_18 (p := 1) (hi := rfl) (hv := rfl) ?_
      refine (g_bipush C dX4_append_19 (by decide)) ?_
      refine g_iload C dX4_append_21 (p := 3) rfl ?_
      refine g_imul C dX4_append_23 ?_
      refine g_lshr C dX4_append_24 ?_
      refine g_l2i C dX4_append_25 ?_
      refine (g_sipush C dX4_append_26 (by decide)) ?_
      refine g_iand C dX4_append_29 ?_
      refine gc_s_tape C dX4_append_30 (by omega) (by omega) ?_
      refine g_aload_n C dX4_append_31 (p := 0) (hi := rfl) (hv := rfl) ?_
      refine g_dup C dX4_append_32 rfl ?_
      refine gc_g_X4_fed C dX4_append_33 wf_X4_15 ?_
      refine g_cI (b := (σ 3 1 + (i : Int))) (by first | rfl | (simp only [mu_app, mr_app, ru, over, and_self, ↓reduceIte]; (repeat (first | rw [if_neg (by omega)] | rw [if_pos (by omega)])))) ?_
      refine g_iconst C dX4_append_36 ?_
      refine g_iadd C dX4_append_37 ?_
      refine gc_p_X4_fed C dX4_append_38 wf_X4_15 ?_
      refine g_iinc C hn dX4_append_41 (p := 3) rfl rfl rfl ?_
      refine g_goto C (tgt := 5) dX4_append_44 (by decide) ?_
      refine g_sub [1, 2, 3, 0] rfl ?_
      exact ihi (by omega) _ _ (by first | rfl | omega) (by (funext k_ j_; simp only [mu_app, mr_app, over]; (repeat' split) <;> first | rfl | (exfalso; omega) | omega | (unfold bytC; congr 3; omega) | (unfold bytC; congr 4; omega)))
  refine g_sub [1, 2, 3, 0] rfl ?_
  exact L5 0 (Nat.zero_le _) _ _ (by first | rfl | omega | (congr 2; omega)) (by rw [over_0 (by omega), mr_self rfl, mu_self (by omega)])
set_option maxHeartbeats 4000000 in
set_option maxRecDepth 100000 in
theorem kX4_sortTold {l : Launch} {K : Nat → ClassId} {D : va_G} {ad : Int → Nat} {E : gEnv} {σ : Mem} {P : cP} (hap : Apart ad 60) (hE : gEok E) (hcE : ∀ (A : Nat → Prop) (U : State) (H : Heap), E A U H → cE P A U H) (hrp : RPC σ) : CtI l K D ad 60 (cfC ad K) E yX4_sortTold cX4_sortTold 1 (some .int) 5 [.ref (ad 3)] σ (soT (σ)) σ := by
  have htr := hrp.1
  have hb4 := htr.1
  have h31 := htr.2.1
  have h34 := htr.2.2
  have h33 := hrp.2.1
  have h35 := hrp.2.2.1
  have h352 := hrp.2.2.2
  refine ctI_of hap hE (by decide) rfl .int (nar_i _) (fun M C hn hret => ?_)
  have C : Good l K D ad 60 E 5 cX4_sortTold RX4 M := C
  have hcS := hcE _ _ _ (gd_E C)
  show G M ad 60 (cfC ad K) 0 [(0, .ref (ad 3))] [] σ
  refine g_aload_n C dX4_sortTold_0 (p := 0) (hi := rfl) (hv := rfl) ?_
  refine g_ldcS C (hcS.2.2 2 (by decide)) dX4_sortTold_1 ?_
  refine gc_call_X4 C dX4_sortTold_3 (kX4_isWord (σ := σ) (w := 2) (P := P) hap hE (by first | assumption | omega | exact hrp) (by first | assumption | omega | exact hrp) (by first | assumption | omega | exact hrp)) mw_X4_isWord wl_X4_74 (by decide) (by decide) rfl rfl (by simp [Value.category]) ?_
  refine g_if_eq C (tgt := 11) dX4_sortTold_6 (by decide) (r3_01 isW_01) (fun h_1 => ?_) (fun h_1 => ?_)
  · refine g_aload_n C dX4_sortTold_11 (p := 0) (hi := rfl) (hv := rfl) ?_
    refine g_ldcS C (hcS.2.2 3 (by decide)) dX4_sortTold_12 ?_
    refine gc_call_X4 C dX4_sortTold_14 (kX4_isWord (σ := σ) (w := 3) (P := P) hap hE (by first | assumption | omega | exact hrp) (by first | assumption | omega | exact hrp) (by first | assumption | omega | exact hrp)) mw_X4_isWord wl_X4_74 (by decide) (by decide) rfl rfl (by simp [Value.category]) ?_
    refine g_if_eq C (tgt := 22) dX4_sortTold_17 (by decide) (r3_01 isW_01) (fun h_2 => ?_) (fun h_2 => ?_)
    · refine g_aload_n C dX4_sortTold_22 (p := 0) (hi := rfl) (hv := rfl) ?_
      refine g_ldcS C (hcS.2.2 4 (by decide)) dX4_sortTold_23 ?_
      refine gc_call_X4 C dX4_sortTold_25 (kX4_isWord (σ := σ) (w := 4) (P := P) hap hE (by first | assumption | omega | exact hrp) (by first | assumption | omega | exact hrp) (by first | assumption | omega | exact hrp)) mw_X4_isWord wl_X4_74 (by decide) (by decide) rfl rfl (by simp [Value.category]) ?_
      refine g_if_eq C (tgt := 33) dX4_sortTold_28 (by decide) (r3_01 isW_01) (fun h_3 => ?_) (fun h_3 => ?_)
      · refine g_aload_n C dX4_sortTold_33 (p := 0) (hi := rfl) (hv := rfl) ?_
        refine g_ldcS C (hcS.2.2 5 (by decide)) dX4_sortTold_34 ?_
        refine gc_call_X4 C dX4_sortTold_36 (kX4_isWord (σ := σ) (w := 5) (P := P) hap hE (by first | assumption | omega | exact hrp) (by first | assumption | omega | exact hrp) (by first | assumption | omega | exact hrp)) mw_X4_isWord wl_X4_74 (by decide) (by decide) rfl rfl (by simp [Value.category]) ?_
        refine g_if_eq C (tgt := 44) dX4_sortTold_39 (by decide) (r3_01 isW_01) (fun h_4 => ?_) (fun h_4 => ?_)
        · refine g_aload_n C dX4_sortTold_44 (p := 0) (hi := rfl) (hv := rfl) ?_
          refine g_ldcS C (hcS.2.2 6 (by decide)) dX4_sortTold_45 ?_
          refine gc_call_X4 C dX4_sortTold_47 (kX4_isWord (σ := σ) (w := 6) (P := P) hap hE (by first | assumption | omega | exact hrp) (by first | assumption | omega | exact hrp) (by first | assumption | omega | exact hrp)) mw_X4_isWord wl_X4_74 (by decide) (by decide) rfl rfl (by simp [Value.category]) ?_
          refine g_if_eq C (tgt := 57) dX4_sortTold_50 (by decide) (r3_01 isW_01) (fun h_5 => ?_) (fun h_5 => ?_)
          · refine g_iconst C dX4_sortTold_57 ?_
            exact hret _ _ _ _ dX4_sortTold_58 (by first | rfl | (unfold soT; (repeat (first | rw [if_pos (by first | assumption | omega)] | rw [if_neg (by first | assumption | omega)])); first | done | rfl)) (by first | rfl | (unfold soT; (repeat (first | rw [if_pos (by first | assumption | omega)] | rw [if_neg (by first | assumption | omega)])); first | done | rfl))
          · refine g_iconst C dX4_sortTold_53 ?_
            refine g_goto C (tgt := 58) dX4_sortTold_54 (by decide) ?_
            exact hret _ _ _ _ dX4_sortTold_58 (by first | rfl | (unfold soT; (repeat (first | rw [if_pos (by first | assumption | omega)] | rw [if_neg (by first | assumption | omega)])); first | done | rfl)) (by first | rfl | (unfold soT; (repeat (first | rw [if_pos (by first | assumption | omega)] | rw [if_neg (by first | assumption | omega)])); first | done | rfl))
        · refine g_iconst C dX4_sortTold_42 ?_
          exact hret _ _ _ _ dX4_sortTold_43 (by first | rfl | (unfold soT; (repeat (first | rw [if_pos (by first | assumption | omega)] | rw [if_neg (by first | assumption | omega)])); first | done | rfl)) (by first | rfl | (unfold soT; (repeat (first | rw [if_pos (by first | assumption | omega)] | rw [if_neg (by first | assumption | omega)])); first | done | rfl))
      · refine g_iconst C dX4_sortTold_31 ?_
        exact hret _ _ _ _ dX4_sortTold_32 (by first | rfl | (unfold soT; (repeat (first | rw [if_pos (by first | assumption | omega)] | rw [if_neg (by first | assumption | omega)])); first | done | rfl)) (by first | rfl | (unfold soT; (repeat (first | rw [if_pos (by first | assumption | omega)] | rw [if_neg (by first | assumption | omega)])); first | done | rfl))
    · refine g_iconst C dX4_sortTold_20 ?_
      exact hret _ _ _ _ dX4_sortTold_21 (by first | rfl | (unfold soT; (repeat (first | rw [if_pos (by first | assumption | omega)] | rw [if_neg (by first | assumption | omega)])); first | done | rfl)) (by first | rfl | (unfold soT; (repeat (first | rw [if_pos (by first | assumption | omega)] | rw [if_neg (by first | assumption | omega)])); first | done | rfl))
  · refine g_iconst C dX4_sortTold_9 ?_
    exact hret _ _ _ _ dX4_sortTold_10 (by first | rfl | (unfold soT; (repeat (first | rw [if_pos (by first | assumption | omega)] | rw [if_neg (by first | assumption | omega)])); first | done | rfl)) (by first | rfl | (unfold soT; (repeat (first | rw [if_pos (by first | assumption | omega)] | rw [if_neg (by first | assumption | omega)])); first | done | rfl))
set_option maxHeartbeats 4000000 in
set_option maxRecDepth 100000 in
theorem kX4_passesWord {l : Launch} {K : Nat → ClassId} {D : va_G} {ad : Int → Nat} {E : gEnv} {σ : Mem} {w : Nat} {P : cP} (hap : Apart ad 60) (hE : gEok E) (hcE : ∀ (A : Nat → Prop) (U : State) (H : Heap), E A U H → cE P A U H) (hw : w < 8) (hrp : RPC σ) : CtI l K D ad 60 (cfC ad K) E yX4_passesWord cX4_passesWord 2 (some .boolean) 5 [.ref (ad 3), .ref (P.2.1 w)] σ ((pwS (σ) w).1) ((pwS (σ) w).2) := by
  have htr := hrp.1
  have hb4 := htr.1
  have h31 := htr.2.1
  have h34 := htr.2.2
  have h33 := hrp.2.1
  have h35 := hrp.2.2.1
  have h352 := hrp.2.2.2
  refine ctI_of hap hE (by decide) rfl .boolean (nar_z (by first | simp | exact pwS_01)) (fun M C hn hret => ?_)
  have C : Good l K D ad 60 E 5 cX4_passesWord RX4 M := C
  have hcS := hcE _ _ _ (gd_E C)
  show G M ad 60 (cfC ad K) 0 [(0, .ref (ad 3)), (1, .ref (P.2.1 w))] [] σ
  refine g_aload_n C dX4_passesWord_0 (p := 0) (hi := rfl) (hv := rfl) ?_
  refine g_aload_n C dX4_passesWord_1 (p := 1) (hi := rfl) (hv := rfl) ?_
  refine gc_call_X4 C dX4_passesWord_2 (kX4_isWord (σ := σ) (w := w) (P := P) hap hE (by first | assumption | omega | exact hw | exact hrp) (by first | assumption | omega | exact hw | exact hrp) (by first | assumption | omega | exact hw | exact hrp)) mw_X4_isWord wl_X4_74 (by decide) (by decide) rfl rfl (by simp [Value.category]) ?_
  refine g_if_ne C (tgt := 14) dX4_passesWord_5 (by decide) (r3_01 isW_01) (fun h_1 => ?_) (fun h_1 => ?_)
  · refine g_aload_n C dX4_passesWord_14 (p := 0) (hi := rfl) (hv := rfl) ?_
    refine gc_callv_X4 C dX4_passesWord_15 (kX4_step (σ := σ) hap hE (by first | assumption | omega | exact hw | exact hrp)) mw_X4_step wl_X4_30 (by decide) (by decide) rfl rfl (by simp [Value.category]) ?_
    refine g_iconst C dX4_passesWord_18 ?_
    exact hret _ _ _ _ dX4_passesWord_19 (by first | rfl | (unfold pwS; (repeat (first | rw [if_pos (by first | assumption | omega)] | rw [if_neg (by first | assumption | omega)])); first | done | rfl)) (by first | rfl | (unfold pwS; (repeat (first | rw [if_pos (by first | assumption | omega)] | rw [if_neg (by first | assumption | omega)])); first | done | rfl))
  · refine g_aload_n C dX4_passesWord_8 (p := 0) (hi := rfl) (hv := rfl) ?_
    refine g_iconst C dX4_passesWord_9 ?_
    refine gc_call_X4 C dX4_passesWord_10 (kX4_isWrong (σ := σ) (k := 1) hap hE) mw_X4_isWrong wl_X4_46 (by decide) (by decide) rfl rfl (by simp [Value.category]) ?_
    exact hret _ _ _ _ dX4_passesWord_13 (by first | rfl | (unfold pwS; (repeat (first | rw [if_pos (by first | assumption | omega)] | rw [if_neg (by first | assumption | omega)])); first | done | rfl)) (by first | rfl | (unfold pwS; (repeat (first | rw [if_pos (by first | assumption | omega)] | rw [if_neg (by first | assumption | omega)])); first | done | rfl))
set_option maxHeartbeats 4000000 in
set_option maxRecDepth 100000 in
theorem kX4_passesSign {l : Launch} {K : Nat → ClassId} {D : va_G} {ad : Int → Nat} {E : gEnv} {σ : Mem} (hap : Apart ad 60) (hE : gEok E) (hrp : RPC σ) : CtI l K D ad 60 (cfC ad K) E yX4_passesSign cX4_passesSign 1 (some .boolean) 2 [.ref (ad 3)] σ ((psS (σ)).1) ((psS (σ)).2) := by
  have htr := hrp.1
  have hb4 := htr.1
  have h31 := htr.2.1
  have h34 := htr.2.2
  have h33 := hrp.2.1
  have h35 := hrp.2.2.1
  have h352 := hrp.2.2.2
  refine ctI_of hap hE (by decide) rfl .boolean (nar_z (by first | simp | exact psS_01)) (fun M C hn hret => ?_)
  have C : Good l K D ad 60 E 2 cX4_passesSign RX4 M := C
  show G M ad 60 (cfC ad K) 0 [(0, .ref (ad 3))] [] σ
  refine g_aload_n C dX4_passesSign_0 (p := 0) (hi := rfl) (hv := rfl) ?_
  refine gc_g_X4_token C dX4_passesSign_1 wf_X4_43 ?_
  refine g_iconst C dX4_passesSign_4 ?_
  refine g_icmp_eq C (tgt := 14) dX4_passesSign_5 (by decide) (by omega) (by omega) (fun h_1 => ?_) (fun h_1 => ?_)
  · refine g_aload_n C dX4_passesSign_14 (p := 0) (hi := rfl) (hv := rfl) ?_
    refine gc_callv_X4 C dX4_passesSign_15 (kX4_step (σ := σ) hap hE (by first | assumption | omega | exact hrp)) mw_X4_step wl_X4_30 (by decide) (by decide) rfl rfl (by simp [Value.category]) ?_
    refine g_iconst C dX4_passesSign_18 ?_
    exact hret _ _ _ _ dX4_passesSign_19 (by first | rfl | (unfold psS; (repeat (first | rw [if_pos (by first | assumption | omega)] | rw [if_neg (by first | assumption | omega)])); first | done | rfl)) (by first | rfl | (unfold psS; (repeat (first | rw [if_pos (by first | assumption | omega)] | rw [if_neg (by first | assumption | omega)])); first | done | rfl))
  · refine g_aload_n C dX4_passesSign_8 (p := 0) (hi := rfl) (hv := rfl) ?_
    refine g_iconst C dX4_passesSign_9 ?_
    refine gc_call_X4 C dX4_passesSign_10 (kX4_isWrong (σ := σ) (k := 1) hap hE) mw_X4_isWrong wl_X4_46 (by decide) (by decide) rfl rfl (by simp [Value.category]) ?_
    exact hret _ _ _ _ dX4_passesSign_13 (by first | rfl | (unfold psS; (repeat (first | rw [if_pos (by first | assumption | omega)] | rw [if_neg (by first | assumption | omega)])); first | done | rfl)) (by first | rfl | (unfold psS; (repeat (first | rw [if_pos (by first | assumption | omega)] | rw [if_neg (by first | assumption | omega)])); first | done | rfl))
set_option maxHeartbeats 4000000 in
set_option maxRecDepth 100000 in
theorem kX4_passesNumber {l : Launch} {K : Nat → ClassId} {D : va_G} {ad : Int → Nat} {E : gEnv} {σ : Mem} {most : Int} (hap : Apart ad 60) (hE : gEok E) (hrp : RPC σ) (rm : R3 most) : CtI l K D ad 60 (cfC ad K) E yX4_passesNumber cX4_passesNumber 2 (some .boolean) 2 [.ref (ad 3), .int (iI most)] σ ((pnS (σ) most).1) ((pnS (σ) most).2) := by
  have htr := hrp.1
  have hb4 := htr.1
  have h31 := htr.2.1
  have h34 := htr.2.2
  have h33 := hrp.2.1
  have h35 := hrp.2.2.1
  have h352 := hrp.2.2.2
  have hnu := nuT_in hrp
  refine ctI_of hap hE (by decide) rfl .boolean (nar_z (by first | simp | exact pnS_01)) (fun M C hn hret => ?_)
  have C : Good l K D ad 60 E 2 cX4_passesNumber RX4 M := C
  show G M ad 60 (cfC ad K) 0 [(0, .ref (ad 3)), (1, .int (iI most))] [] σ
  refine g_aload_n C dX4_passesNumber_0 (p := 0) (hi := rfl) (hv := rfl) ?_
  refine gc_g_X4_token C dX4_passesNumber_1 wf_X4_43 ?_
  refine g_iconst C dX4_passesNumber_4 ?_
  refine g_icmp_eq C (tgt := 14) dX4_passesNumber_5 (by decide) (by omega) (by omega) (fun h_1 => ?_) (fun h_1 => ?_)
  · refine g_aload_n C dX4_passesNumber_14 (p := 0) (hi := rfl) (hv := rfl) ?_
    refine g_aload_n C dX4_passesNumber_15 (p := 0) (hi := rfl) (hv := rfl) ?_
    refine gc_call_X4 C dX4_passesNumber_16 (kX4_numberTold (σ := σ) hap hE (by first | assumption | omega | exact hrp | exact rm)) mw_X4_numberTold wl_X4_109 (by decide) (by decide) rfl rfl (by simp [Value.category]) ?_
    refine gc_p_X4_number C dX4_passesNumber_19 wf_X4_59 ?_
    refine g_aload_n C dX4_passesNumber_22 (p := 0) (hi := rfl) (hv := rfl) ?_
    refine gc_g_X4_number C dX4_passesNumber_23 wf_X4_59 ?_
    refine g_cI (b := (nuT (σ))) (by first | rfl | (simp only [mu_app, mr_app, ru, over, and_self, ↓reduceIte]; (repeat (first | rw [if_neg (by omega)] | rw [if_pos (by omega)])))) ?_
    refine g_iload_n C dX4_passesNumber_26 (p := 1) (hi := rfl) (hv := rfl) ?_
    refine g_icmp_le C (tgt := 36) dX4_passesNumber_27 (by decide) (by have := hnu (by omega); constructor <;> omega) (by omega) (fun h_2 => ?_) (fun h_2 => ?_)
    · refine g_aload_n C dX4_passesNumber_36 (p := 0) (hi := rfl) (hv := rfl) ?_
      refine gc_callv_X4 C dX4_passesNumber_37 (kX4_step (σ := (mu σ 3 6 (nuT (σ)))) hap hE (by first | assumption | omega | exact hrp | exact rm)) mw_X4_step wl_X4_30 (by decide) (by decide) rfl rfl (by simp [Value.category]) ?_
      refine g_iconst C dX4_passesNumber_40 ?_
      exact hret _ _ _ _ dX4_passesNumber_41 (by first | rfl | (unfold pnS; (repeat (first | rw [if_pos (by first | assumption | omega)] | rw [if_neg (by first | assumption | omega)])); first | done | rfl)) (by first | rfl | (unfold pnS; (repeat (first | rw [if_pos (by first | assumption | omega)] | rw [if_neg (by first | assumption | omega)])); first | done | rfl))
    · refine g_aload_n C dX4_passesNumber_30 (p := 0) (hi := rfl) (hv := rfl) ?_
      refine g_iconst C dX4_passesNumber_31 ?_
      refine gc_call_X4 C dX4_passesNumber_32 (kX4_isWrong (σ := (mu σ 3 6 (nuT (σ)))) (k := 2) hap hE) mw_X4_isWrong wl_X4_46 (by decide) (by decide) rfl rfl (by simp [Value.category]) ?_
      exact hret _ _ _ _ dX4_passesNumber_35 (by first | rfl | (unfold pnS; (repeat (first | rw [if_pos (by first | assumption | omega)] | rw [if_neg (by first | assumption | omega)])); first | done | rfl)) (by first | rfl | (unfold pnS; (repeat (first | rw [if_pos (by first | assumption | omega)] | rw [if_neg (by first | assumption | omega)])); first | done | rfl))
  · refine g_aload_n C dX4_passesNumber_8 (p := 0) (hi := rfl) (hv := rfl) ?_
    refine g_iconst C dX4_passesNumber_9 ?_
    refine gc_call_X4 C dX4_passesNumber_10 (kX4_isWrong (σ := σ) (k := 1) hap hE) mw_X4_isWrong wl_X4_46 (by decide) (by decide) rfl rfl (by simp [Value.category]) ?_
    exact hret _ _ _ _ dX4_passesNumber_13 (by first | rfl | (unfold pnS; (repeat (first | rw [if_pos (by first | assumption | omega)] | rw [if_neg (by first | assumption | omega)])); first | done | rfl)) (by first | rfl | (unfold pnS; (repeat (first | rw [if_pos (by first | assumption | omega)] | rw [if_neg (by first | assumption | omega)])); first | done | rfl))
set_option maxHeartbeats 4000000 in
set_option maxRecDepth 100000 in
theorem kX4_readsSort {l : Launch} {K : Nat → ClassId} {D : va_G} {ad : Int → Nat} {E : gEnv} {σ : Mem} {a p : Int} {P : cP} (hap : Apart ad 60) (hE : gEok E) (hcE : ∀ (A : Nat → Prop) (U : State) (H : Heap), E A U H → cE P A U H) (hal : 20 ≤ a ∧ a < 24) (hrp : RPC σ) (hp4 : 0 ≤ p ∧ p < 4) : CtI l K D ad 60 (cfC ad K) E yX4_readsSort cX4_readsSort 4 (some .boolean) 6 [.ref (ad 3), .ref (ad a), .int (iI p)] σ ((rsoS (σ) a p).1) ((rsoS (σ) a p).2) := by
  have htr := hrp.1
  have hb4 := htr.1
  have h31 := htr.2.1
  have h34 := htr.2.2
  have h33 := hrp.2.1
  have h35 := hrp.2.2.1
  have h352 := hrp.2.2.2
  have hso := soT_in σ
  refine ctI_of hap hE (by decide) rfl .boolean (nar_z (by first | simp | exact rsoS_01)) (fun M C hn hret => ?_)
  have C : Good l K D ad 60 E 6 cX4_readsSort RX4 M := C
  have hcS := hcE _ _ _ (gd_E C)
  show G M ad 60 (cfC ad K) 0 [(0, .ref (ad 3)), (1, .ref (ad a)), (2, .int (iI p))] [] σ
  refine g_aload_n C dX4_readsSort_0 (p := 0) (hi := rfl) (hv := rfl) ?_
  refine gc_call_X4 C dX4_readsSort_1 (kX4_sortTold (σ := σ) (P := P) hap hE (by first | assumption | omega | exact hal | exact hrp | exact hp4 | exact (RPC_mu hrp (by omega) (by omega)).1) (by first | assumption | omega | exact hal | exact hrp | exact hp4 | exact (RPC_mu hrp (by omega) (by omega)).1)) mw_X4_sortTold wl_X4_84 (by decide) (by decide) rfl rfl (by simp [Value.category]) ?_
  refine g_istore_n C hn dX4_readsSort_4 rfl rfl rfl ?_
  refine g_iload_n C dX4_readsSort_5 (p := 0) (hi := rfl) (hv := rfl) ?_
  refine g_if_ne C (tgt := 15) dX4_readsSort_6 (by decide) (by omega) (fun h_1 => ?_) (fun h_1 => ?_)
  · refine g_aload_n C dX4_readsSort_15 (p := 2) (hi := rfl) (hv := rfl) ?_
    refine gc_g_X7_kinds C (by omega) dX4_readsSort_16 wf_X4_88 ?_
    refine g_iload_n C dX4_readsSort_19 (p := 3) (hi := rfl) (hv := rfl) ?_
    refine g_iload_n C dX4_readsSort_20 (p := 0) (hi := rfl) (hv := rfl) ?_
    refine gc_s_kinds C (by omega) dX4_readsSort_21 (by omega) (by omega) ?_
    refine g_aload_n C dX4_readsSort_22 (p := 1) (hi := rfl) (hv := rfl) ?_
    refine gc_callv_X4 C dX4_readsSort_23 (kX4_step (σ := (mu σ (a + 4) p (soT (σ)))) hap hE (by first | assumption | omega | exact hal | exact hrp | exact hp4 | exact (RPC_mu hrp (by omega) (by omega)).1)) mw_X4_step wl_X4_30 (by decide) (by decide) rfl rfl (by simp [Value.category]) ?_
    refine g_iconst C dX4_readsSort_26 ?_
    exact hret _ _ _ _ dX4_readsSort_27 (by first | rfl | (unfold rsoS; (repeat (first | rw [if_pos (by first | assumption | omega)] | rw [if_neg (by first | assumption | omega)])); first | done | rfl)) (by first | rfl | (unfold rsoS; (repeat (first | rw [if_pos (by first | assumption | omega)] | rw [if_neg (by first | assumption | omega)])); first | done | rfl))
  · refine g_aload_n C dX4_readsSort_9 (p := 1) (hi := rfl) (hv := rfl) ?_
    refine g_iconst C dX4_readsSort_10 ?_
    refine gc_call_X4 C dX4_readsSort_11 (kX4_isWrong (σ := σ) (k := 1) hap hE) mw_X4_isWrong wl_X4_46 (by decide) (by decide) rfl rfl (by simp [Value.category]) ?_
    exact hret _ _ _ _ dX4_readsSort_14 (by first | rfl | (unfold rsoS; (repeat (first | rw [if_pos (by first | assumption | omega)] | rw [if_neg (by first | assumption | omega)])); first | done | rfl)) (by first | rfl | (unfold rsoS; (repeat (first | rw [if_pos (by first | assumption | omega)] | rw [if_neg (by first | assumption | omega)])); first | done | rfl))
set_option maxHeartbeats 4000000 in
set_option maxRecDepth 100000 in
theorem kX4_readsLaw {l : Launch} {K : Nat → ClassId} {D : va_G} {ad : Int → Nat} {E : gEnv} {σ : Mem} {a : Int} {P : cP} (hap : Apart ad 60) (hE : gEok E) (hcE : ∀ (A : Nat → Prop) (U : State) (H : Heap), E A U H → cE P A U H) (hal : 20 ≤ a ∧ a < 24) (hrp : RPC σ) : CtI l K D ad 60 (cfC ad K) E yX4_readsLaw cX4_readsLaw 2 (some .boolean) 6 [.ref (ad 3), .ref (ad a)] σ ((rlS (σ) a).1) ((rlS (σ) a).2) := by
  have htr := hrp.1
  have hb4 := htr.1
  have h31 := htr.2.1
  have h34 := htr.2.2
  have h33 := hrp.2.1
  have h35 := hrp.2.2.1
  have h352 := hrp.2.2.2
  have p1 : RPC (pwS σ 0).2 := pwS_RPC hrp
  have p2 : RPC (pnS (pwS σ 0).2 3).2 := pnS_RPC p1
  have p3 : RPC (mu (pnS (pwS σ 0).2 3).2 a 0 ((pnS (pwS σ 0).2 3).2 3 6)) := RPC_mu p2 (by omega) (by omega)
  have p4 : RPC (pnS (mu (pnS (pwS σ 0).2 3).2 a 0 ((pnS (pwS σ 0).2 3).2 3 6)) 20).2 := pnS_RPC p3
  have p5 : RPC (mu (pnS (mu (pnS (pwS σ 0).2 3).2 a 0 ((pnS (pwS σ 0).2 3).2 3 6)) 20).2 a 1 ((pnS (mu (pnS (pwS σ 0).2 3).2 a 0 ((pnS (pwS σ 0).2 3).2 3 6)) 20).2 3 6)) := RPC_mu p4 (by omega) (by omega)
  refine ctI_of hap hE (by decide) rfl .boolean (nar_z (by first | simp | exact rlS_01)) (fun M C hn hret => ?_)
  have C : Good l K D ad 60 E 6 cX4_readsLaw RX4 M := C
  have hcS := hcE _ _ _ (gd_E C)
  show G M ad 60 (cfC ad K) 0 [(0, .ref (ad 3)), (1, .ref (ad a))] [] σ
  refine g_aload_n C dX4_readsLaw_0 (p := 0) (hi := rfl) (hv := rfl) ?_
  refine g_ldcS C (hcS.2.2 0 (by decide)) dX4_readsLaw_1 ?_
  refine gc_call_X4 C dX4_readsLaw_3 (kX4_passesWord (σ := σ) (w := 0) (P := P) hap hE (by first | assumption | omega | exact hal | exact hrp) (by first | assumption | omega | exact hal | exact hrp) (by first | assumption | omega | exact hal | exact hrp)) mw_X4_passesWord wl_X4_52 (by decide) (by decide) rfl rfl (by simp [Value.category]) ?_
  refine g_if_eq C (tgt := 17) dX4_readsLaw_6 (by decide) (r3_01 pwS_01) (fun h_1 => ?_) (fun h_1 => ?_)
  · refine g_iconst C dX4_readsLaw_17 ?_
    exact hret _ _ _ _ dX4_readsLaw_18 (by first | rfl | (unfold rlS; (repeat (first | rw [if_pos (by first | assumption | omega)] | rw [if_neg (by first | assumption | omega)])); first | done | rfl)) (by first | rfl | (unfold rlS; (repeat (first | rw [if_pos (by first | assumption | omega)] | rw [if_neg (by first | assumption | omega)])); first | done | rfl))
  · refine g_aload_n C dX4_readsLaw_9 (p := 0) (hi := rfl) (hv := rfl) ?_
    refine g_iconst C dX4_readsLaw_10 ?_
    refine gc_call_X4 C dX4_readsLaw_11 (kX4_passesNumber (σ := ((pwS (σ) 0).2)) (most := 3) hap hE (by first | assumption | omega | exact hal | exact hrp) (by first | assumption | omega | exact hal | exact hrp)) mw_X4_passesNumber wl_X4_56 (by decide) (by decide) rfl rfl (by simp [Value.category]) ?_
    refine g_if_ne C (tgt := 19) dX4_readsLaw_14 (by decide) (r3_01 pnS_01) (fun h_2 => ?_) (fun h_2 => ?_)
    · refine g_aload_n C dX4_readsLaw_19 (p := 1) (hi := rfl) (hv := rfl) ?_
      refine g_aload_n C dX4_readsLaw_20 (p := 0) (hi := rfl) (hv := rfl) ?_
      refine gc_g_X4_number C dX4_readsLaw_21 wf_X4_59 ?_
      refine gc_p_X7_pays C (by omega) dX4_readsLaw_24 wf_X4_62 ?_
      refine g_aload_n C dX4_readsLaw_27 (p := 0) (hi := rfl) (hv := rfl) ?_
      refine (g_bipush C dX4_readsLaw_28 (by decide)) ?_
      refine gc_call_X4 C dX4_readsLaw_30 (kX4_passesNumber (σ := (mu ((pnS (((pwS (σ) 0).2)) 3).2) a 0 (((pnS (((pwS (σ) 0).2)) 3).2) 3 6))) (most := 20) hap hE (by first | assumption | omega | exact hal | exact hrp) (by first | assumption | omega | exact hal | exact hrp)) mw_X4_passesNumber wl_X4_56 (by decide) (by decide) rfl rfl (by simp [Value.category]) ?_
      refine g_if_ne C (tgt := 38) dX4_readsLaw_33 (by decide) (r3_01 pnS_01) (fun h_3 => ?_) (fun h_3 => ?_)
      · refine g_aload_n C dX4_readsLaw_38 (p := 1) (hi := rfl) (hv := rfl) ?_
        refine g_aload_n C dX4_readsLaw_39 (p := 0) (hi := rfl) (hv := rfl) ?_
        refine gc_g_X4_number C dX4_readsLaw_40 wf_X4_59 ?_
        refine gc_p_X7_fee C (by omega) dX4_readsLaw_43 wf_X4_65 ?_
        refine g_aload_n C dX4_readsLaw_46 (p := 0) (hi := rfl) (hv := rfl) ?_
        refine gc_call_X4 C dX4_readsLaw_47 (kX4_passesSign (σ := (mu ((pnS ((mu ((pnS (((pwS (σ) 0).2)) 3).2) a 0 (((pnS (((pwS (σ) 0).2)) 3).2) 3 6))) 20).2) a 1 (((pnS ((mu ((pnS (((pwS (σ) 0).2)) 3).2) a 0 (((pnS (((pwS (σ) 0).2)) 3).2) 3 6))) 20).2) 3 6))) hap hE (by first | assumption | omega | exact hal | exact hrp)) mw_X4_passesSign wl_X4_68 (by decide) (by decide) rfl rfl (by simp [Value.category]) ?_
        exact hret _ _ _ _ dX4_readsLaw_50 (by first | rfl | (unfold rlS; (repeat (first | rw [if_pos (by first | assumption | omega)] | rw [if_neg (by first | assumption | omega)])); first | done | rfl)) (by first | rfl | (unfold rlS; (repeat (first | rw [if_pos (by first | assumption | omega)] | rw [if_neg (by first | assumption | omega)])); first | done | rfl))
      · refine g_iconst C dX4_readsLaw_36 ?_
        exact hret _ _ _ _ dX4_readsLaw_37 (by first | rfl | (unfold rlS; (repeat (first | rw [if_pos (by first | assumption | omega)] | rw [if_neg (by first | assumption | omega)])); first | done | rfl)) (by first | rfl | (unfold rlS; (repeat (first | rw [if_pos (by first | assumption | omega)] | rw [if_neg (by first | assumption | omega)])); first | done | rfl))
    · refine g_iconst C dX4_readsLaw_17 ?_
      exact hret _ _ _ _ dX4_readsLaw_18 (by first | rfl | (unfold rlS; (repeat (first | rw [if_pos (by first | assumption | omega)] | rw [if_neg (by first | assumption | omega)])); first | done | rfl)) (by first | rfl | (unfold rlS; (repeat (first | rw [if_pos (by first | assumption | omega)] | rw [if_neg (by first | assumption | omega)])); first | done | rfl))

set_option maxHeartbeats 4000000 in
set_option maxRecDepth 100000 in
theorem kX4_readsInto {l : Launch} {K : Nat → ClassId} {D : va_G} {ad : Int → Nat} {E : gEnv} {σ : Mem} {a : Int} {P : cP} (hap : Apart ad 60) (hE : gEok E) (hcE : ∀ (A : Nat → Prop) (U : State) (H : Heap), E A U H → cE P A U H) (hal : 20 ≤ a ∧ a < 24) (hb4 : ∀ k : Int, 0 ≤ σ 4 k ∧ σ 4 k ≤ 255) (h31 : 0 ≤ σ 3 1 ∧ σ 3 1 ≤ 400) : CtI l K D ad 60 (cfC ad K) E yX4_readsInto cX4_readsInto 2 (some .boolean) 8 [.ref (ad 3), .ref (ad a)] σ ((riS (σ) a).1) ((riS (σ) a).2) := by
  have q0 := ri0_RPC (σ := σ) hal hb4 h31
  have q1 : RPC (ri1 σ a).2 := rlS_RPC q0 hal
  have q2 : RPC (ri2 σ a).2 := rpG_RPC hal 5 0 _ q1
  have q3 : RPC (ri3 σ a).2 := rtG_RPC hal 6 0 _ q2
  have q22 := ri2_2 (σ := σ) hal
  refine ctI_of hap hE (by decide) rfl .boolean (nar_z (by exact riS_01)) (fun M C hn hret => ?_)
  have C : Good l K D ad 60 E 8 cX4_readsInto RX4 M := C
  have hcS := hcE _ _ _ (gd_E C)
  show G M ad 60 (cfC ad K) 0 [(0, .ref (ad 3)), (1, .ref (ad a))] [] σ
  refine g_aload_n C dX4_readsInto_0 (p := 1) (hi := rfl) (hv := rfl) ?_
  refine gc_callv_X7 C dX4_readsInto_1 (kX7_becomeEmpty (σ := σ) (self := a) hap hE (by first | assumption | omega | exact hal | exact hb4 | exact h31 | exact ri0_TRC hal hb4 h31 | exact q0 | exact q1 | exact q2 | exact q22)) mw_X7_becomeEmpty wl_X4_19 (by decide) (by decide) (by omega) rfl rfl (by simp [Value.category]) ?_
  refine g_aload_n C dX4_readsInto_4 (p := 0) (hi := rfl) (hv := rfl) ?_
  refine g_iconst C dX4_readsInto_5 ?_
  refine gc_p_X4_wrong C dX4_readsInto_6 wf_X4_24 ?_
  refine g_aload_n C dX4_readsInto_9 (p := 0) (hi := rfl) (hv := rfl) ?_
  refine g_iconst C dX4_readsInto_10 ?_
  refine gc_p_X4_behind C dX4_readsInto_11 wf_X4_27 ?_
  refine g_aload_n C dX4_readsInto_14 (p := 0) (hi := rfl) (hv := rfl) ?_
  refine gc_callv_X4 C dX4_readsInto_15 (kX4_step (σ := (mu (mu (mr (mr (mr (mu (mu (mu (mu σ a 0 0) a 1 0) a 2 0) a 3 0) (a + 8) (over (σ (a + 8)) (fun _ => 0) 0 4)) (a + 16) (over (σ (a + 16)) (fun _ => -1000000) 0 5)) (a + 20) (over (σ (a + 20)) (fun _ => 0) 0 5)) 3 2 0) 3 4 0)) hap hE (by first | assumption | omega | exact hal | exact hb4 | exact h31 | exact ri0_TRC hal hb4 h31 | exact q0 | exact q1 | exact q2 | exact q22)) mw_X4_step wl_X4_30 (by decide) (by decide) rfl rfl (by simp [Value.category]) ?_
  refine g_eq (σ' := (ri0 σ a)) rfl rfl rfl (by rfl) ?_
  refine g_aload_n C dX4_readsInto_18 (p := 0) (hi := rfl) (hv := rfl) ?_
  refine g_aload_n C dX4_readsInto_19 (p := 1) (hi := rfl) (hv := rfl) ?_
  refine gc_call_X4 C dX4_readsInto_20 (kX4_readsLaw (σ := (ri0 σ a)) (a := a) (P := P) hap hE (by first | assumption | omega | exact hal | exact hb4 | exact h31 | exact ri0_TRC hal hb4 h31 | exact q0 | exact q1 | exact q2 | exact q22) (by first | assumption | omega | exact hal | exact hb4 | exact h31 | exact ri0_TRC hal hb4 h31 | exact q0 | exact q1 | exact q2 | exact q22) (by first | assumption | omega | exact hal | exact hb4 | exact h31 | exact ri0_TRC hal hb4 h31 | exact q0 | exact q1 | exact q2 | exact q22)) mw_X4_readsLaw wl_X4_33 (by decide) (by decide) rfl rfl (by simp [Value.category]) ?_
  refine g_if_eq C (tgt := 61) dX4_readsInto_23 (by decide) (r3_01 rlS_01) (fun h_1 => ?_) (fun h_1 => ?_)
  · refine g_iconst C dX4_readsInto_61 ?_
    exact hret _ _ _ _ dX4_readsInto_62 (by first | rfl | (unfold riS ri3 ri2 ri1; (repeat (first | rw [if_pos (by first | assumption | omega)] | rw [if_neg (by first | assumption | omega)])); first | done | rfl)) (by first | rfl | (unfold riS ri3 ri2 ri1; (repeat (first | rw [if_pos (by first | assumption | omega)] | rw [if_neg (by first | assumption | omega)])); first | done | rfl))
  · refine g_aload_n C dX4_readsInto_26 (p := 0) (hi := rfl) (hv := rfl) ?_
    refine g_aload_n C dX4_readsInto_27 (p := 1) (hi := rfl) (hv := rfl) ?_
    refine gc_call_X4 C dX4_readsInto_28 (kX4_readsPeople (σ := ((rlS ((ri0 σ a)) a).2)) (a := a) (P := P) hap hE (by first | assumption | omega | exact hal | exact hb4 | exact h31 | exact ri0_TRC hal hb4 h31 | exact q0 | exact q1 | exact q2 | exact q22) (by first | assumption | omega | exact hal | exact hb4 | exact h31 | exact ri0_TRC hal hb4 h31 | exact q0 | exact q1 | exact q2 | exact q22) (by first | assumption | omega | exact hal | exact hb4 | exact h31 | exact ri0_TRC hal hb4 h31 | exact q0 | exact q1 | exact q2 | exact q22)) mw_X4_readsPeople wl_X4_37 (by decide) (by decide) rfl rfl (by simp [Value.category]) ?_
    refine g_if_eq C (tgt := 61) dX4_readsInto_31 (by decide) (r3_01 (rpG_01 _ _ _)) (fun h_2 => ?_) (fun h_2 => ?_)
    · refine g_iconst C dX4_readsInto_61 ?_
      exact hret _ _ _ _ dX4_readsInto_62 (by first | rfl | (unfold riS ri3 ri2 ri1; (repeat (first | rw [if_pos (by first | assumption | omega)] | rw [if_neg (by first | assumption | omega)])); first | done | rfl)) (by first | rfl | (unfold riS ri3 ri2 ri1; (repeat (first | rw [if_pos (by first | assumption | omega)] | rw [if_neg (by first | assumption | omega)])); first | done | rfl))
    · refine g_aload_n C dX4_readsInto_34 (p := 0) (hi := rfl) (hv := rfl) ?_
      refine g_aload_n C dX4_readsInto_35 (p := 1) (hi := rfl) (hv := rfl) ?_
      refine gc_call_X4 C dX4_readsInto_36 (kX4_readsThings (σ := ((rpG a 5 0 (((rlS ((ri0 σ a)) a).2))).2)) (a := a) (P := P) hap hE (by first | assumption | omega | exact hal | exact hb4 | exact h31 | exact ri0_TRC hal hb4 h31 | exact q0 | exact q1 | exact q2 | exact q22) (by first | assumption | omega | exact hal | exact hb4 | exact h31 | exact ri0_TRC hal hb4 h31 | exact q0 | exact q1 | exact q2 | exact q22) (by first | assumption | omega | exact hal | exact hb4 | exact h31 | exact ri0_TRC hal hb4 h31 | exact q0 | exact q1 | exact q2 | exact q22) (by first | assumption | omega | exact hal | exact hb4 | exact h31 | exact ri0_TRC hal hb4 h31 | exact q0 | exact q1 | exact q2 | exact q22)) mw_X4_readsThings wl_X4_40 (by decide) (by decide) rfl rfl (by simp [Value.category]) ?_
      refine g_if_eq C (tgt := 61) dX4_readsInto_39 (by decide) (r3_01 (rtG_01 _ _ _)) (fun h_3 => ?_) (fun h_3 => ?_)
      · refine g_iconst C dX4_readsInto_61 ?_
        exact hret _ _ _ _ dX4_readsInto_62 (by first | rfl | (unfold riS ri3 ri2 ri1; (repeat (first | rw [if_pos (by first | assumption | omega)] | rw [if_neg (by first | assumption | omega)])); first | done | rfl)) (by first | rfl | (unfold riS ri3 ri2 ri1; (repeat (first | rw [if_pos (by first | assumption | omega)] | rw [if_neg (by first | assumption | omega)])); first | done | rfl))
      · refine g_aload_n C dX4_readsInto_42 (p := 0) (hi := rfl) (hv := rfl) ?_
        refine gc_g_X4_token C dX4_readsInto_43 wf_X4_43 ?_
        refine g_if_eq C (tgt := 57) dX4_readsInto_46 (by decide) (by have h := q3.2.2.1; exact (show R3 ((ri3 σ a).2 3 5) by constructor <;> omega)) (fun h_4 => ?_) (fun h_4 => ?_)
        · refine g_iconst C dX4_readsInto_57 ?_
          refine g_goto C (tgt := 62) dX4_readsInto_58 (by decide) ?_
          exact hret _ _ _ _ dX4_readsInto_62 (by first | rfl | (unfold riS ri3 ri2 ri1; (repeat (first | rw [if_pos (by first | assumption | omega)] | rw [if_neg (by first | assumption | omega)])); first | done | rfl)) (by first | rfl | (unfold riS ri3 ri2 ri1; (repeat (first | rw [if_pos (by first | assumption | omega)] | rw [if_neg (by first | assumption | omega)])); first | done | rfl))
        · refine g_aload_n C dX4_readsInto_49 (p := 0) (hi := rfl) (hv := rfl) ?_
          refine g_iconst C dX4_readsInto_50 ?_
          refine gc_call_X4 C dX4_readsInto_51 (kX4_isWrong (σ := ((rtG a 6 0 (((rpG a 5 0 (((rlS ((ri0 σ a)) a).2))).2))).2)) (k := 1) hap hE) mw_X4_isWrong wl_X4_46 (by decide) (by decide) rfl rfl (by simp [Value.category]) ?_
          refine g_if_eq C (tgt := 61) dX4_readsInto_54 (by decide) (by omega) (fun h_5 => ?_) (fun h_5 => ?_)
          · refine g_iconst C dX4_readsInto_61 ?_
            exact hret _ _ _ _ dX4_readsInto_62 (by first | rfl | (unfold riS ri3 ri2 ri1; (repeat (first | rw [if_pos (by first | assumption | omega)] | rw [if_neg (by first | assumption | omega)])); first | done | rfl)) (by first | rfl | (unfold riS ri3 ri2 ri1; (repeat (first | rw [if_pos (by first | assumption | omega)] | rw [if_neg (by first | assumption | omega)])); first | done | rfl))
          · exact absurd h_5 (by decide)

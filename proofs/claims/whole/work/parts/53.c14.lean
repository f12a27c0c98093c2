set_option maxHeartbeats 4000000 in
set_option maxRecDepth 100000 in
theorem kX4_readsPeople {l : Launch} {K : Nat → ClassId} {D : va_G} {ad : Int → Nat} {E : gEnv} {σ : Mem} {a : Int} {P : cP} (hap : Apart ad 60) (hE : gEok E) (hcE : ∀ (A : Nat → Prop) (U : State) (H : Heap), E A U H → cE P A U H) (hal : 20 ≤ a ∧ a < 24) (hrp : RPC σ) : CtI l K D ad 60 (cfC ad K) E yX4_readsPeople cX4_readsPeople 3 (some .boolean) 7 [.ref (ad 3), .ref (ad a)] σ ((rpG a 5 0 (σ)).1) ((rpG a 5 0 (σ)).2) := by
  refine ctI_of hap hE (by decide) rfl .boolean (nar_z (by exact rpG_01 _ _ _)) (fun M C hn hret => ?_)
  have C : Good l K D ad 60 E 7 cX4_readsPeople RX4 M := C
  have hcS := hcE _ _ _ (gd_E C)
  show G M ad 60 (cfC ad K) 0 [(0, .ref (ad 3)), (1, .ref (ad a))] [] σ
  refine g_iconst C dX4_readsPeople_0 ?_
  refine g_istore_n C hn dX4_readsPeople_1 rfl rfl rfl ?_
  have L2 : ∀ (m : Nat) (x2 : Int) (τp : Mem) (kp : Nat), (RPC τp) → (0 ≤ x2 ∧ x2 + (kp : Int) = 5) → (rpG a kp x2 τp = rpG a 5 0 σ) → kp < m → G M ad 60 (cfC ad K) 2 [(0, .ref (ad 3)), (1, .ref (ad a)), (2, .int (iI x2))] [] τp := by
    intro m; induction m with
    | zero => intros; omega
    | succ m ihm2 =>
      intro x2 τp kp hRp hip hep hmeas
      refine g_iload_n C dX4_readsPeople_2 (p := 2) (hi := rfl) (hv := rfl) ?_
      refine g_iconst C dX4_readsPeople_3 ?_
      refine g_icmp_gt C (tgt := 71) dX4_readsPeople_4 (by decide) (by omega) (by omega) (fun h_1 => ?_) (fun h_1 => ?_)
      · refine g_iconst C dX4_readsPeople_71 ?_
        exact hret _ _ _ _ dX4_readsPeople_72 (by first | (exfalso; omega) | (rw [← hep]; first | (have hk0 : kp = 0 := (by omega); subst hk0; rfl) | (rw [rpG_eq (k := kp) (by omega)]; (repeat (first | rw [if_pos (by first | assumption | omega)] | rw [if_neg (by first | assumption | omega)])); first | done | rfl))) (by first | (exfalso; omega) | (rw [← hep]; first | (have hk0 : kp = 0 := (by omega); subst hk0; rfl) | (rw [rpG_eq (k := kp) (by omega)]; (repeat (first | rw [if_pos (by first | assumption | omega)] | rw [if_neg (by first | assumption | omega)])); first | done | rfl)))
      · refine g_iload_n C dX4_readsPeople_7 (p := 2) (hi := rfl) (hv := rfl) ?_
        refine g_if_eq C (tgt := 20) dX4_readsPeople_8 (by decide) (by omega) (fun h_2 => ?_) (fun h_2 => ?_)
        · refine g_iload_n C dX4_readsPeople_20 (p := 2) (hi := rfl) (hv := rfl) ?_
          refine g_iconst C dX4_readsPeople_21 ?_
          refine g_icmp_ne C (tgt := 31) dX4_readsPeople_22 (by decide) (by omega) (by omega) (fun h_3 => ?_) (fun h_3 => ?_)
          · refine g_aload_n C dX4_readsPeople_31 (p := 0) (hi := rfl) (hv := rfl) ?_
            refine g_ldcS C (hcS.2.2 1 (by decide)) dX4_readsPeople_32 ?_
            refine gc_call_X4 C dX4_readsPeople_34 (kX4_passesWord (σ := τp) (w := 1) (P := P) hap hE (by first | assumption | omega | exact hal | exact hrp | exact hRp | exact pwS_RPC hRp | exact rsoS_RPC (pwS_RPC hRp) hal) (by first | assumption | omega | exact hal | exact hrp | exact hRp | exact pwS_RPC hRp | exact rsoS_RPC (pwS_RPC hRp) hal) (by first | assumption | omega | exact hal | exact hrp | exact hRp | exact pwS_RPC hRp | exact rsoS_RPC (pwS_RPC hRp) hal)) mw_X4_passesWord wl_X4_52 (by decide) (by decide) rfl rfl (by simp [Value.category]) ?_
            refine g_if_eq C (tgt := 56) dX4_readsPeople_37 (by decide) (r3_01 pwS_01) (fun h_4 => ?_) (fun h_4 => ?_)
            · refine g_iconst C dX4_readsPeople_56 ?_
              exact hret _ _ _ _ dX4_readsPeople_57 (by first | (exfalso; omega) | (rw [← hep]; first | (have hk0 : kp = 0 := (by omega); subst hk0; rfl) | (rw [rpG_eq (k := kp) (by omega)]; (repeat (first | rw [if_pos (by first | assumption | omega)] | rw [if_neg (by first | assumption | omega)])); first | done | rfl))) (by first | (exfalso; omega) | (rw [← hep]; first | (have hk0 : kp = 0 := (by omega); subst hk0; rfl) | (rw [rpG_eq (k := kp) (by omega)]; (repeat (first | rw [if_pos (by first | assumption | omega)] | rw [if_neg (by first | assumption | omega)])); first | done | rfl)))
            · refine g_aload_n C dX4_readsPeople_40 (p := 0) (hi := rfl) (hv := rfl) ?_
              refine g_aload_n C dX4_readsPeople_41 (p := 1) (hi := rfl) (hv := rfl) ?_
              refine g_iload_n C dX4_readsPeople_42 (p := 2) (hi := rfl) (hv := rfl) ?_
              refine gc_call_X4 C dX4_readsPeople_43 (kX4_readsSort (σ := ((pwS (τp) 1).2)) (a := a) (p := x2) (P := P) hap hE (by first | assumption | omega | exact hal | exact hrp | exact hRp | exact pwS_RPC hRp | exact rsoS_RPC (pwS_RPC hRp) hal) (by first | assumption | omega | exact hal | exact hrp | exact hRp | exact pwS_RPC hRp | exact rsoS_RPC (pwS_RPC hRp) hal) (by first | assumption | omega | exact hal | exact hrp | exact hRp | exact pwS_RPC hRp | exact rsoS_RPC (pwS_RPC hRp) hal) (by first | assumption | omega | exact hal | exact hrp | exact hRp | exact pwS_RPC hRp | exact rsoS_RPC (pwS_RPC hRp) hal)) mw_X4_readsSort wl_X4_77 (by decide) (by decide) rfl rfl (by simp [Value.category]) ?_
              refine g_if_eq C (tgt := 56) dX4_readsPeople_46 (by decide) (r3_01 rsoS_01) (fun h_5 => ?_) (fun h_5 => ?_)
              · refine g_iconst C dX4_readsPeople_56 ?_
                exact hret _ _ _ _ dX4_readsPeople_57 (by first | (exfalso; omega) | (rw [← hep]; first | (have hk0 : kp = 0 := (by omega); subst hk0; rfl) | (rw [rpG_eq (k := kp) (by omega)]; (repeat (first | rw [if_pos (by first | assumption | omega)] | rw [if_neg (by first | assumption | omega)])); first | done | rfl))) (by first | (exfalso; omega) | (rw [← hep]; first | (have hk0 : kp = 0 := (by omega); subst hk0; rfl) | (rw [rpG_eq (k := kp) (by omega)]; (repeat (first | rw [if_pos (by first | assumption | omega)] | rw [if_neg (by first | assumption | omega)])); first | done | rfl)))
              · refine g_aload_n C dX4_readsPeople_49 (p := 0) (hi := rfl) (hv := rfl) ?_
                refine gc_call_X4 C dX4_readsPeople_50 (kX4_passesSign (σ := ((rsoS (((pwS (τp) 1).2)) a x2).2)) hap hE (by first | assumption | omega | exact hal | exact hrp | exact hRp | exact pwS_RPC hRp | exact rsoS_RPC (pwS_RPC hRp) hal)) mw_X4_passesSign wl_X4_68 (by decide) (by decide) rfl rfl (by simp [Value.category]) ?_
                refine g_if_ne C (tgt := 58) dX4_readsPeople_53 (by decide) (r3_01 psS_01) (fun h_6 => ?_) (fun h_6 => ?_)
                · refine g_aload_n C dX4_readsPeople_58 (p := 1) (hi := rfl) (hv := rfl) ?_
                  refine g_iload_n C dX4_readsPeople_59 (p := 2) (hi := rfl) (hv := rfl) ?_
                  refine g_iconst C dX4_readsPeople_60 ?_
                  refine g_iadd C dX4_readsPeople_61 ?_
                  refine gc_p_X7_people C (by omega) dX4_readsPeople_62 wf_X4_81 ?_
                  refine g_iinc C hn dX4_readsPeople_65 (p := 2) rfl rfl rfl ?_
                  refine g_goto C (tgt := 2) dX4_readsPeople_68 (by decide) ?_
                  refine g_sub [1, 2, 0] rfl ?_
                  exact ihm2 _ (mu ((psS (((rsoS (((pwS (τp) 1).2)) a x2).2))).2) a 2 (x2 + 1)) (kp - 1) (by exact RPC_mu (psS_RPC (rsoS_RPC (pwS_RPC hRp) hal)) (by omega) (by omega)) (by first | rfl | assumption | omega) (by rw [← hep, rpG_eq (k := kp) (by omega)]; (repeat (first | rw [if_pos (by first | assumption | omega)] | rw [if_neg (by first | assumption | omega)])); first | done | rfl) (by omega)
                · refine g_iconst C dX4_readsPeople_56 ?_
                  exact hret _ _ _ _ dX4_readsPeople_57 (by first | (exfalso; omega) | (rw [← hep]; first | (have hk0 : kp = 0 := (by omega); subst hk0; rfl) | (rw [rpG_eq (k := kp) (by omega)]; (repeat (first | rw [if_pos (by first | assumption | omega)] | rw [if_neg (by first | assumption | omega)])); first | done | rfl))) (by first | (exfalso; omega) | (rw [← hep]; first | (have hk0 : kp = 0 := (by omega); subst hk0; rfl) | (rw [rpG_eq (k := kp) (by omega)]; (repeat (first | rw [if_pos (by first | assumption | omega)] | rw [if_neg (by first | assumption | omega)])); first | done | rfl)))
          · refine g_aload_n C dX4_readsPeople_25 (p := 0) (hi := rfl) (hv := rfl) ?_
            refine g_iconst C dX4_readsPeople_26 ?_
            refine gc_call_X4 C dX4_readsPeople_27 (kX4_isWrong (σ := τp) (k := 3) hap hE) mw_X4_isWrong wl_X4_46 (by decide) (by decide) rfl rfl (by simp [Value.category]) ?_
            exact hret _ _ _ _ dX4_readsPeople_30 (by first | (exfalso; omega) | (rw [← hep]; first | (have hk0 : kp = 0 := (by omega); subst hk0; rfl) | (rw [rpG_eq (k := kp) (by omega)]; (repeat (first | rw [if_pos (by first | assumption | omega)] | rw [if_neg (by first | assumption | omega)])); first | done | rfl))) (by first | (exfalso; omega) | (rw [← hep]; first | (have hk0 : kp = 0 := (by omega); subst hk0; rfl) | (rw [rpG_eq (k := kp) (by omega)]; (repeat (first | rw [if_pos (by first | assumption | omega)] | rw [if_neg (by first | assumption | omega)])); first | done | rfl)))
        · refine g_aload_n C dX4_readsPeople_11 (p := 0) (hi := rfl) (hv := rfl) ?_
          refine g_ldcS C (hcS.2.2 1 (by decide)) dX4_readsPeople_12 ?_
          refine gc_call_X4 C dX4_readsPeople_14 (kX4_isWord (σ := τp) (w := 1) (P := P) hap hE (by first | assumption | omega | exact hal | exact hrp | exact hRp | exact pwS_RPC hRp | exact rsoS_RPC (pwS_RPC hRp) hal) (by first | assumption | omega | exact hal | exact hrp | exact hRp | exact pwS_RPC hRp | exact rsoS_RPC (pwS_RPC hRp) hal) (by first | assumption | omega | exact hal | exact hrp | exact hRp | exact pwS_RPC hRp | exact rsoS_RPC (pwS_RPC hRp) hal)) mw_X4_isWord wl_X4_74 (by decide) (by decide) rfl rfl (by simp [Value.category]) ?_
          refine g_if_eq C (tgt := 71) dX4_readsPeople_17 (by decide) (r3_01 isW_01) (fun h_7 => ?_) (fun h_7 => ?_)
          · refine g_iconst C dX4_readsPeople_71 ?_
            exact hret _ _ _ _ dX4_readsPeople_72 (by first | (exfalso; omega) | (rw [← hep]; first | (have hk0 : kp = 0 := (by omega); subst hk0; rfl) | (rw [rpG_eq (k := kp) (by omega)]; (repeat (first | rw [if_pos (by first | assumption | omega)] | rw [if_neg (by first | assumption | omega)])); first | done | rfl))) (by first | (exfalso; omega) | (rw [← hep]; first | (have hk0 : kp = 0 := (by omega); subst hk0; rfl) | (rw [rpG_eq (k := kp) (by omega)]; (repeat (first | rw [if_pos (by first | assumption | omega)] | rw [if_neg (by first | assumption | omega)])); first | done | rfl)))
          · refine g_iload_n C dX4_readsPeople_20 (p := 2) (hi := rfl) (hv := rfl) ?_
            refine g_iconst C dX4_readsPeople_21 ?_
            refine g_icmp_ne C (tgt := 31) dX4_readsPeople_22 (by decide) (by omega) (by omega) (fun h_8 => ?_) (fun h_8 => ?_)
            · refine g_aload_n C dX4_readsPeople_31 (p := 0) (hi := rfl) (hv := rfl) ?_
              refine g_ldcS C (hcS.2.2 1 (by decide)) dX4_readsPeople_32 ?_
              refine gc_call_X4 C dX4_readsPeople_34 (kX4_passesWord (σ := τp) (w := 1) (P := P) hap hE (by first | assumption | omega | exact hal | exact hrp | exact hRp | exact pwS_RPC hRp | exact rsoS_RPC (pwS_RPC hRp) hal) (by first | assumption | omega | exact hal | exact hrp | exact hRp | exact pwS_RPC hRp | exact rsoS_RPC (pwS_RPC hRp) hal) (by first | assumption | omega | exact hal | exact hrp | exact hRp | exact pwS_RPC hRp | exact rsoS_RPC (pwS_RPC hRp) hal)) mw_X4_passesWord wl_X4_52 (by decide) (by decide) rfl rfl (by simp [Value.category]) ?_
              refine g_if_eq C (tgt := 56) dX4_readsPeople_37 (by decide) (r3_01 pwS_01) (fun h_9 => ?_) (fun h_9 => ?_)
              · refine g_iconst C dX4_readsPeople_56 ?_
                exact hret _ _ _ _ dX4_readsPeople_57 (by first | (exfalso; omega) | (rw [← hep]; first | (have hk0 : kp = 0 := (by omega); subst hk0; rfl) | (rw [rpG_eq (k := kp) (by omega)]; (repeat (first | rw [if_pos (by first | assumption | omega)] | rw [if_neg (by first | assumption | omega)])); first | done | rfl))) (by first | (exfalso; omega) | (rw [← hep]; first | (have hk0 : kp = 0 := (by omega); subst hk0; rfl) | (rw [rpG_eq (k := kp) (by omega)]; (repeat (first | rw [if_pos (by first | assumption | omega)] | rw [if_neg (by first | assumption | omega)])); first | done | rfl)))
              · refine g_aload_n C dX4_readsPeople_40 (p := 0) (hi := rfl) (hv := rfl) ?_
                refine g_aload_n C dX4_readsPeople_41 (p := 1) (hi := rfl) (hv := rfl) ?_
                refine g_iload_n C dX4_readsPeople_42 (p := 2) (hi := rfl) (hv := rfl) ?_
                refine gc_call_X4 C dX4_readsPeople_43 (kX4_readsSort (σ := ((pwS (τp) 1).2)) (a := a) (p := x2) (P := P) hap hE (by first | assumption | omega | exact hal | exact hrp | exact hRp | exact pwS_RPC hRp | exact rsoS_RPC (pwS_RPC hRp) hal) (by first | assumption | omega | exact hal | exact hrp | exact hRp | exact pwS_RPC hRp | exact rsoS_RPC (pwS_RPC hRp) hal) (by first | assumption | omega | exact hal | exact hrp | exact hRp | exact pwS_RPC hRp | exact rsoS_RPC (pwS_RPC hRp) hal) (by first | assumption | omega | exact hal | exact hrp | exact hRp | exact pwS_RPC hRp | exact rsoS_RPC (pwS_RPC hRp) hal)) mw_X4_readsSort wl_X4_77 (by decide) (by decide) rfl rfl (by simp [Value.category]) ?_
                refine g_if_eq C (tgt := 56) dX4_readsPeople_46 (by decide) (r3_01 rsoS_01) (fun h_10 => ?_) (fun h_10 => ?_)
                · refine g_iconst C dX4_readsPeople_56 ?_
                  exact hret _ _ _ _ dX4_readsPeople_57 (by first | (exfalso; omega) | (rw [← hep]; first | (have hk0 : kp = 0 := (by omega); subst hk0; rfl) | (rw [rpG_eq (k := kp) (by omega)]; (repeat (first | rw [if_pos (by first | assumption | omega)] | rw [if_neg (by first | assumption | omega)])); first | done | rfl))) (by first | (exfalso; omega) | (rw [← hep]; first | (have hk0 : kp = 0 := (by omega); subst hk0; rfl) | (rw [rpG_eq (k := kp) (by omega)]; (repeat (first | rw [if_pos (by first | assumption | omega)] | rw [if_neg (by first | assumption | omega)])); first | done | rfl)))
                · refine g_aload_n C dX4_readsPeople_49 (p := 0) (hi := rfl) (hv := rfl) ?_
                  refine gc_call_X4 C dX4_readsPeople_50 (kX4_passesSign (σ := ((rsoS (((pwS (τp) 1).2)) a x2).2)) hap hE (by first | assumption | omega | exact hal | exact hrp | exact hRp | exact pwS_RPC hRp | exact rsoS_RPC (pwS_RPC hRp) hal)) mw_X4_passesSign wl_X4_68 (by decide) (by decide) rfl rfl (by simp [Value.category]) ?_
                  refine g_if_ne C (tgt := 58) dX4_readsPeople_53 (by decide) (r3_01 psS_01) (fun h_11 => ?_) (fun h_11 => ?_)
                  · refine g_aload_n C dX4_readsPeople_58 (p := 1) (hi := rfl) (hv := rfl) ?_
                    refine g_iload_n C dX4_readsPeople_59 (p := 2) (hi := rfl) (hv := rfl) ?_
                    refine g_iconst C dX4_readsPeople_60 ?_
                    refine g_iadd C dX4_readsPeople_61 ?_
                    refine gc_p_X7_people C (by omega) dX4_readsPeople_62 wf_X4_81 ?_
                    refine g_iinc C hn dX4_readsPeople_65 (p := 2) rfl rfl rfl ?_
                    refine g_goto C (tgt := 2) dX4_readsPeople_68 (by decide) ?_
                    refine g_sub [1, 2, 0] rfl ?_
                    exact ihm2 _ (mu ((psS (((rsoS (((pwS (τp) 1).2)) a x2).2))).2) a 2 (x2 + 1)) (kp - 1) (by exact RPC_mu (psS_RPC (rsoS_RPC (pwS_RPC hRp) hal)) (by omega) (by omega)) (by first | rfl | assumption | omega) (by rw [← hep, rpG_eq (k := kp) (by omega)]; (repeat (first | rw [if_pos (by first | assumption | omega)] | rw [if_neg (by first | assumption | omega)])); first | done | rfl) (by omega)
                  · refine g_iconst C dX4_readsPeople_56 ?_
                    exact hret _ _ _ _ dX4_readsPeople_57 (by first | (exfalso; omega) | (rw [← hep]; first | (have hk0 : kp = 0 := (by omega); subst hk0; rfl) | (rw [rpG_eq (k := kp) (by omega)]; (repeat (first | rw [if_pos (by first | assumption | omega)] | rw [if_neg (by first | assumption | omega)])); first | done | rfl))) (by first | (exfalso; omega) | (rw [← hep]; first | (have hk0 : kp = 0 := (by omega); subst hk0; rfl) | (rw [rpG_eq (k := kp) (by omega)]; (repeat (first | rw [if_pos (by first | assumption | omega)] | rw [if_neg (by first | assumption | omega)])); first | done | rfl)))
            · refine g_aload_n C dX4_readsPeople_25 (p := 0) (hi := rfl) (hv := rfl) ?_
              refine g_iconst C dX4_readsPeople_26 ?_
              refine gc_call_X4 C dX4_readsPeople_27 (kX4_isWrong (σ := τp) (k := 3) hap hE) mw_X4_isWrong wl_X4_46 (by decide) (by decide) rfl rfl (by simp [Value.category]) ?_
              exact hret _ _ _ _ dX4_readsPeople_30 (by first | (exfalso; omega) | (rw [← hep]; first | (have hk0 : kp = 0 := (by omega); subst hk0; rfl) | (rw [rpG_eq (k := kp) (by omega)]; (repeat (first | rw [if_pos (by first | assumption | omega)] | rw [if_neg (by first | assumption | omega)])); first | done | rfl))) (by first | (exfalso; omega) | (rw [← hep]; first | (have hk0 : kp = 0 := (by omega); subst hk0; rfl) | (rw [rpG_eq (k := kp) (by omega)]; (repeat (first | rw [if_pos (by first | assumption | omega)] | rw [if_neg (by first | assumption | omega)])); first | done | rfl)))
  refine g_sub [1, 2, 0] rfl ?_
  exact L2 _ _ σ 5 (by first | rfl | assumption | omega) (by first | rfl | assumption | omega) (by first | rfl | assumption | omega) (Nat.lt_succ_self _)

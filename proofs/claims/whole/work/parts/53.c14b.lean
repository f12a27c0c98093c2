set_option maxHeartbeats 4000000 in
set_option maxRecDepth 100000 in
theorem kX4_readsThings {l : Launch} {K : Nat → ClassId} {D : va_G} {ad : Int → Nat} {E : gEnv} {σ : Mem} {a : Int} {P : cP} (hap : Apart ad 60) (hE : gEok E) (hcE : ∀ (A : Nat → Prop) (U : State) (H : Heap), E A U H → cE P A U H) (hal : 20 ≤ a ∧ a < 24) (hrp : RPC σ) (ha2 : 0 ≤ σ a 2 ∧ σ a 2 ≤ 4) : CtI l K D ad 60 (cfC ad K) E yX4_readsThings cX4_readsThings 4 (some .boolean) 7 [.ref (ad 3), .ref (ad a)] σ ((rtG a 6 0 (σ)).1) ((rtG a 6 0 (σ)).2) := by
  refine ctI_of hap hE (by decide) rfl .boolean (nar_z (by exact rtG_01 _ _ _)) (fun M C hn hret => ?_)
  have C : Good l K D ad 60 E 7 cX4_readsThings RX4 M := C
  have hcS := hcE _ _ _ (gd_E C)
  show G M ad 60 (cfC ad K) 0 [(0, .ref (ad 3)), (1, .ref (ad a))] [] σ
  refine g_iconst C dX4_readsThings_0 ?_
  refine g_istore_n C hn dX4_readsThings_1 rfl rfl rfl ?_
  have L2 : ∀ (m : Nat) (x2 : Int) (τt : Mem) (kt : Nat), (RPC τt) → (0 ≤ τt a 2 ∧ τt a 2 ≤ 4) → (0 ≤ x2 ∧ x2 + (kt : Int) = 6) → (rtG a kt x2 τt = rtG a 6 0 σ) → kt < m → G M ad 60 (cfC ad K) 2 [(0, .ref (ad 3)), (1, .ref (ad a)), (2, .int (iI x2))] [] τt := by
    intro m; induction m with
    | zero => intros; omega
    | succ m ihm2 =>
      intro x2 τt kt hRt ht2 hit het hmeas
      refine g_iload_n C dX4_readsThings_2 (p := 2) (hi := rfl) (hv := rfl) ?_
      refine g_iconst C dX4_readsThings_3 ?_
      refine g_icmp_gt C (tgt := 97) dX4_readsThings_4 (by decide) (by omega) (by omega) (fun h_1 => ?_) (fun h_1 => ?_)
      · refine g_iconst C dX4_readsThings_97 ?_
        exact hret _ _ _ _ dX4_readsThings_98 (by first | (exfalso; omega) | (rw [← het]; first | (have hk0 : kt = 0 := (by omega); subst hk0; rfl) | (rw [rtG_eq (k := kt) (by omega)]; (repeat (first | rw [if_pos (by first | assumption | omega)] | rw [if_neg (by first | assumption | omega)])); first | done | rfl) | (rw [rtG_eq (k := kt) (by omega)]; simp only [hq]; (repeat (first | rw [if_pos (by first | assumption | omega)] | rw [if_neg (by first | assumption | omega)])); first | done | rfl) | (have hq0 : rnG a x2 (τt a 2).toNat 0 (stM τt) = (0, (pnS τn 60).2) := (by rw [← hen, rnG_eq (k := kn) (by omega), if_pos (by assumption)]); rw [rtG_eq (k := kt) (by omega)]; simp only [hq0]; (repeat (first | rw [if_pos (by first | assumption | omega)] | rw [if_neg (by first | assumption | omega)])); first | done | rfl))) (by first | (exfalso; omega) | (rw [← het]; first | (have hk0 : kt = 0 := (by omega); subst hk0; rfl) | (rw [rtG_eq (k := kt) (by omega)]; (repeat (first | rw [if_pos (by first | assumption | omega)] | rw [if_neg (by first | assumption | omega)])); first | done | rfl) | (rw [rtG_eq (k := kt) (by omega)]; simp only [hq]; (repeat (first | rw [if_pos (by first | assumption | omega)] | rw [if_neg (by first | assumption | omega)])); first | done | rfl) | (have hq0 : rnG a x2 (τt a 2).toNat 0 (stM τt) = (0, (pnS τn 60).2) := (by rw [← hen, rnG_eq (k := kn) (by omega), if_pos (by assumption)]); rw [rtG_eq (k := kt) (by omega)]; simp only [hq0]; (repeat (first | rw [if_pos (by first | assumption | omega)] | rw [if_neg (by first | assumption | omega)])); first | done | rfl)))
      · refine g_aload_n C dX4_readsThings_7 (p := 0) (hi := rfl) (hv := rfl) ?_
        refine g_ldcS C (hcS.2.2 7 (by decide)) dX4_readsThings_8 ?_
        refine gc_call_X4 C dX4_readsThings_10 (kX4_isWord (σ := τt) (w := 7) (P := P) hap hE (by first | assumption | omega | exact hal | exact hrp | exact ha2 | exact hRt | exact hRn | exact hRt.1) (by first | assumption | omega | exact hal | exact hrp | exact ha2 | exact hRt | exact hRn | exact hRt.1) (by first | assumption | omega | exact hal | exact hrp | exact ha2 | exact hRt | exact hRn | exact hRt.1)) mw_X4_isWord wl_X4_74 (by decide) (by decide) rfl rfl (by simp [Value.category]) ?_
        refine g_if_eq C (tgt := 97) dX4_readsThings_13 (by decide) (r3_01 isW_01) (fun h_2 => ?_) (fun h_2 => ?_)
        · refine g_iconst C dX4_readsThings_97 ?_
          exact hret _ _ _ _ dX4_readsThings_98 (by first | (exfalso; omega) | (rw [← het]; first | (have hk0 : kt = 0 := (by omega); subst hk0; rfl) | (rw [rtG_eq (k := kt) (by omega)]; (repeat (first | rw [if_pos (by first | assumption | omega)] | rw [if_neg (by first | assumption | omega)])); first | done | rfl) | (rw [rtG_eq (k := kt) (by omega)]; simp only [hq]; (repeat (first | rw [if_pos (by first | assumption | omega)] | rw [if_neg (by first | assumption | omega)])); first | done | rfl) | (have hq0 : rnG a x2 (τt a 2).toNat 0 (stM τt) = (0, (pnS τn 60).2) := (by rw [← hen, rnG_eq (k := kn) (by omega), if_pos (by assumption)]); rw [rtG_eq (k := kt) (by omega)]; simp only [hq0]; (repeat (first | rw [if_pos (by first | assumption | omega)] | rw [if_neg (by first | assumption | omega)])); first | done | rfl))) (by first | (exfalso; omega) | (rw [← het]; first | (have hk0 : kt = 0 := (by omega); subst hk0; rfl) | (rw [rtG_eq (k := kt) (by omega)]; (repeat (first | rw [if_pos (by first | assumption | omega)] | rw [if_neg (by first | assumption | omega)])); first | done | rfl) | (rw [rtG_eq (k := kt) (by omega)]; simp only [hq]; (repeat (first | rw [if_pos (by first | assumption | omega)] | rw [if_neg (by first | assumption | omega)])); first | done | rfl) | (have hq0 : rnG a x2 (τt a 2).toNat 0 (stM τt) = (0, (pnS τn 60).2) := (by rw [← hen, rnG_eq (k := kn) (by omega), if_pos (by assumption)]); rw [rtG_eq (k := kt) (by omega)]; simp only [hq0]; (repeat (first | rw [if_pos (by first | assumption | omega)] | rw [if_neg (by first | assumption | omega)])); first | done | rfl)))
        · refine g_iload_n C dX4_readsThings_16 (p := 2) (hi := rfl) (hv := rfl) ?_
          refine g_iconst C dX4_readsThings_17 ?_
          refine g_icmp_ne C (tgt := 27) dX4_readsThings_18 (by decide) (by omega) (by omega) (fun h_3 => ?_) (fun h_3 => ?_)
          · refine g_aload_n C dX4_readsThings_27 (p := 0) (hi := rfl) (hv := rfl) ?_
            refine gc_callv_X4 C dX4_readsThings_28 (kX4_step (σ := τt) hap hE (by first | assumption | omega | exact hal | exact hrp | exact ha2 | exact hRt | exact hRn | exact hRt.1)) mw_X4_step wl_X4_30 (by decide) (by decide) rfl rfl (by simp [Value.category]) ?_
            refine g_iconst C dX4_readsThings_31 ?_
            refine g_istore_n C hn dX4_readsThings_32 rfl rfl rfl ?_
            have L33 : ∀ (m : Nat) (x3 : Int) (τn : Mem) (kn : Nat), (RPC τn) → (τn a 2 = τt a 2) → (0 ≤ x3 ∧ x3 + (kn : Int) = τt a 2) → (rnG a x2 kn x3 τn = rnG a x2 (τt a 2).toNat 0 (stM τt)) → kn < m → G M ad 60 (cfC ad K) 33 [(0, .ref (ad 3)), (1, .ref (ad a)), (2, .int (iI x2)), (3, .int (iI x3))] [] τn := by
              intro m; induction m with
              | zero => intros; omega
              | succ m ihm33 =>
                intro x3 τn kn hRn hpn hin hen hmeas
                refine g_iload_n C dX4_readsThings_33 (p := 3) (hi := rfl) (hv := rfl) ?_
                refine g_aload_n C dX4_readsThings_34 (p := 1) (hi := rfl) (hv := rfl) ?_
                refine gc_g_X7_people C (by omega) dX4_readsThings_35 wf_X4_81 ?_
                refine g_icmp_ge C (tgt := 75) dX4_readsThings_38 (by decide) (by omega) (by rw [hpn]; constructor <;> omega) (fun h_4 => ?_) (fun h_4 => ?_)
                · have hk0 : kn = 0 := by omega
                  subst hk0
                  have hq : rnG a x2 (τt a 2).toNat 0 (stM τt) = (1, τn) := hen.symm
                  refine g_aload_n C dX4_readsThings_75 (p := 0) (hi := rfl) (hv := rfl) ?_
                  refine gc_call_X4 C dX4_readsThings_76 (kX4_passesSign (σ := τn) hap hE (by first | assumption | omega | exact hal | exact hrp | exact ha2 | exact hRt | exact hRn | exact hRt.1)) mw_X4_passesSign wl_X4_68 (by decide) (by decide) rfl rfl (by simp [Value.category]) ?_
                  refine g_if_ne C (tgt := 84) dX4_readsThings_79 (by decide) (r3_01 psS_01) (fun h_5 => ?_) (fun h_5 => ?_)
                  · refine g_aload_n C dX4_readsThings_84 (p := 1) (hi := rfl) (hv := rfl) ?_
                    refine g_iload_n C dX4_readsThings_85 (p := 2) (hi := rfl) (hv := rfl) ?_
                    refine g_iconst C dX4_readsThings_86 ?_
                    refine g_iadd C dX4_readsThings_87 ?_
                    refine gc_p_X7_things C (by omega) dX4_readsThings_88 wf_X4_96 ?_
                    refine g_iinc C hn dX4_readsThings_91 (p := 2) rfl rfl rfl ?_
                    refine g_goto C (tgt := 2) dX4_readsThings_94 (by decide) ?_
                    refine g_sub [1, 2, 0] rfl ?_
                    exact ihm2 _ (mu ((psS (τn)).2) a 3 (x2 + 1)) (kt - 1) (by exact RPC_mu (psS_RPC hRn) (by omega) (by omega)) (by rw [mu_j (by decide), psS_c (by omega), hpn]; exact ht2) (by first | rfl | assumption | omega) (by rw [← het, rtG_eq (k := kt) (by omega)]; simp only [hq]; (repeat (first | rw [if_pos (by first | assumption | omega)] | rw [if_neg (by first | assumption | omega)])); first | done | rfl) (by omega)
                  · refine g_iconst C dX4_readsThings_82 ?_
                    exact hret _ _ _ _ dX4_readsThings_83 (by first | (exfalso; omega) | (rw [← het]; first | (have hk0 : kt = 0 := (by omega); subst hk0; rfl) | (rw [rtG_eq (k := kt) (by omega)]; (repeat (first | rw [if_pos (by first | assumption | omega)] | rw [if_neg (by first | assumption | omega)])); first | done | rfl) | (rw [rtG_eq (k := kt) (by omega)]; simp only [hq]; (repeat (first | rw [if_pos (by first | assumption | omega)] | rw [if_neg (by first | assumption | omega)])); first | done | rfl) | (have hq0 : rnG a x2 (τt a 2).toNat 0 (stM τt) = (0, (pnS τn 60).2) := (by rw [← hen, rnG_eq (k := kn) (by omega), if_pos (by assumption)]); rw [rtG_eq (k := kt) (by omega)]; simp only [hq0]; (repeat (first | rw [if_pos (by first | assumption | omega)] | rw [if_neg (by first | assumption | omega)])); first | done | rfl))) (by first | (exfalso; omega) | (rw [← het]; first | (have hk0 : kt = 0 := (by omega); subst hk0; rfl) | (rw [rtG_eq (k := kt) (by omega)]; (repeat (first | rw [if_pos (by first | assumption | omega)] | rw [if_neg (by first | assumption | omega)])); first | done | rfl) | (rw [rtG_eq (k := kt) (by omega)]; simp only [hq]; (repeat (first | rw [if_pos (by first | assumption | omega)] | rw [if_neg (by first | assumption | omega)])); first | done | rfl) | (have hq0 : rnG a x2 (τt a 2).toNat 0 (stM τt) = (0, (pnS τn 60).2) := (by rw [← hen, rnG_eq (k := kn) (by omega), if_pos (by assumption)]); rw [rtG_eq (k := kt) (by omega)]; simp only [hq0]; (repeat (first | rw [if_pos (by first | assumption | omega)] | rw [if_neg (by first | assumption | omega)])); first | done | rfl)))
                · refine g_aload_n C dX4_readsThings_41 (p := 0) (hi := rfl) (hv := rfl) ?_
                  refine (g_bipush C dX4_readsThings_42 (by decide)) ?_
                  refine gc_call_X4 C dX4_readsThings_44 (kX4_passesNumber (σ := τn) (most := 60) hap hE (by first | assumption | omega | exact hal | exact hrp | exact ha2 | exact hRt | exact hRn | exact hRt.1) (by first | assumption | omega | exact hal | exact hrp | exact ha2 | exact hRt | exact hRn | exact hRt.1)) mw_X4_passesNumber wl_X4_56 (by decide) (by decide) rfl rfl (by simp [Value.category]) ?_
                  refine g_if_ne C (tgt := 52) dX4_readsThings_47 (by decide) (r3_01 pnS_01) (fun h_6 => ?_) (fun h_6 => ?_)
                  · refine g_aload_n C dX4_readsThings_52 (p := 1) (hi := rfl) (hv := rfl) ?_
                    refine gc_g_X7_told C (by omega) dX4_readsThings_53 wf_X4_93 ?_
                    refine g_iload_n C dX4_readsThings_56 (p := 2) (hi := rfl) (hv := rfl) ?_
                    refine g_iconst C dX4_readsThings_57 ?_
                    refine g_imul C dX4_readsThings_58 ?_
                    refine g_iload_n C dX4_readsThings_59 (p := 3) (hi := rfl) (hv := rfl) ?_
                    refine g_iadd C dX4_readsThings_60 ?_
                    refine g_aload_n C dX4_readsThings_61 (p := 0) (hi := rfl) (hv := rfl) ?_
                    refine gc_g_X4_number C dX4_readsThings_62 wf_X4_59 ?_
                    refine (g_bipush C dX4_readsThings_65 (by decide)) ?_
                    refine g_isub C dX4_readsThings_67 ?_
                    refine gc_s_told C (by omega) dX4_readsThings_68 (by omega) (by omega) ?_
                    refine g_iinc C hn dX4_readsThings_69 (p := 3) rfl rfl rfl ?_
                    refine g_goto C (tgt := 33) dX4_readsThings_72 (by decide) ?_
                    refine g_sub [1, 2, 3, 0] rfl ?_
                    exact ihm33 _ (mu ((pnS (τn) 60).2) (a + 12) ((x2 * 4) + x3) ((((pnS (τn) 60).2) 3 6) - 30)) (kn - 1) (by exact RPC_mu (pnS_RPC hRn) (by omega) (by omega)) (by rw [mu_k (by omega), pnS_c (by omega), hpn]) (by first | rfl | assumption | omega) (by rw [← hen, rnG_eq (k := kn) (by omega), if_neg (by assumption)]) (by omega)
                  · refine g_iconst C dX4_readsThings_50 ?_
                    exact hret _ _ _ _ dX4_readsThings_51 (by first | (exfalso; omega) | (rw [← het]; first | (have hk0 : kt = 0 := (by omega); subst hk0; rfl) | (rw [rtG_eq (k := kt) (by omega)]; (repeat (first | rw [if_pos (by first | assumption | omega)] | rw [if_neg (by first | assumption | omega)])); first | done | rfl) | (rw [rtG_eq (k := kt) (by omega)]; simp only [hq]; (repeat (first | rw [if_pos (by first | assumption | omega)] | rw [if_neg (by first | assumption | omega)])); first | done | rfl) | (have hq0 : rnG a x2 (τt a 2).toNat 0 (stM τt) = (0, (pnS τn 60).2) := (by rw [← hen, rnG_eq (k := kn) (by omega), if_pos (by assumption)]); rw [rtG_eq (k := kt) (by omega)]; simp only [hq0]; (repeat (first | rw [if_pos (by first | assumption | omega)] | rw [if_neg (by first | assumption | omega)])); first | done | rfl))) (by first | (exfalso; omega) | (rw [← het]; first | (have hk0 : kt = 0 := (by omega); subst hk0; rfl) | (rw [rtG_eq (k := kt) (by omega)]; (repeat (first | rw [if_pos (by first | assumption | omega)] | rw [if_neg (by first | assumption | omega)])); first | done | rfl) | (rw [rtG_eq (k := kt) (by omega)]; simp only [hq]; (repeat (first | rw [if_pos (by first | assumption | omega)] | rw [if_neg (by first | assumption | omega)])); first | done | rfl) | (have hq0 : rnG a x2 (τt a 2).toNat 0 (stM τt) = (0, (pnS τn 60).2) := (by rw [← hen, rnG_eq (k := kn) (by omega), if_pos (by assumption)]); rw [rtG_eq (k := kt) (by omega)]; simp only [hq0]; (repeat (first | rw [if_pos (by first | assumption | omega)] | rw [if_neg (by first | assumption | omega)])); first | done | rfl)))
            refine g_sub [1, 2, 3, 0] rfl ?_
            exact L33 _ _ (stM (τt)) (τt a 2).toNat (by exact stM_RPC hRt.1) (by rw [stM_c (by omega)]) (by first | rfl | assumption | omega) (by first | rfl | assumption | omega) (Nat.lt_succ_self _)
          · refine g_aload_n C dX4_readsThings_21 (p := 0) (hi := rfl) (hv := rfl) ?_
            refine g_iconst C dX4_readsThings_22 ?_
            refine gc_call_X4 C dX4_readsThings_23 (kX4_isWrong (σ := τt) (k := 3) hap hE) mw_X4_isWrong wl_X4_46 (by decide) (by decide) rfl rfl (by simp [Value.category]) ?_
            exact hret _ _ _ _ dX4_readsThings_26 (by first | (exfalso; omega) | (rw [← het]; first | (have hk0 : kt = 0 := (by omega); subst hk0; rfl) | (rw [rtG_eq (k := kt) (by omega)]; (repeat (first | rw [if_pos (by first | assumption | omega)] | rw [if_neg (by first | assumption | omega)])); first | done | rfl) | (rw [rtG_eq (k := kt) (by omega)]; simp only [hq]; (repeat (first | rw [if_pos (by first | assumption | omega)] | rw [if_neg (by first | assumption | omega)])); first | done | rfl) | (have hq0 : rnG a x2 (τt a 2).toNat 0 (stM τt) = (0, (pnS τn 60).2) := (by rw [← hen, rnG_eq (k := kn) (by omega), if_pos (by assumption)]); rw [rtG_eq (k := kt) (by omega)]; simp only [hq0]; (repeat (first | rw [if_pos (by first | assumption | omega)] | rw [if_neg (by first | assumption | omega)])); first | done | rfl))) (by first | (exfalso; omega) | (rw [← het]; first | (have hk0 : kt = 0 := (by omega); subst hk0; rfl) | (rw [rtG_eq (k := kt) (by omega)]; (repeat (first | rw [if_pos (by first | assumption | omega)] | rw [if_neg (by first | assumption | omega)])); first | done | rfl) | (rw [rtG_eq (k := kt) (by omega)]; simp only [hq]; (repeat (first | rw [if_pos (by first | assumption | omega)] | rw [if_neg (by first | assumption | omega)])); first | done | rfl) | (have hq0 : rnG a x2 (τt a 2).toNat 0 (stM τt) = (0, (pnS τn 60).2) := (by rw [← hen, rnG_eq (k := kn) (by omega), if_pos (by assumption)]); rw [rtG_eq (k := kt) (by omega)]; simp only [hq0]; (repeat (first | rw [if_pos (by first | assumption | omega)] | rw [if_neg (by first | assumption | omega)])); first | done | rfl)))
  refine g_sub [1, 2, 0] rfl ?_
  exact L2 _ _ σ 6 (by first | rfl | assumption | omega) (by first | rfl | assumption | omega) (by first | rfl | assumption | omega) (by first | rfl | assumption | omega) (Nat.lt_succ_self _)

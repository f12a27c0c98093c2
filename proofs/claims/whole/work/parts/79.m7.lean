set_option maxHeartbeats 4000000 in
set_option maxRecDepth 100000 in
theorem kX9_copy {l : Launch} {K : Nat → ClassId} {D : va_G} {ad : Int → Nat} {E : gEnv} {σ : Mem} {a i b j n : Int} (hap : Apart ad 12) (hE : gEok E) (hm : ∀ r : Int, 0 ≤ r → r ≤ 7 → (-1 ≤ σ 1 r ∧ σ 1 r ≤ 2) ∧ (0 ≤ σ 2 r ∧ σ 2 r ≤ 40)) (ra : R3 a) (ri : R3 i) (rb : R3 b) (rj : R3 j) (rnn : R3 n) : CtI l K D ad 12 (cfM ad K) E yX9_copy cX9_copy 9 (some .int) 2 [.ref (ad 0), .int (iI a), .int (iI i), .int (iI b), .int (iI j), .int (iI n)] σ (if ¬ (0 ≤ a ∧ a ≤ 7) ∨ ¬ (0 ≤ b ∧ b ≤ 7) then -1000001 else if σ 1 a < 0 ∨ σ 1 b < 0 then -1000011 else if ¬ σ 1 a = σ 1 b then -1000015 else if i < 0 ∨ j < 0 ∨ n < 0 ∨ σ 2 a < i + n ∨ σ 2 b < j + n then -1000012 else n) (if ¬ (0 ≤ a ∧ a ≤ 7) ∨ ¬ (0 ≤ b ∧ b ≤ 7) then mu σ 0 0 0 else if σ 1 a < 0 ∨ σ 1 b < 0 then mu (mu σ 0 0 0) 0 1 1 else if ¬ σ 1 a = σ 1 b then mu (mu σ 0 0 0) 0 1 5 else if i < 0 ∨ j < 0 ∨ n < 0 ∨ σ 2 a < i + n ∨ σ 2 b < j + n then mu (mu σ 0 0 0) 0 1 2 else mr (mu (mu σ 0 0 0) 0 1 0) 3 (over (σ 3) (fun x => σ 3 (x + (40 * a + i - (40 * b + j)))) (40 * b + j) (40 * b + j + n))) := by
  have hma := hm a
  have hmb := hm b
  refine ctI_of hap hE (by decide) rfl .int (nar_i _) (fun M C hn hret => ?_)
  have C : Good l K D ad 12 E 2 cX9_copy RX9 M := C
  show G M ad 12 (cfM ad K) 0 [(0, .ref (ad 0)), (1, .int (iI a)), (2, .int (iI i)), (3, .int (iI b)), (4, .int (iI j)), (5, .int (iI n))] [] σ
  refine g_aload_n C dX9_copy_0 (p := 0) (hi := rfl) (hv := rfl) ?_
  refine g_iconst C dX9_copy_1 ?_
  refine gm_p_thrown C dX9_copy_2 wf_X9_44 ?_
  refine g_iload_n C dX9_copy_5 (p := 1) (hi := rfl) (hv := rfl) ?_
  refine g_callS C dX9_copy_6 (kX9_isRow (σ := (mu σ 0 0 0)) (r := a) hap hE (by first | assumption | omega | exact hm | exact ra | exact ri | exact rb | exact rj | exact rnn)) mw_X9_isRow wl_X9_58 (by decide) (by decide) rfl rfl (by simp [Value.category]) ?_
  refine g_if_eq C (tgt := 19) dX9_copy_9 (by decide) (by omega) (fun h_1 => ?_) (fun h_1 => ?_)
  · refine g_ldc C (n := (-1000001)) wk_X9_64 (by decide +kernel) dX9_copy_19 ?_
    exact hret _ _ _ _ dX9_copy_21 (by (try subst hqN); (repeat' split) <;> first | (exfalso; omega) | rfl | omega) (by (try subst hqN); (repeat' split) <;> first | (exfalso; omega) | rfl | exact mu_mu | (rw [show ((n.toNat : Nat) : Int) = n by omega]; done) | (rw [show ((n.toNat : Nat) : Int) = n by omega, show 40 * b + j + n - n = 40 * b + j by omega]))
  · refine g_iload_n C dX9_copy_12 (p := 3) (hi := rfl) (hv := rfl) ?_
    refine g_callS C dX9_copy_13 (kX9_isRow (σ := (mu σ 0 0 0)) (r := b) hap hE (by first | assumption | omega | exact hm | exact ra | exact ri | exact rb | exact rj | exact rnn)) mw_X9_isRow wl_X9_58 (by decide) (by decide) rfl rfl (by simp [Value.category]) ?_
    refine g_if_ne C (tgt := 22) dX9_copy_16 (by decide) (by omega) (fun h_2 => ?_) (fun h_2 => ?_)
    · refine g_aload_n C dX9_copy_22 (p := 0) (hi := rfl) (hv := rfl) ?_
      refine g_iconst C dX9_copy_23 ?_
      refine gm_p_status C dX9_copy_24 wf_X9_48 ?_
      refine g_aload_n C dX9_copy_27 (p := 0) (hi := rfl) (hv := rfl) ?_
      refine gm_g_lane C dX9_copy_28 wf_X9_7 ?_
      refine g_iload_n C dX9_copy_31 (p := 1) (hi := rfl) (hv := rfl) ?_
      refine gm_l_lane C dX9_copy_32 (by omega) (by omega) ?_
      refine g_cI (b := (σ 1 a)) (by first | rfl | (rw [mr_app, if_pos rfl]; exact over_out (by omega)) | simp [mu_app, mr_app]) ?_
      refine g_if_lt C (tgt := 45) dX9_copy_33 (by decide) (by have := hma (by omega) (by omega); have := hmb (by omega) (by omega); omega) (fun h_3 => ?_) (fun h_3 => ?_)
      · refine g_aload_n C dX9_copy_45 (p := 0) (hi := rfl) (hv := rfl) ?_
        refine g_iconst C dX9_copy_46 ?_
        refine gm_call C dX9_copy_47 (kX9_finding (σ := (mu (mu σ 0 0 0) 0 1 0)) (k := 1) hap hE) mw_X9_finding wl_X9_65 (by decide) (by decide) rfl rfl (by simp [Value.category]) ?_
        show G M ad 12 (cfM ad K) 50 [(0, .ref (ad 0)), (1, .int (iI a)), (2, .int (iI i)), (3, .int (iI b)), (4, .int (iI j)), (5, .int (iI n))] [.int (iI (-1000010 - 1))] (mu (mu (mu σ 0 0 0) 0 1 0) 0 1 1)
        exact hret _ _ _ _ dX9_copy_50 (by (try subst hqN); (repeat' split) <;> first | (exfalso; omega) | rfl | omega) (by (try subst hqN); (repeat' split) <;> first | (exfalso; omega) | rfl | exact mu_mu | (rw [show ((n.toNat : Nat) : Int) = n by omega]; done) | (rw [show ((n.toNat : Nat) : Int) = n by omega, show 40 * b + j + n - n = 40 * b + j by omega]))
      · refine g_aload_n C dX9_copy_36 (p := 0) (hi := rfl) (hv := rfl) ?_
        refine gm_g_lane C dX9_copy_37 wf_X9_7 ?_
        refine g_iload_n C dX9_copy_40 (p := 3) (hi := rfl) (hv := rfl) ?_
        refine gm_l_lane C dX9_copy_41 (by omega) (by omega) ?_
        refine g_cI (b := (σ 1 b)) (by first | rfl | (rw [mr_app, if_pos rfl]; exact over_out (by omega)) | simp [mu_app, mr_app]) ?_
        refine g_if_ge C (tgt := 51) dX9_copy_42 (by decide) (by have := hma (by omega) (by omega); have := hmb (by omega) (by omega); omega) (fun h_4 => ?_) (fun h_4 => ?_)
        · refine g_aload_n C dX9_copy_51 (p := 0) (hi := rfl) (hv := rfl) ?_
          refine gm_g_lane C dX9_copy_52 wf_X9_7 ?_
          refine g_iload_n C dX9_copy_55 (p := 1) (hi := rfl) (hv := rfl) ?_
          refine gm_l_lane C dX9_copy_56 (by omega) (by omega) ?_
          refine g_cI (b := (σ 1 a)) (by first | rfl | (rw [mr_app, if_pos rfl]; exact over_out (by omega)) | simp [mu_app, mr_app]) ?_
          refine g_aload_n C dX9_copy_57 (p := 0) (hi := rfl) (hv := rfl) ?_
          refine gm_g_lane C dX9_copy_58 wf_X9_7 ?_
          refine g_iload_n C dX9_copy_61 (p := 3) (hi := rfl) (hv := rfl) ?_
          refine gm_l_lane C dX9_copy_62 (by omega) (by omega) ?_
          refine g_cI (b := (σ 1 b)) (by first | rfl | (rw [mr_app, if_pos rfl]; exact over_out (by omega)) | simp [mu_app, mr_app]) ?_
          refine g_icmp_eq C (tgt := 72) dX9_copy_63 (by decide) (by have := hma (by omega) (by omega); have := hmb (by omega) (by omega); omega) (by have := hma (by omega) (by omega); have := hmb (by omega) (by omega); omega) (fun h_5 => ?_) (fun h_5 => ?_)
          · refine g_iload_n C dX9_copy_72 (p := 2) (hi := rfl) (hv := rfl) ?_
            refine g_if_lt C (tgt := 121) dX9_copy_73 (by decide) (by omega) (fun h_6 => ?_) (fun h_6 => ?_)
            · refine g_aload_n C dX9_copy_121 (p := 0) (hi := rfl) (hv := rfl) ?_
              refine g_iconst C dX9_copy_122 ?_
              refine gm_call C dX9_copy_123 (kX9_finding (σ := (mu (mu σ 0 0 0) 0 1 0)) (k := 2) hap hE) mw_X9_finding wl_X9_65 (by decide) (by decide) rfl rfl (by simp [Value.category]) ?_
              show G M ad 12 (cfM ad K) 126 [(0, .ref (ad 0)), (1, .int (iI a)), (2, .int (iI i)), (3, .int (iI b)), (4, .int (iI j)), (5, .int (iI n))] [.int (iI (-1000010 - 2))] (mu (mu (mu σ 0 0 0) 0 1 0) 0 1 2)
              exact hret _ _ _ _ dX9_copy_126 (by (try subst hqN); (repeat' split) <;> first | (exfalso; omega) | rfl | omega) (by (try subst hqN); (repeat' split) <;> first | (exfalso; omega) | rfl | exact mu_mu | (rw [show ((n.toNat : Nat) : Int) = n by omega]; done) | (rw [show ((n.toNat : Nat) : Int) = n by omega, show 40 * b + j + n - n = 40 * b + j by omega]))
            · refine g_iload C dX9_copy_76 (p := 4) rfl ?_
              refine g_if_lt C (tgt := 121) dX9_copy_78 (by decide) (by omega) (fun h_7 => ?_) (fun h_7 => ?_)
              · refine g_aload_n C dX9_copy_121 (p := 0) (hi := rfl) (hv := rfl) ?_
                refine g_iconst C dX9_copy_122 ?_
                refine gm_call C dX9_copy_123 (kX9_finding (σ := (mu (mu σ 0 0 0) 0 1 0)) (k := 2) hap hE) mw_X9_finding wl_X9_65 (by decide) (by decide) rfl rfl (by simp [Value.category]) ?_
                show G M ad 12 (cfM ad K) 126 [(0, .ref (ad 0)), (1, .int (iI a)), (2, .int (iI i)), (3, .int (iI b)), (4, .int (iI j)), (5, .int (iI n))] [.int (iI (-1000010 - 2))] (mu (mu (mu σ 0 0 0) 0 1 0) 0 1 2)
                exact hret _ _ _ _ dX9_copy_126 (by (try subst hqN); (repeat' split) <;> first | (exfalso; omega) | rfl | omega) (by (try subst hqN); (repeat' split) <;> first | (exfalso; omega) | rfl | exact mu_mu | (rw [show ((n.toNat : Nat) : Int) = n by omega]; done) | (rw [show ((n.toNat : Nat) : Int) = n by omega, show 40 * b + j + n - n = 40 * b + j by omega]))
              · refine g_iload C dX9_copy_81 (p := 5) rfl ?_
                refine g_if_lt C (tgt := 121) dX9_copy_83 (by decide) (by omega) (fun h_8 => ?_) (fun h_8 => ?_)
                · refine g_aload_n C dX9_copy_121 (p := 0) (hi := rfl) (hv := rfl) ?_
                  refine g_iconst C dX9_copy_122 ?_
                  refine gm_call C dX9_copy_123 (kX9_finding (σ := (mu (mu σ 0 0 0) 0 1 0)) (k := 2) hap hE) mw_X9_finding wl_X9_65 (by decide) (by decide) rfl rfl (by simp [Value.category]) ?_
                  show G M ad 12 (cfM ad K) 126 [(0, .ref (ad 0)), (1, .int (iI a)), (2, .int (iI i)), (3, .int (iI b)), (4, .int (iI j)), (5, .int (iI n))] [.int (iI (-1000010 - 2))] (mu (mu (mu σ 0 0 0) 0 1 0) 0 1 2)
                  exact hret _ _ _ _ dX9_copy_126 (by (try subst hqN); (repeat' split) <;> first | (exfalso; omega) | rfl | omega) (by (try subst hqN); (repeat' split) <;> first | (exfalso; omega) | rfl | exact mu_mu | (rw [show ((n.toNat : Nat) : Int) = n by omega]; done) | (rw [show ((n.toNat : Nat) : Int) = n by omega, show 40 * b + j + n - n = 40 * b + j by omega]))
                · refine g_iload_n C dX9_copy_86 (p := 2) (hi := rfl) (hv := rfl) ?_
                  refine g_i2l C (by omega) dX9_copy_87 ?_
                  refine g_iload C dX9_copy_88 (p := 5) rfl ?_
                  refine g_i2l C (by omega) dX9_copy_90 ?_
                  refine g_ladd C dX9_copy_91 ?_
                  refine g_aload_n C dX9_copy_92 (p := 0) (hi := rfl) (hv := rfl) ?_
                  refine gm_g_many C dX9_copy_93 wf_X9_13 ?_
                  refine g_iload_n C dX9_copy_96 (p := 1) (hi := rfl) (hv := rfl) ?_
                  refine gm_l_many C dX9_copy_97 (by omega) (by omega) ?_
                  refine g_cI (b := (σ 2 a)) (by first | rfl | (rw [mr_app, if_pos rfl]; exact over_out (by omega)) | simp [mu_app, mr_app]) ?_
                  refine g_i2l C (by have := hma (by omega) (by omega); have := hmb (by omega) (by omega); omega) dX9_copy_98 ?_
                  refine g_lcmp C (by have := hma (by omega) (by omega); have := hmb (by omega) (by omega); omega) (by have := hma (by omega) (by omega); have := hmb (by omega) (by omega); omega) dX9_copy_99 ?_
                  refine g_if_gt C (tgt := 121) dX9_copy_100 (by decide) (oCmp_R _ _) (fun h_9 => ?_) (fun h_9 => ?_)
                  · replace h_9 := oCmp_gt.mp h_9
                    refine g_aload_n C dX9_copy_121 (p := 0) (hi := rfl) (hv := rfl) ?_
                    refine g_iconst C dX9_copy_122 ?_
                    refine gm_call C dX9_copy_123 (kX9_finding (σ := (mu (mu σ 0 0 0) 0 1 0)) (k := 2) hap hE) mw_X9_finding wl_X9_65 (by decide) (by decide) rfl rfl (by simp [Value.category]) ?_
                    show G M ad 12 (cfM ad K) 126 [(0, .ref (ad 0)), (1, .int (iI a)), (2, .int (iI i)), (3, .int (iI b)), (4, .int (iI j)), (5, .int (iI n))] [.int (iI (-1000010 - 2))] (mu (mu (mu σ 0 0 0) 0 1 0) 0 1 2)
                    exact hret _ _ _ _ dX9_copy_126 (by (try subst hqN); (repeat' split) <;> first | (exfalso; omega) | rfl | omega) (by (try subst hqN); (repeat' split) <;> first | (exfalso; omega) | rfl | exact mu_mu | (rw [show ((n.toNat : Nat) : Int) = n by omega]; done) | (rw [show ((n.toNat : Nat) : Int) = n by omega, show 40 * b + j + n - n = 40 * b + j by omega]))
                  · replace h_9 := oCmp_ngt.mp h_9
                    refine g_iload C dX9_copy_103 (p := 4) rfl ?_
                    refine g_i2l C (by omega) dX9_copy_105 ?_
                    refine g_iload C dX9_copy_106 (p := 5) rfl ?_
                    refine g_i2l C (by omega) dX9_copy_108 ?_
                    refine g_ladd C dX9_copy_109 ?_
                    refine g_aload_n C dX9_copy_110 (p := 0) (hi := rfl) (hv := rfl) ?_
                    refine gm_g_many C dX9_copy_111 wf_X9_13 ?_
                    refine g_iload_n C dX9_copy_114 (p := 3) (hi := rfl) (hv := rfl) ?_
                    refine gm_l_many C dX9_copy_115 (by omega) (by omega) ?_
                    refine g_cI (b := (σ 2 b)) (by first | rfl | (rw [mr_app, if_pos rfl]; exact over_out (by omega)) | simp [mu_app, mr_app]) ?_
                    refine g_i2l C (by have := hma (by omega) (by omega); have := hmb (by omega) (by omega); omega) dX9_copy_116 ?_
                    refine g_lcmp C (by have := hma (by omega) (by omega); have := hmb (by omega) (by omega); omega) (by have := hma (by omega) (by omega); have := hmb (by omega) (by omega); omega) dX9_copy_117 ?_
                    refine g_if_le C (tgt := 127) dX9_copy_118 (by decide) (oCmp_R _ _) (fun h_10 => ?_) (fun h_10 => ?_)
                    · replace h_10 := oCmp_ngt.mp h_10
                      refine g_iload_n C dX9_copy_127 (p := 2) (hi := rfl) (hv := rfl) ?_
                      refine g_iload C dX9_copy_128 (p := 4) rfl ?_
                      refine g_icmp_lt C (tgt := 137) dX9_copy_130 (by decide) (by omega) (by omega) (fun h_11 => ?_) (fun h_11 => ?_)
                      · refine g_iconst C dX9_copy_137 ?_
                        refine g_istore C hn dX9_copy_138 rfl rfl ?_
                        refine g_iconst C dX9_copy_140 ?_
                        refine g_istore C hn dX9_copy_141 rfl rfl ?_
                        have L143 : ∀ q : Nat, q ≤ n.toNat → ∀ (x7 : Int), ∀ (τ143 : Mem), x7 = (q : Int) → τ143 = (mr (mu (mu σ 0 0 0) 0 1 0) 3 (over (σ 3) (fun x => σ 3 (x + (40 * a + i - (40 * b + j)))) (40 * b + j + n - (q : Int)) (40 * b + j + n))) → G M ad 12 (cfM ad K) 143 [(0, .ref (ad 0)), (1, .int (iI a)), (2, .int (iI i)), (3, .int (iI b)), (4, .int (iI j)), (5, .int (iI n)), (6, .int (iI 0)), (7, .int (iI x7))] [] τ143 := by
                          refine loopUp n.toNat ?_
                          rintro q hq ihq x7 τ143 rfl rfl
                          have hma1 := hma (by omega) (by omega)
                          have hmb1 := hmb (by omega) (by omega)
                          refine g_iload C dX9_copy_143 (p := 7) rfl ?_
                          refine g_iload C dX9_copy_145 (p := 5) rfl ?_
                          refine g_icmp_ge C (tgt := 204) dX9_copy_147 (by decide) (by omega) (by omega) (fun h_12 => ?_) (fun h_12 => ?_)
                          · have hqN : q = n.toNat := by omega
                            refine g_iload C dX9_copy_204 (p := 5) rfl ?_
                            exact hret _ _ _ _ dX9_copy_206 (by (try subst hqN); (try subst hqN); (repeat' split) <;> first | (exfalso; omega) | rfl | omega) (by (try subst hqN); (try subst hqN); (repeat' split) <;> first | (exfalso; omega) | rfl | exact mu_mu | (rw [show ((n.toNat : Nat) : Int) = n by omega]; done) | (rw [show ((n.toNat : Nat) : Int) = n by omega, show 40 * b + j + n - n = 40 * b + j by omega]))
                          · refine g_iload C dX9_copy_150 (p := 6) rfl ?_
                            refine g_if_eq C (tgt := 160) dX9_copy_152 (by decide) (by omega) (fun h_13 => ?_) (fun h_13 => ?_)
                            · refine g_iload C dX9_copy_160 (p := 5) rfl ?_
                              refine g_iconst C dX9_copy_162 ?_
                              refine g_isub C dX9_copy_163 ?_
                              refine g_iload C dX9_copy_164 (p := 7) rfl ?_
                              refine g_isub C dX9_copy_166 ?_
                              refine g_istore C hn dX9_copy_167 rfl rfl ?_
                              refine g_aload_n C dX9_copy_169 (p := 1) (hi := rfl) (hv := rfl) ?_
                              refine gm_g_item C dX9_copy_170 wf_X9_16 ?_
                              refine (g_bipush C dX9_copy_173 (by decide)) ?_
                              refine g_iload_n C dX9_copy_175 (p := 4) (hi := rfl) (hv := rfl) ?_
                              refine g_imul C dX9_copy_176 ?_
                              refine g_iload C dX9_copy_177 (p := 5) rfl ?_
                              refine g_iadd C dX9_copy_179 ?_
                              refine g_iload C dX9_copy_180 (p := 0) rfl ?_
                              refine g_iadd C dX9_copy_182 ?_
                              refine g_aload_n C dX9_copy_183 (p := 1) (hi := rfl) (hv := rfl) ?_
                              refine gm_g_item C dX9_copy_184 wf_X9_16 ?_
                              refine (g_bipush C dX9_copy_187 (by decide)) ?_
                              refine g_iload_n C dX9_copy_189 (p := 2) (hi := rfl) (hv := rfl) ?_
                              refine g_imul C dX9_copy_190 ?_
                              refine g_iload_n C dX9_copy_191 (p := 3) (hi := rfl) (hv := rfl) ?_
                              refine g_iadd C dX9_copy_192 ?_
                              refine g_iload C dX9_copy_193 (p := 0) rfl ?_
                              refine g_iadd C dX9_copy_195 ?_
                              refine gm_l_item C dX9_copy_196 (by omega) (by omega) ?_
                              refine g_cI (b := ((over (σ 3) (fun x => σ 3 (x + (40 * a + i - (40 * b + j)))) (40 * b + j + n - (q : Int)) (40 * b + j + n)) (((40 * a) + i) + ((n - 1) - (q : Int))))) (by first | rfl | (rw [mr_app, if_pos rfl]; exact over_out (by omega)) | simp [mu_app, mr_app]) ?_
                              refine gm_s_item C dX9_copy_197 (by omega) (by omega) ?_
                              refine g_iinc C hn dX9_copy_198 (p := 8) rfl rfl rfl ?_
                              refine g_goto C (tgt := 143) dX9_copy_201 (by decide) ?_
                              refine g_sub [2, 3, 4, 5, 6, 7, 8, 0] rfl ?_
                              exact ihq (by omega) _ _ (by first | rfl | omega) (by exact over_stepD (by omega) (by omega) (by omega) (by rw [over_out (by rcases (show a < b ∨ a = b ∨ b < a by omega) with e | e | e <;> omega)]; show σ 3 _ = σ 3 _; congr 1; omega))
                            · exact absurd h_13 (by decide)
                        refine g_sub [2, 3, 4, 5, 6, 7, 1, 0] rfl ?_
                        exact L143 0 (Nat.zero_le _) _ _ (by first | rfl | omega | simp) (by exact over_init (by omega))
                      · refine g_iconst C dX9_copy_133 ?_
                        refine g_goto C (tgt := 138) dX9_copy_134 (by decide) ?_
                        refine g_istore C hn dX9_copy_138 rfl rfl ?_
                        refine g_iconst C dX9_copy_140 ?_
                        refine g_istore C hn dX9_copy_141 rfl rfl ?_
                        have L143 : ∀ q : Nat, q ≤ n.toNat → ∀ (x7 : Int), ∀ (τ143 : Mem), x7 = (q : Int) → τ143 = (mr (mu (mu σ 0 0 0) 0 1 0) 3 (over (σ 3) (fun x => σ 3 (x + (40 * a + i - (40 * b + j)))) (40 * b + j) (40 * b + j + (q : Int)))) → G M ad 12 (cfM ad K) 143 [(0, .ref (ad 0)), (1, .int (iI a)), (2, .int (iI i)), (3, .int (iI b)), (4, .int (iI j)), (5, .int (iI n)), (6, .int (iI 1)), (7, .int (iI x7))] [] τ143 := by
                          refine loopUp n.toNat ?_
                          rintro q hq ihq x7 τ143 rfl rfl
                          have hma1 := hma (by omega) (by omega)
                          have hmb1 := hmb (by omega) (by omega)
                          refine g_iload C dX9_copy_143 (p := 7) rfl ?_
                          refine g_iload C dX9_copy_145 (p := 5) rfl ?_
                          refine g_icmp_ge C (tgt := 204) dX9_copy_147 (by decide) (by omega) (by omega) (fun h_14 => ?_) (fun h_14 => ?_)
                          · have hqN : q = n.toNat := by omega
                            refine g_iload C dX9_copy_204 (p := 5) rfl ?_
                            exact hret _ _ _ _ dX9_copy_206 (by (try subst hqN); (try subst hqN); (repeat' split) <;> first | (exfalso; omega) | rfl | omega) (by (try subst hqN); (try subst hqN); (repeat' split) <;> first | (exfalso; omega) | rfl | exact mu_mu | (rw [show ((n.toNat : Nat) : Int) = n by omega]; done) | (rw [show ((n.toNat : Nat) : Int) = n by omega, show 40 * b + j + n - n = 40 * b + j by omega]))
                          · refine g_iload C dX9_copy_150 (p := 6) rfl ?_
                            refine g_if_eq C (tgt := 160) dX9_copy_152 (by decide) (by omega) (fun h_15 => ?_) (fun h_15 => ?_)
                            · exact absurd h_15 (by decide)
                            · refine g_iload C dX9_copy_155 (p := 7) rfl ?_
                              refine g_goto C (tgt := 167) dX9_copy_157 (by decide) ?_
                              refine g_istore C hn dX9_copy_167 rfl rfl ?_
                              refine g_aload_n C dX9_copy_169 (p := 1) (hi := rfl) (hv := rfl) ?_
                              refine gm_g_item C dX9_copy_170 wf_X9_16 ?_
                              refine (g_bipush C dX9_copy_173 (by decide)) ?_
                              refine g_iload_n C dX9_copy_175 (p := 4) (hi := rfl) (hv := rfl) ?_
                              refine g_imul C dX9_copy_176 ?_
                              refine g_iload C dX9_copy_177 (p := 5) rfl ?_
                              refine g_iadd C dX9_copy_179 ?_
                              refine g_iload C dX9_copy_180 (p := 0) rfl ?_
                              refine g_iadd C dX9_copy_182 ?_
                              refine g_aload_n C dX9_copy_183 (p := 1) (hi := rfl) (hv := rfl) ?_
                              refine gm_g_item C dX9_copy_184 wf_X9_16 ?_
                              refine (g_bipush C dX9_copy_187 (by decide)) ?_
                              refine g_iload_n C dX9_copy_189 (p := 2) (hi := rfl) (hv := rfl) ?_
                              refine g_imul C dX9_copy_190 ?_
                              refine g_iload_n C dX9_copy_191 (p := 3) (hi := rfl) (hv := rfl) ?_
                              refine g_iadd C dX9_copy_192 ?_
                              refine g_iload C dX9_copy_193 (p := 0) rfl ?_
                              refine g_iadd C dX9_copy_195 ?_
                              refine gm_l_item C dX9_copy_196 (by omega) (by omega) ?_
                              refine g_cI (b := ((over (σ 3) (fun x => σ 3 (x + (40 * a + i - (40 * b + j)))) (40 * b + j) (40 * b + j + (q : Int))) (((40 * a) + i) + (q : Int)))) (by first | rfl | (rw [mr_app, if_pos rfl]; exact over_out (by omega)) | simp [mu_app, mr_app]) ?_
                              refine gm_s_item C dX9_copy_197 (by omega) (by omega) ?_
                              refine g_iinc C hn dX9_copy_198 (p := 8) rfl rfl rfl ?_
                              refine g_goto C (tgt := 143) dX9_copy_201 (by decide) ?_
                              refine g_sub [2, 3, 4, 5, 6, 7, 8, 0] rfl ?_
                              exact ihq (by omega) _ _ (by first | rfl | omega) (by exact over_step (by omega) (by omega) (by rw [over_out (by rcases (show a < b ∨ a = b ∨ b < a by omega) with e | e | e <;> omega)]; show σ 3 _ = σ 3 _; congr 1; omega))
                        refine g_sub [2, 3, 4, 5, 6, 7, 1, 0] rfl ?_
                        exact L143 0 (Nat.zero_le _) _ _ (by first | rfl | omega | simp) (by exact over_init (by omega))
                    · replace h_10 := oCmp_gt.mp h_10
                      refine g_aload_n C dX9_copy_121 (p := 0) (hi := rfl) (hv := rfl) ?_
                      refine g_iconst C dX9_copy_122 ?_
                      refine gm_call C dX9_copy_123 (kX9_finding (σ := (mu (mu σ 0 0 0) 0 1 0)) (k := 2) hap hE) mw_X9_finding wl_X9_65 (by decide) (by decide) rfl rfl (by simp [Value.category]) ?_
                      show G M ad 12 (cfM ad K) 126 [(0, .ref (ad 0)), (1, .int (iI a)), (2, .int (iI i)), (3, .int (iI b)), (4, .int (iI j)), (5, .int (iI n))] [.int (iI (-1000010 - 2))] (mu (mu (mu σ 0 0 0) 0 1 0) 0 1 2)
                      exact hret _ _ _ _ dX9_copy_126 (by (try subst hqN); (try subst hqN); (repeat' split) <;> first | (exfalso; omega) | rfl | omega) (by (try subst hqN); (try subst hqN); (repeat' split) <;> first | (exfalso; omega) | rfl | exact mu_mu | (rw [show ((n.toNat : Nat) : Int) = n by omega]; done) | (rw [show ((n.toNat : Nat) : Int) = n by omega, show 40 * b + j + n - n = 40 * b + j by omega]))
          · refine g_aload_n C dX9_copy_66 (p := 0) (hi := rfl) (hv := rfl) ?_
            refine g_iconst C dX9_copy_67 ?_
            refine gm_call C dX9_copy_68 (kX9_finding (σ := (mu (mu σ 0 0 0) 0 1 0)) (k := 5) hap hE) mw_X9_finding wl_X9_65 (by decide) (by decide) rfl rfl (by simp [Value.category]) ?_
            show G M ad 12 (cfM ad K) 71 [(0, .ref (ad 0)), (1, .int (iI a)), (2, .int (iI i)), (3, .int (iI b)), (4, .int (iI j)), (5, .int (iI n))] [.int (iI (-1000010 - 5))] (mu (mu (mu σ 0 0 0) 0 1 0) 0 1 5)
            exact hret _ _ _ _ dX9_copy_71 (by (try subst hqN); (try subst hqN); (repeat' split) <;> first | (exfalso; omega) | rfl | omega) (by (try subst hqN); (try subst hqN); (repeat' split) <;> first | (exfalso; omega) | rfl | exact mu_mu | (rw [show ((n.toNat : Nat) : Int) = n by omega]; done) | (rw [show ((n.toNat : Nat) : Int) = n by omega, show 40 * b + j + n - n = 40 * b + j by omega]))
        · refine g_aload_n C dX9_copy_45 (p := 0) (hi := rfl) (hv := rfl) ?_
          refine g_iconst C dX9_copy_46 ?_
          refine gm_call C dX9_copy_47 (kX9_finding (σ := (mu (mu σ 0 0 0) 0 1 0)) (k := 1) hap hE) mw_X9_finding wl_X9_65 (by decide) (by decide) rfl rfl (by simp [Value.category]) ?_
          show G M ad 12 (cfM ad K) 50 [(0, .ref (ad 0)), (1, .int (iI a)), (2, .int (iI i)), (3, .int (iI b)), (4, .int (iI j)), (5, .int (iI n))] [.int (iI (-1000010 - 1))] (mu (mu (mu σ 0 0 0) 0 1 0) 0 1 1)
          exact hret _ _ _ _ dX9_copy_50 (by (try subst hqN); (try subst hqN); (repeat' split) <;> first | (exfalso; omega) | rfl | omega) (by (try subst hqN); (try subst hqN); (repeat' split) <;> first | (exfalso; omega) | rfl | exact mu_mu | (rw [show ((n.toNat : Nat) : Int) = n by omega]; done) | (rw [show ((n.toNat : Nat) : Int) = n by omega, show 40 * b + j + n - n = 40 * b + j by omega]))
    · refine g_ldc C (n := (-1000001)) wk_X9_64 (by decide +kernel) dX9_copy_19 ?_
      exact hret _ _ _ _ dX9_copy_21 (by (try subst hqN); (try subst hqN); (repeat' split) <;> first | (exfalso; omega) | rfl | omega) (by (try subst hqN); (try subst hqN); (repeat' split) <;> first | (exfalso; omega) | rfl | exact mu_mu | (rw [show ((n.toNat : Nat) : Int) = n by omega]; done) | (rw [show ((n.toNat : Nat) : Int) = n by omega, show 40 * b + j + n - n = 40 * b + j by omega]))
set_option maxHeartbeats 4000000 in
set_option maxRecDepth 100000 in
theorem kX9_began {l : Launch} {K : Nat → ClassId} {D : va_G} {ad : Int → Nat} {E : gEnv} {σ : Mem} {b : Int} (hap : Apart ad 12) (hE : gEok E) (htc : (0 : Int) ≤ σ 0 23 ∧ σ 0 23 < 16) : CtV l K D ad 12 (cfM ad K) E yX9_began cX9_began 2 none 0 [.ref (ad 0), .int (iI b)] σ (mu (mu σ 11 (σ 0 23) b) 0 23 (σ 0 23 + 1)) := by
  refine ctV_of hap hE (by decide) rfl (fun M C hn hret => ?_)
  have C : Good l K D ad 12 E 0 cX9_began RX9 M := C
  show G M ad 12 (cfM ad K) 0 [(0, .ref (ad 0)), (1, .int (iI b))] [] σ
  refine g_aload_n C dX9_began_0 (p := 0) (hi := rfl) (hv := rfl) ?_
  refine gm_g_traced C dX9_began_1 wf_X9_251 ?_
  refine (g_bipush C dX9_began_4 (by decide)) ?_
  refine g_icmp_ge C (tgt := 29) dX9_began_6 (by decide) (by omega) (by omega) (fun h_1 => ?_) (fun h_1 => ?_)
  · exact hret _ _ _ dX9_began_29 (by first | rfl | omega | ((repeat' split) <;> first | (exfalso; omega) | rfl | exact mu_mu | omega))
  · refine g_aload_n C dX9_began_9 (p := 0) (hi := rfl) (hv := rfl) ?_
    refine gm_g_trace C dX9_began_10 wf_X9_41 ?_
    refine g_aload_n C dX9_began_13 (p := 0) (hi := rfl) (hv := rfl) ?_
    refine gm_g_traced C dX9_began_14 wf_X9_251 ?_
    refine g_iload_n C dX9_began_17 (p := 1) (hi := rfl) (hv := rfl) ?_
    refine gm_s_trace C dX9_began_18 (by omega) (by omega) ?_
    refine g_aload_n C dX9_began_19 (p := 0) (hi := rfl) (hv := rfl) ?_
    refine g_dup C dX9_began_20 rfl ?_
    refine gm_g_traced C dX9_began_21 wf_X9_251 ?_
    refine g_cI (b := (σ 0 23)) (by first | rfl | (rw [mr_app, if_pos rfl]; exact over_out (by omega)) | simp [mu_app, mr_app]) ?_
    refine g_iconst C dX9_began_24 ?_
    refine g_iadd C dX9_began_25 ?_
    refine gm_p_traced C dX9_began_26 wf_X9_251 ?_
    exact hret _ _ _ dX9_began_29 (by first | rfl | omega | ((repeat' split) <;> first | (exfalso; omega) | rfl | exact mu_mu | omega))
set_option maxHeartbeats 4000000 in
set_option maxRecDepth 100000 in
theorem kX9_plainSize {l : Launch} {K : Nat → ClassId} {D : va_G} {ad : Int → Nat} {E : gEnv} {σ : Mem} {p : Int} (hap : Apart ad 12) (hE : gEok E) (htc : (0 : Int) ≤ σ 0 23 ∧ σ 0 23 ≤ 15) (hpp : 0 ≤ p ∧ p < 4) : CtI l K D ad 12 (cfM ad K) E yX9_plainSize cX9_plainSize 2 (some .int) 1 [.ref (ad 0), .int (iI p)] σ (σ 4 (8 + p)) (mu (mu σ 11 (σ 0 23) 10) 0 23 (σ 0 23 + 1)) := by
  refine ctI_of hap hE (by decide) rfl .int (nar_i _) (fun M C hn hret => ?_)
  have C : Good l K D ad 12 E 1 cX9_plainSize RX9 M := C
  show G M ad 12 (cfM ad K) 0 [(0, .ref (ad 0)), (1, .int (iI p))] [] σ
  refine g_aload_n C dX9_plainSize_0 (p := 0) (hi := rfl) (hv := rfl) ?_
  refine (g_bipush C dX9_plainSize_1 (by decide)) ?_
  refine gm_callv C dX9_plainSize_3 (kX9_began (σ := σ) (b := 10) hap hE (by first | assumption | omega | exact htc | exact hpp)) mw_X9_began wl_X9_254 (by decide) (by decide) rfl rfl (by simp [Value.category]) ?_
  refine g_aload_n C dX9_plainSize_6 (p := 0) (hi := rfl) (hv := rfl) ?_
  refine gm_g_town C dX9_plainSize_7 wf_X9_19 ?_
  refine (g_bipush C dX9_plainSize_10 (by decide)) ?_
  refine g_iload_n C dX9_plainSize_12 (p := 1) (hi := rfl) (hv := rfl) ?_
  refine g_iadd C dX9_plainSize_13 ?_
  refine gm_l_town C dX9_plainSize_14 (by omega) (by omega) ?_
  refine g_cI (b := (σ 4 (8 + p))) (by first | rfl | (rw [mr_app, if_pos rfl]; exact over_out (by omega)) | simp [mu_app, mr_app]) ?_
  exact hret _ _ _ _ dX9_plainSize_15 (by first | rfl | omega | ((repeat' split) <;> first | (exfalso; omega) | rfl | exact mu_mu | omega)) (by first | rfl | omega | ((repeat' split) <;> first | (exfalso; omega) | rfl | exact mu_mu | omega))
set_option maxHeartbeats 4000000 in
set_option maxRecDepth 100000 in
theorem kX9_richSize_4 {l : Launch} {K : Nat → ClassId} {D : va_G} {ad : Int → Nat} {E : gEnv} {σ : Mem} {p : Int} (hap : Apart ad 12) (hE : gEok E) (htc : (0 : Int) ≤ σ 0 23 ∧ σ 0 23 ≤ 12) (hpp : 0 ≤ p ∧ p < 4) (hk : σ 4 (4 + p) = 4) : CtI l K D ad 12 (cfM ad K) E yX9_richSize cX9_richSize 3 (some .int) 2 [.ref (ad 0), .int (iI p)] σ (σ 4 (8 + p) - 100) (mu (mu (mu (mu σ 11 (σ 0 23) 13) 0 23 (σ 0 23 + 1)) 11 (σ 0 23 + 1) 10) 0 23 ((σ 0 23 + 1) + 1)) := by
  refine ctI_of hap hE (by decide) rfl .int (nar_i _) (fun M C hn hret => ?_)
  have C : Good l K D ad 12 E 2 cX9_richSize RX9 M := C
  show G M ad 12 (cfM ad K) 0 [(0, .ref (ad 0)), (1, .int (iI p))] [] σ
  refine g_aload_n C dX9_richSize_0 (p := 0) (hi := rfl) (hv := rfl) ?_
  refine gm_g_town C dX9_richSize_1 wf_X9_19 ?_
  refine g_iconst C dX9_richSize_4 ?_
  refine g_iload_n C dX9_richSize_5 (p := 1) (hi := rfl) (hv := rfl) ?_
  refine g_iadd C dX9_richSize_6 ?_
  refine gm_l_town C dX9_richSize_7 (by omega) (by omega) ?_
  refine g_cI (b := 4) (by exact hk) ?_
  refine g_iconst C dX9_richSize_8 ?_
  refine g_icmp_ne C (tgt := 18) dX9_richSize_9 (by decide) (by omega) (by omega) (fun h_1 => ?_) (fun h_1 => ?_)
  · refine g_aload_n C dX9_richSize_18 (p := 0) (hi := rfl) (hv := rfl) ?_
    refine (g_bipush C dX9_richSize_19 (by decide)) ?_
    refine gm_callv C dX9_richSize_21 (kX9_began (σ := σ) (b := 13) hap hE (by first | assumption | omega | exact htc | exact hpp | exact hk)) mw_X9_began wl_X9_254 (by decide) (by decide) rfl rfl (by simp [Value.category]) ?_
    refine g_aload_n C dX9_richSize_24 (p := 0) (hi := rfl) (hv := rfl) ?_
    refine g_iload_n C dX9_richSize_25 (p := 1) (hi := rfl) (hv := rfl) ?_
    refine gm_call C dX9_richSize_26 (kX9_plainSize (σ := (mu (mu σ 11 (σ 0 23) 13) 0 23 (σ 0 23 + 1))) (p := p) hap hE (by show (0 : Int) ≤ (σ 0 23 + 1) ∧ (σ 0 23 + 1) ≤ 15; first | assumption | omega | exact htc | exact hpp | exact hk) (by first | assumption | omega | exact htc | exact hpp | exact hk)) mw_X9_plainSize wl_X9_257 (by decide) (by decide) rfl rfl (by simp [Value.category]) ?_
    refine g_cI (b := (σ 4 (8 + p))) (by first | rfl | (congr 1 <;> first | rfl | exact over_out (by omega)) | (congr 2 <;> first | rfl | exact over_out (by omega)) | simp [mu_app, mr_app]) ?_
    show G M ad 12 (cfM ad K) 29 [(0, .ref (ad 0)), (1, .int (iI p))] [.int (iI (σ 4 (8 + p)))] (mu (mu (mu (mu σ 11 (σ 0 23) 13) 0 23 (σ 0 23 + 1)) 11 (σ 0 23 + 1) 10) 0 23 ((σ 0 23 + 1) + 1))
    refine (g_bipush C dX9_richSize_29 (by decide)) ?_
    refine g_isub C dX9_richSize_31 ?_
    refine g_istore_n C hn dX9_richSize_32 rfl rfl rfl ?_
    refine g_aload_n C dX9_richSize_33 (p := 1) (hi := rfl) (hv := rfl) ?_
    refine gm_g_town C dX9_richSize_34 wf_X9_19 ?_
    refine g_iconst C dX9_richSize_37 ?_
    refine g_iload_n C dX9_richSize_38 (p := 2) (hi := rfl) (hv := rfl) ?_
    refine g_iadd C dX9_richSize_39 ?_
    refine gm_l_town C dX9_richSize_40 (by omega) (by omega) ?_
    refine g_cI (b := (σ 4 (4 + p))) (by first | rfl | (rw [mr_app, if_pos rfl]; exact over_out (by omega)) | simp [mu_app, mr_app]) ?_
    refine g_cI (b := 4) (by exact hk) ?_
    refine g_iconst C dX9_richSize_41 ?_
    refine g_icmp_ne C (tgt := 51) dX9_richSize_42 (by decide) (by omega) (by omega) (fun h_2 => ?_) (fun h_2 => ?_)
    · refine g_iload_n C dX9_richSize_51 (p := 0) (hi := rfl) (hv := rfl) ?_
      exact hret _ _ _ _ dX9_richSize_52 (by first | rfl | omega | ((repeat' split) <;> first | (exfalso; omega) | rfl | exact mu_mu | omega)) (by first | rfl | omega | ((repeat' split) <;> first | (exfalso; omega) | rfl | exact mu_mu | omega))
    · exact absurd h_2 (by decide)
  · exact absurd h_1 (by decide)
set_option maxHeartbeats 4000000 in
set_option maxRecDepth 100000 in
theorem kX9_richSize_5 {l : Launch} {K : Nat → ClassId} {D : va_G} {ad : Int → Nat} {E : gEnv} {σ : Mem} {p : Int} (hap : Apart ad 12) (hE : gEok E) (htc : (0 : Int) ≤ σ 0 23 ∧ σ 0 23 ≤ 12) (hpp : 0 ≤ p ∧ p < 4) (hk : σ 4 (4 + p) = 5) : CtI l K D ad 12 (cfM ad K) E yX9_richSize cX9_richSize 3 (some .int) 2 [.ref (ad 0), .int (iI p)] σ (2 * (σ 4 (8 + p) - 100)) (mu (mu (mu (mu (mu (mu σ 11 (σ 0 23) 14) 0 23 (σ 0 23 + 1)) 11 (σ 0 23 + 1) 13) 0 23 ((σ 0 23 + 1) + 1)) 11 ((σ 0 23 + 1) + 1) 10) 0 23 (((σ 0 23 + 1) + 1) + 1)) := by
  refine ctI_of hap hE (by decide) rfl .int (nar_i _) (fun M C hn hret => ?_)
  have C : Good l K D ad 12 E 2 cX9_richSize RX9 M := C
  show G M ad 12 (cfM ad K) 0 [(0, .ref (ad 0)), (1, .int (iI p))] [] σ
  refine g_aload_n C dX9_richSize_0 (p := 0) (hi := rfl) (hv := rfl) ?_
  refine gm_g_town C dX9_richSize_1 wf_X9_19 ?_
  refine g_iconst C dX9_richSize_4 ?_
  refine g_iload_n C dX9_richSize_5 (p := 1) (hi := rfl) (hv := rfl) ?_
  refine g_iadd C dX9_richSize_6 ?_
  refine gm_l_town C dX9_richSize_7 (by omega) (by omega) ?_
  refine g_cI (b := 5) (by exact hk) ?_
  refine g_iconst C dX9_richSize_8 ?_
  refine g_icmp_ne C (tgt := 18) dX9_richSize_9 (by decide) (by omega) (by omega) (fun h_1 => ?_) (fun h_1 => ?_)
  · exact absurd h_1 (by decide)
  · refine g_aload_n C dX9_richSize_12 (p := 0) (hi := rfl) (hv := rfl) ?_
    refine (g_bipush C dX9_richSize_13 (by decide)) ?_
    refine gm_callv C dX9_richSize_15 (kX9_began (σ := σ) (b := 14) hap hE (by first | assumption | omega | exact htc | exact hpp | exact hk)) mw_X9_began wl_X9_254 (by decide) (by decide) rfl rfl (by simp [Value.category]) ?_
    refine g_aload_n C dX9_richSize_18 (p := 0) (hi := rfl) (hv := rfl) ?_
    refine (g_bipush C dX9_richSize_19 (by decide)) ?_
    refine gm_callv C dX9_richSize_21 (kX9_began (σ := (mu (mu σ 11 (σ 0 23) 14) 0 23 (σ 0 23 + 1))) (b := 13) hap hE (by show (0 : Int) ≤ (σ 0 23 + 1) ∧ (σ 0 23 + 1) < 16; first | assumption | omega | exact htc | exact hpp | exact hk)) mw_X9_began wl_X9_254 (by decide) (by decide) rfl rfl (by simp [Value.category]) ?_
    show G M ad 12 (cfM ad K) 24 [(0, .ref (ad 0)), (1, .int (iI p))] [] (mu (mu (mu (mu σ 11 (σ 0 23) 14) 0 23 (σ 0 23 + 1)) 11 (σ 0 23 + 1) 13) 0 23 ((σ 0 23 + 1) + 1))
    refine g_aload_n C dX9_richSize_24 (p := 0) (hi := rfl) (hv := rfl) ?_
    refine g_iload_n C dX9_richSize_25 (p := 1) (hi := rfl) (hv := rfl) ?_
    refine gm_call C dX9_richSize_26 (kX9_plainSize (σ := (mu (mu (mu (mu σ 11 (σ 0 23) 14) 0 23 (σ 0 23 + 1)) 11 (σ 0 23 + 1) 13) 0 23 ((σ 0 23 + 1) + 1))) (p := p) hap hE (by show (0 : Int) ≤ ((σ 0 23 + 1) + 1) ∧ ((σ 0 23 + 1) + 1) ≤ 15; first | assumption | omega | exact htc | exact hpp | exact hk) (by first | assumption | omega | exact htc | exact hpp | exact hk)) mw_X9_plainSize wl_X9_257 (by decide) (by decide) rfl rfl (by simp [Value.category]) ?_
    refine g_cI (b := (σ 4 (8 + p))) (by first | rfl | (congr 1 <;> first | rfl | exact over_out (by omega)) | (congr 2 <;> first | rfl | exact over_out (by omega)) | simp [mu_app, mr_app]) ?_
    show G M ad 12 (cfM ad K) 29 [(0, .ref (ad 0)), (1, .int (iI p))] [.int (iI (σ 4 (8 + p)))] (mu (mu (mu (mu (mu (mu σ 11 (σ 0 23) 14) 0 23 (σ 0 23 + 1)) 11 (σ 0 23 + 1) 13) 0 23 ((σ 0 23 + 1) + 1)) 11 ((σ 0 23 + 1) + 1) 10) 0 23 (((σ 0 23 + 1) + 1) + 1))
    refine (g_bipush C dX9_richSize_29 (by decide)) ?_
    refine g_isub C dX9_richSize_31 ?_
    refine g_istore_n C hn dX9_richSize_32 rfl rfl rfl ?_
    refine g_aload_n C dX9_richSize_33 (p := 1) (hi := rfl) (hv := rfl) ?_
    refine gm_g_town C dX9_richSize_34 wf_X9_19 ?_
    refine g_iconst C dX9_richSize_37 ?_
    refine g_iload_n C dX9_richSize_38 (p := 2) (hi := rfl) (hv := rfl) ?_
    refine g_iadd C dX9_richSize_39 ?_
    refine gm_l_town C dX9_richSize_40 (by omega) (by omega) ?_
    refine g_cI (b := (σ 4 (4 + p))) (by first | rfl | (rw [mr_app, if_pos rfl]; exact over_out (by omega)) | simp [mu_app, mr_app]) ?_
    refine g_cI (b := 5) (by exact hk) ?_
    refine g_iconst C dX9_richSize_41 ?_
    refine g_icmp_ne C (tgt := 51) dX9_richSize_42 (by decide) (by omega) (by omega) (fun h_2 => ?_) (fun h_2 => ?_)
    · exact absurd h_2 (by decide)
    · refine g_iconst C dX9_richSize_45 ?_
      refine g_iload_n C dX9_richSize_46 (p := 0) (hi := rfl) (hv := rfl) ?_
      refine g_imul C dX9_richSize_47 ?_
      refine g_goto C (tgt := 52) dX9_richSize_48 (by decide) ?_
      exact hret _ _ _ _ dX9_richSize_52 (by first | rfl | omega | ((repeat' split) <;> first | (exfalso; omega) | rfl | exact mu_mu | omega)) (by first | rfl | omega | ((repeat' split) <;> first | (exfalso; omega) | rfl | exact mu_mu | omega))
set_option maxHeartbeats 4000000 in
set_option maxRecDepth 100000 in
theorem kX9_markOf_1 {l : Launch} {K : Nat → ClassId} {D : va_G} {ad : Int → Nat} {E : gEnv} {σ : Mem} {p : Int} (hap : Apart ad 12) (hE : gEok E) (hT : TW (σ 4)) (htc : (0 : Int) ≤ σ 0 23 ∧ σ 0 23 ≤ 10) (hpp : 0 ≤ p ∧ p < 4) (hk : σ 4 (4 + p) = 1) : CtI l K D ad 12 (cfM ad K) E yX9_markOf cX9_markOf 4 (some .int) 3 [.ref (ad 0), .int (iI p)] σ (p + thoF (σ 4) p (σ 4 3).toNat) (mu (mu (mu (mu σ 11 (σ 0 23) 21) 0 23 (σ 0 23 + 1)) 11 (σ 0 23 + 1) 20) 0 23 ((σ 0 23 + 1) + 1)) := by
  refine ctI_of hap hE (by decide) rfl .int (nar_i _) (fun M C hn hret => ?_)
  have C : Good l K D ad 12 E 3 cX9_markOf RX9 M := C
  show G M ad 12 (cfM ad K) 0 [(0, .ref (ad 0)), (1, .int (iI p))] [] σ
  refine g_aload_n C dX9_markOf_0 (p := 0) (hi := rfl) (hv := rfl) ?_
  refine gm_g_town C dX9_markOf_1 wf_X9_19 ?_
  refine g_iconst C dX9_markOf_4 ?_
  refine g_iload_n C dX9_markOf_5 (p := 1) (hi := rfl) (hv := rfl) ?_
  refine g_iadd C dX9_markOf_6 ?_
  refine gm_l_town C dX9_markOf_7 (by omega) (by omega) ?_
  refine g_cI (b := 1) (by exact hk) ?_
  refine g_istore_n C hn dX9_markOf_8 rfl rfl rfl ?_
  refine g_iload_n C dX9_markOf_9 (p := 0) (hi := rfl) (hv := rfl) ?_
  refine g_iconst C dX9_markOf_10 ?_
  refine g_icmp_lt C (tgt := 34) dX9_markOf_11 (by decide) (by omega) (by omega) (fun h_1 => ?_) (fun h_1 => ?_)
  · refine g_iload_n C dX9_markOf_34 (p := 0) (hi := rfl) (hv := rfl) ?_
    refine g_iconst C dX9_markOf_35 ?_
    refine g_icmp_eq C (tgt := 55) dX9_markOf_36 (by decide) (by omega) (by omega) (fun h_2 => ?_) (fun h_2 => ?_)
    · refine g_aload_n C dX9_markOf_55 (p := 1) (hi := rfl) (hv := rfl) ?_
      refine (g_bipush C dX9_markOf_56 (by decide)) ?_
      refine gm_callv C dX9_markOf_58 (kX9_began (σ := σ) (b := 21) hap hE (by first | assumption | omega | exact hT | exact htc | exact hpp | exact hk)) mw_X9_began wl_X9_254 (by decide) (by decide) rfl rfl (by simp [Value.category]) ?_
      refine g_aload_n C dX9_markOf_61 (p := 1) (hi := rfl) (hv := rfl) ?_
      refine (g_bipush C dX9_markOf_62 (by decide)) ?_
      refine gm_callv C dX9_markOf_64 (kX9_began (σ := (mu (mu σ 11 (σ 0 23) 21) 0 23 (σ 0 23 + 1))) (b := 20) hap hE (by show (0 : Int) ≤ (σ 0 23 + 1) ∧ (σ 0 23 + 1) < 16; first | assumption | omega | exact hT | exact htc | exact hpp | exact hk)) mw_X9_began wl_X9_254 (by decide) (by decide) rfl rfl (by simp [Value.category]) ?_
      show G M ad 12 (cfM ad K) 67 [(2, .int (iI 1)), (0, .ref (ad 0)), (1, .int (iI p))] [] (mu (mu (mu (mu σ 11 (σ 0 23) 21) 0 23 (σ 0 23 + 1)) 11 (σ 0 23 + 1) 20) 0 23 ((σ 0 23 + 1) + 1))
      refine g_iload_n C dX9_markOf_67 (p := 2) (hi := rfl) (hv := rfl) ?_
      refine g_aload_n C dX9_markOf_68 (p := 1) (hi := rfl) (hv := rfl) ?_
      refine g_iload_n C dX9_markOf_69 (p := 2) (hi := rfl) (hv := rfl) ?_
      refine gm_call C dX9_markOf_70 (kX9_thingsOf (σ := (mu (mu (mu (mu σ 11 (σ 0 23) 21) 0 23 (σ 0 23 + 1)) 11 (σ 0 23 + 1) 20) 0 23 ((σ 0 23 + 1) + 1))) (p := p) hap hE (by show TW (σ 4); first | assumption | omega | exact hT | exact htc | exact hpp | exact hk) (by first | assumption | omega | exact hT | exact htc | exact hpp | exact hk)) mw_X9_thingsOf wl_X9_263 (by decide) (by decide) rfl rfl (by simp [Value.category]) ?_
      refine g_cI (b := (thoF (σ 4) p (σ 4 3).toNat)) (by first | rfl | (congr 1 <;> first | rfl | exact over_out (by omega)) | (congr 2 <;> first | rfl | exact over_out (by omega)) | simp [mu_app, mr_app]) ?_
      refine g_iadd C dX9_markOf_73 ?_
      refine g_istore_n C hn dX9_markOf_74 rfl rfl rfl ?_
      refine g_iload_n C dX9_markOf_75 (p := 1) (hi := rfl) (hv := rfl) ?_
      refine g_iconst C dX9_markOf_76 ?_
      refine g_icmp_ne C (tgt := 84) dX9_markOf_77 (by decide) (by omega) (by omega) (fun h_3 => ?_) (fun h_3 => ?_)
      · exact absurd h_3 (by decide)
      · refine g_iload_n C dX9_markOf_80 (p := 0) (hi := rfl) (hv := rfl) ?_
        refine g_goto C (tgt := 100) dX9_markOf_81 (by decide) ?_
        exact hret _ _ _ _ dX9_markOf_100 (by first | rfl | omega | ((repeat' split) <;> first | (exfalso; omega) | rfl | exact mu_mu | omega)) (by first | rfl | omega | ((repeat' split) <;> first | (exfalso; omega) | rfl | exact mu_mu | omega))
    · exact absurd h_2 (by decide)
  · exact absurd h_1 (by decide)
set_option maxHeartbeats 4000000 in
set_option maxRecDepth 100000 in
theorem kX9_markOf_2 {l : Launch} {K : Nat → ClassId} {D : va_G} {ad : Int → Nat} {E : gEnv} {σ : Mem} {p : Int} (hap : Apart ad 12) (hE : gEok E) (hT : TW (σ 4)) (htc : (0 : Int) ≤ σ 0 23 ∧ σ 0 23 ≤ 10) (hpp : 0 ≤ p ∧ p < 4) (hk : σ 4 (4 + p) = 2) : CtI l K D ad 12 (cfM ad K) E yX9_markOf cX9_markOf 4 (some .int) 3 [.ref (ad 0), .int (iI p)] σ (2 * (p + thoF (σ 4) p (σ 4 3).toNat)) (mu (mu (mu (mu (mu (mu σ 11 (σ 0 23) 24) 0 23 (σ 0 23 + 1)) 11 (σ 0 23 + 1) 21) 0 23 ((σ 0 23 + 1) + 1)) 11 ((σ 0 23 + 1) + 1) 20) 0 23 (((σ 0 23 + 1) + 1) + 1)) := by
  refine ctI_of hap hE (by decide) rfl .int (nar_i _) (fun M C hn hret => ?_)
  have C : Good l K D ad 12 E 3 cX9_markOf RX9 M := C
  show G M ad 12 (cfM ad K) 0 [(0, .ref (ad 0)), (1, .int (iI p))] [] σ
  refine g_aload_n C dX9_markOf_0 (p := 0) (hi := rfl) (hv := rfl) ?_
  refine gm_g_town C dX9_markOf_1 wf_X9_19 ?_
  refine g_iconst C dX9_markOf_4 ?_
  refine g_iload_n C dX9_markOf_5 (p := 1) (hi := rfl) (hv := rfl) ?_
  refine g_iadd C dX9_markOf_6 ?_
  refine gm_l_town C dX9_markOf_7 (by omega) (by omega) ?_
  refine g_cI (b := 2) (by exact hk) ?_
  refine g_istore_n C hn dX9_markOf_8 rfl rfl rfl ?_
  refine g_iload_n C dX9_markOf_9 (p := 0) (hi := rfl) (hv := rfl) ?_
  refine g_iconst C dX9_markOf_10 ?_
  refine g_icmp_lt C (tgt := 34) dX9_markOf_11 (by decide) (by omega) (by omega) (fun h_1 => ?_) (fun h_1 => ?_)
  · refine g_iload_n C dX9_markOf_34 (p := 0) (hi := rfl) (hv := rfl) ?_
    refine g_iconst C dX9_markOf_35 ?_
    refine g_icmp_eq C (tgt := 55) dX9_markOf_36 (by decide) (by omega) (by omega) (fun h_2 => ?_) (fun h_2 => ?_)
    · exact absurd h_2 (by decide)
    · refine g_aload_n C dX9_markOf_39 (p := 1) (hi := rfl) (hv := rfl) ?_
      refine g_iload_n C dX9_markOf_40 (p := 0) (hi := rfl) (hv := rfl) ?_
      refine g_iconst C dX9_markOf_41 ?_
      refine g_icmp_ne C (tgt := 50) dX9_markOf_42 (by decide) (by omega) (by omega) (fun h_3 => ?_) (fun h_3 => ?_)
      · refine (g_bipush C dX9_markOf_50 (by decide)) ?_
        refine gm_callv C dX9_markOf_52 (kX9_began (σ := σ) (b := 24) hap hE (by first | assumption | omega | exact hT | exact htc | exact hpp | exact hk)) mw_X9_began wl_X9_254 (by decide) (by decide) rfl rfl (by simp [Value.category]) ?_
        refine g_aload_n C dX9_markOf_55 (p := 1) (hi := rfl) (hv := rfl) ?_
        refine (g_bipush C dX9_markOf_56 (by decide)) ?_
        refine gm_callv C dX9_markOf_58 (kX9_began (σ := (mu (mu σ 11 (σ 0 23) 24) 0 23 (σ 0 23 + 1))) (b := 21) hap hE (by show (0 : Int) ≤ (σ 0 23 + 1) ∧ (σ 0 23 + 1) < 16; first | assumption | omega | exact hT | exact htc | exact hpp | exact hk)) mw_X9_began wl_X9_254 (by decide) (by decide) rfl rfl (by simp [Value.category]) ?_
        show G M ad 12 (cfM ad K) 61 [(2, .int (iI 2)), (0, .ref (ad 0)), (1, .int (iI p))] [] (mu (mu (mu (mu σ 11 (σ 0 23) 24) 0 23 (σ 0 23 + 1)) 11 (σ 0 23 + 1) 21) 0 23 ((σ 0 23 + 1) + 1))
        refine g_aload_n C dX9_markOf_61 (p := 1) (hi := rfl) (hv := rfl) ?_
        refine (g_bipush C dX9_markOf_62 (by decide)) ?_
        refine gm_callv C dX9_markOf_64 (kX9_began (σ := (mu (mu (mu (mu σ 11 (σ 0 23) 24) 0 23 (σ 0 23 + 1)) 11 (σ 0 23 + 1) 21) 0 23 ((σ 0 23 + 1) + 1))) (b := 20) hap hE (by show (0 : Int) ≤ ((σ 0 23 + 1) + 1) ∧ ((σ 0 23 + 1) + 1) < 16; first | assumption | omega | exact hT | exact htc | exact hpp | exact hk)) mw_X9_began wl_X9_254 (by decide) (by decide) rfl rfl (by simp [Value.category]) ?_
        show G M ad 12 (cfM ad K) 67 [(2, .int (iI 2)), (0, .ref (ad 0)), (1, .int (iI p))] [] (mu (mu (mu (mu (mu (mu σ 11 (σ 0 23) 24) 0 23 (σ 0 23 + 1)) 11 (σ 0 23 + 1) 21) 0 23 ((σ 0 23 + 1) + 1)) 11 ((σ 0 23 + 1) + 1) 20) 0 23 (((σ 0 23 + 1) + 1) + 1))
        refine g_iload_n C dX9_markOf_67 (p := 2) (hi := rfl) (hv := rfl) ?_
        refine g_aload_n C dX9_markOf_68 (p := 1) (hi := rfl) (hv := rfl) ?_
        refine g_iload_n C dX9_markOf_69 (p := 2) (hi := rfl) (hv := rfl) ?_
        refine gm_call C dX9_markOf_70 (kX9_thingsOf (σ := (mu (mu (mu (mu (mu (mu σ 11 (σ 0 23) 24) 0 23 (σ 0 23 + 1)) 11 (σ 0 23 + 1) 21) 0 23 ((σ 0 23 + 1) + 1)) 11 ((σ 0 23 + 1) + 1) 20) 0 23 (((σ 0 23 + 1) + 1) + 1))) (p := p) hap hE (by show TW (σ 4); first | assumption | omega | exact hT | exact htc | exact hpp | exact hk) (by first | assumption | omega | exact hT | exact htc | exact hpp | exact hk)) mw_X9_thingsOf wl_X9_263 (by decide) (by decide) rfl rfl (by simp [Value.category]) ?_
        refine g_cI (b := (thoF (σ 4) p (σ 4 3).toNat)) (by first | rfl | (congr 1 <;> first | rfl | exact over_out (by omega)) | (congr 2 <;> first | rfl | exact over_out (by omega)) | simp [mu_app, mr_app]) ?_
        refine g_iadd C dX9_markOf_73 ?_
        refine g_istore_n C hn dX9_markOf_74 rfl rfl rfl ?_
        refine g_iload_n C dX9_markOf_75 (p := 1) (hi := rfl) (hv := rfl) ?_
        refine g_iconst C dX9_markOf_76 ?_
        refine g_icmp_ne C (tgt := 84) dX9_markOf_77 (by decide) (by omega) (by omega) (fun h_4 => ?_) (fun h_4 => ?_)
        · refine g_iload_n C dX9_markOf_84 (p := 1) (hi := rfl) (hv := rfl) ?_
          refine g_iconst C dX9_markOf_85 ?_
          refine g_icmp_ne C (tgt := 97) dX9_markOf_86 (by decide) (by omega) (by omega) (fun h_5 => ?_) (fun h_5 => ?_)
          · refine g_iconst C dX9_markOf_97 ?_
            refine g_iload_n C dX9_markOf_98 (p := 0) (hi := rfl) (hv := rfl) ?_
            refine g_imul C dX9_markOf_99 ?_
            exact hret _ _ _ _ dX9_markOf_100 (by first | rfl | omega | ((repeat' split) <;> first | (exfalso; omega) | rfl | exact mu_mu | omega)) (by first | rfl | omega | ((repeat' split) <;> first | (exfalso; omega) | rfl | exact mu_mu | omega))
          · exact absurd h_5 (by decide)
        · exact absurd h_4 (by decide)
      · exact absurd h_3 (by decide)
  · exact absurd h_1 (by decide)
set_option maxHeartbeats 4000000 in
set_option maxRecDepth 100000 in
theorem kX9_markOf_3 {l : Launch} {K : Nat → ClassId} {D : va_G} {ad : Int → Nat} {E : gEnv} {σ : Mem} {p : Int} (hap : Apart ad 12) (hE : gEok E) (hT : TW (σ 4)) (htc : (0 : Int) ≤ σ 0 23 ∧ σ 0 23 ≤ 10) (hpp : 0 ≤ p ∧ p < 4) (hk : σ 4 (4 + p) = 3) : CtI l K D ad 12 (cfM ad K) E yX9_markOf cX9_markOf 4 (some .int) 3 [.ref (ad 0), .int (iI p)] σ (p + thoF (σ 4) p (σ 4 3).toNat - 1000) (mu (mu (mu (mu (mu (mu σ 11 (σ 0 23) 22) 0 23 (σ 0 23 + 1)) 11 (σ 0 23 + 1) 21) 0 23 ((σ 0 23 + 1) + 1)) 11 ((σ 0 23 + 1) + 1) 20) 0 23 (((σ 0 23 + 1) + 1) + 1)) := by
  refine ctI_of hap hE (by decide) rfl .int (nar_i _) (fun M C hn hret => ?_)
  have C : Good l K D ad 12 E 3 cX9_markOf RX9 M := C
  show G M ad 12 (cfM ad K) 0 [(0, .ref (ad 0)), (1, .int (iI p))] [] σ
  refine g_aload_n C dX9_markOf_0 (p := 0) (hi := rfl) (hv := rfl) ?_
  refine gm_g_town C dX9_markOf_1 wf_X9_19 ?_
  refine g_iconst C dX9_markOf_4 ?_
  refine g_iload_n C dX9_markOf_5 (p := 1) (hi := rfl) (hv := rfl) ?_
  refine g_iadd C dX9_markOf_6 ?_
  refine gm_l_town C dX9_markOf_7 (by omega) (by omega) ?_
  refine g_cI (b := 3) (by exact hk) ?_
  refine g_istore_n C hn dX9_markOf_8 rfl rfl rfl ?_
  refine g_iload_n C dX9_markOf_9 (p := 0) (hi := rfl) (hv := rfl) ?_
  refine g_iconst C dX9_markOf_10 ?_
  refine g_icmp_lt C (tgt := 34) dX9_markOf_11 (by decide) (by omega) (by omega) (fun h_1 => ?_) (fun h_1 => ?_)
  · refine g_iload_n C dX9_markOf_34 (p := 0) (hi := rfl) (hv := rfl) ?_
    refine g_iconst C dX9_markOf_35 ?_
    refine g_icmp_eq C (tgt := 55) dX9_markOf_36 (by decide) (by omega) (by omega) (fun h_2 => ?_) (fun h_2 => ?_)
    · exact absurd h_2 (by decide)
    · refine g_aload_n C dX9_markOf_39 (p := 1) (hi := rfl) (hv := rfl) ?_
      refine g_iload_n C dX9_markOf_40 (p := 0) (hi := rfl) (hv := rfl) ?_
      refine g_iconst C dX9_markOf_41 ?_
      refine g_icmp_ne C (tgt := 50) dX9_markOf_42 (by decide) (by omega) (by omega) (fun h_3 => ?_) (fun h_3 => ?_)
      · exact absurd h_3 (by decide)
      · refine (g_bipush C dX9_markOf_45 (by decide)) ?_
        refine g_goto C (tgt := 52) dX9_markOf_47 (by decide) ?_
        refine gm_callv C dX9_markOf_52 (kX9_began (σ := σ) (b := 22) hap hE (by first | assumption | omega | exact hT | exact htc | exact hpp | exact hk)) mw_X9_began wl_X9_254 (by decide) (by decide) rfl rfl (by simp [Value.category]) ?_
        refine g_aload_n C dX9_markOf_55 (p := 1) (hi := rfl) (hv := rfl) ?_
        refine (g_bipush C dX9_markOf_56 (by decide)) ?_
        refine gm_callv C dX9_markOf_58 (kX9_began (σ := (mu (mu σ 11 (σ 0 23) 22) 0 23 (σ 0 23 + 1))) (b := 21) hap hE (by show (0 : Int) ≤ (σ 0 23 + 1) ∧ (σ 0 23 + 1) < 16; first | assumption | omega | exact hT | exact htc | exact hpp | exact hk)) mw_X9_began wl_X9_254 (by decide) (by decide) rfl rfl (by simp [Value.category]) ?_
        show G M ad 12 (cfM ad K) 61 [(2, .int (iI 3)), (0, .ref (ad 0)), (1, .int (iI p))] [] (mu (mu (mu (mu σ 11 (σ 0 23) 22) 0 23 (σ 0 23 + 1)) 11 (σ 0 23 + 1) 21) 0 23 ((σ 0 23 + 1) + 1))
        refine g_aload_n C dX9_markOf_61 (p := 1) (hi := rfl) (hv := rfl) ?_
        refine (g_bipush C dX9_markOf_62 (by decide)) ?_
        refine gm_callv C dX9_markOf_64 (kX9_began (σ := (mu (mu (mu (mu σ 11 (σ 0 23) 22) 0 23 (σ 0 23 + 1)) 11 (σ 0 23 + 1) 21) 0 23 ((σ 0 23 + 1) + 1))) (b := 20) hap hE (by show (0 : Int) ≤ ((σ 0 23 + 1) + 1) ∧ ((σ 0 23 + 1) + 1) < 16; first | assumption | omega | exact hT | exact htc | exact hpp | exact hk)) mw_X9_began wl_X9_254 (by decide) (by decide) rfl rfl (by simp [Value.category]) ?_
        show G M ad 12 (cfM ad K) 67 [(2, .int (iI 3)), (0, .ref (ad 0)), (1, .int (iI p))] [] (mu (mu (mu (mu (mu (mu σ 11 (σ 0 23) 22) 0 23 (σ 0 23 + 1)) 11 (σ 0 23 + 1) 21) 0 23 ((σ 0 23 + 1) + 1)) 11 ((σ 0 23 + 1) + 1) 20) 0 23 (((σ 0 23 + 1) + 1) + 1))
        refine g_iload_n C dX9_markOf_67 (p := 2) (hi := rfl) (hv := rfl) ?_
        refine g_aload_n C dX9_markOf_68 (p := 1) (hi := rfl) (hv := rfl) ?_
        refine g_iload_n C dX9_markOf_69 (p := 2) (hi := rfl) (hv := rfl) ?_
        refine gm_call C dX9_markOf_70 (kX9_thingsOf (σ := (mu (mu (mu (mu (mu (mu σ 11 (σ 0 23) 22) 0 23 (σ 0 23 + 1)) 11 (σ 0 23 + 1) 21) 0 23 ((σ 0 23 + 1) + 1)) 11 ((σ 0 23 + 1) + 1) 20) 0 23 (((σ 0 23 + 1) + 1) + 1))) (p := p) hap hE (by show TW (σ 4); first | assumption | omega | exact hT | exact htc | exact hpp | exact hk) (by first | assumption | omega | exact hT | exact htc | exact hpp | exact hk)) mw_X9_thingsOf wl_X9_263 (by decide) (by decide) rfl rfl (by simp [Value.category]) ?_
        refine g_cI (b := (thoF (σ 4) p (σ 4 3).toNat)) (by first | rfl | (congr 1 <;> first | rfl | exact over_out (by omega)) | (congr 2 <;> first | rfl | exact over_out (by omega)) | simp [mu_app, mr_app]) ?_
        refine g_iadd C dX9_markOf_73 ?_
        refine g_istore_n C hn dX9_markOf_74 rfl rfl rfl ?_
        refine g_iload_n C dX9_markOf_75 (p := 1) (hi := rfl) (hv := rfl) ?_
        refine g_iconst C dX9_markOf_76 ?_
        refine g_icmp_ne C (tgt := 84) dX9_markOf_77 (by decide) (by omega) (by omega) (fun h_4 => ?_) (fun h_4 => ?_)
        · refine g_iload_n C dX9_markOf_84 (p := 1) (hi := rfl) (hv := rfl) ?_
          refine g_iconst C dX9_markOf_85 ?_
          refine g_icmp_ne C (tgt := 97) dX9_markOf_86 (by decide) (by omega) (by omega) (fun h_5 => ?_) (fun h_5 => ?_)
          · exact absurd h_5 (by decide)
          · refine g_iload_n C dX9_markOf_89 (p := 0) (hi := rfl) (hv := rfl) ?_
            refine (g_sipush C dX9_markOf_90 (by decide)) ?_
            refine g_isub C dX9_markOf_93 ?_
            refine g_goto C (tgt := 100) dX9_markOf_94 (by decide) ?_
            exact hret _ _ _ _ dX9_markOf_100 (by first | rfl | omega | ((repeat' split) <;> first | (exfalso; omega) | rfl | exact mu_mu | omega)) (by first | rfl | omega | ((repeat' split) <;> first | (exfalso; omega) | rfl | exact mu_mu | omega))
        · exact absurd h_4 (by decide)
  · exact absurd h_1 (by decide)
set_option maxHeartbeats 4000000 in
set_option maxRecDepth 100000 in
theorem kX9_markOf_4 {l : Launch} {K : Nat → ClassId} {D : va_G} {ad : Int → Nat} {E : gEnv} {σ : Mem} {p : Int} (hap : Apart ad 12) (hE : gEok E) (hT : TW (σ 4)) (htc : (0 : Int) ≤ σ 0 23 ∧ σ 0 23 ≤ 10) (hpp : 0 ≤ p ∧ p < 4) (hk : σ 4 (4 + p) = 4) : CtI l K D ad 12 (cfM ad K) E yX9_markOf cX9_markOf 4 (some .int) 3 [.ref (ad 0), .int (iI p)] σ (p - (σ 4 (8 + p) - 100)) (mu (mu (mu (mu (mu (mu (mu (mu σ 11 (σ 0 23) 23) 0 23 (σ 0 23 + 1)) 11 (σ 0 23 + 1) 20) 0 23 ((σ 0 23 + 1) + 1)) 11 ((σ 0 23 + 1) + 1) 13) 0 23 (((σ 0 23 + 1) + 1) + 1)) 11 (((σ 0 23 + 1) + 1) + 1) 10) 0 23 ((((σ 0 23 + 1) + 1) + 1) + 1)) := by
  refine ctI_of hap hE (by decide) rfl .int (nar_i _) (fun M C hn hret => ?_)
  have C : Good l K D ad 12 E 3 cX9_markOf RX9 M := C
  show G M ad 12 (cfM ad K) 0 [(0, .ref (ad 0)), (1, .int (iI p))] [] σ
  refine g_aload_n C dX9_markOf_0 (p := 0) (hi := rfl) (hv := rfl) ?_
  refine gm_g_town C dX9_markOf_1 wf_X9_19 ?_
  refine g_iconst C dX9_markOf_4 ?_
  refine g_iload_n C dX9_markOf_5 (p := 1) (hi := rfl) (hv := rfl) ?_
  refine g_iadd C dX9_markOf_6 ?_
  refine gm_l_town C dX9_markOf_7 (by omega) (by omega) ?_
  refine g_cI (b := 4) (by exact hk) ?_
  refine g_istore_n C hn dX9_markOf_8 rfl rfl rfl ?_
  refine g_iload_n C dX9_markOf_9 (p := 0) (hi := rfl) (hv := rfl) ?_
  refine g_iconst C dX9_markOf_10 ?_
  refine g_icmp_lt C (tgt := 34) dX9_markOf_11 (by decide) (by omega) (by omega) (fun h_1 => ?_) (fun h_1 => ?_)
  · exact absurd h_1 (by decide)
  · refine g_aload_n C dX9_markOf_14 (p := 1) (hi := rfl) (hv := rfl) ?_
    refine (g_bipush C dX9_markOf_15 (by decide)) ?_
    refine gm_callv C dX9_markOf_17 (kX9_began (σ := σ) (b := 23) hap hE (by first | assumption | omega | exact hT | exact htc | exact hpp | exact hk)) mw_X9_began wl_X9_254 (by decide) (by decide) rfl rfl (by simp [Value.category]) ?_
    refine g_aload_n C dX9_markOf_20 (p := 1) (hi := rfl) (hv := rfl) ?_
    refine (g_bipush C dX9_markOf_21 (by decide)) ?_
    refine gm_callv C dX9_markOf_23 (kX9_began (σ := (mu (mu σ 11 (σ 0 23) 23) 0 23 (σ 0 23 + 1))) (b := 20) hap hE (by show (0 : Int) ≤ (σ 0 23 + 1) ∧ (σ 0 23 + 1) < 16; first | assumption | omega | exact hT | exact htc | exact hpp | exact hk)) mw_X9_began wl_X9_254 (by decide) (by decide) rfl rfl (by simp [Value.category]) ?_
    show G M ad 12 (cfM ad K) 26 [(2, .int (iI 4)), (0, .ref (ad 0)), (1, .int (iI p))] [] (mu (mu (mu (mu σ 11 (σ 0 23) 23) 0 23 (σ 0 23 + 1)) 11 (σ 0 23 + 1) 20) 0 23 ((σ 0 23 + 1) + 1))
    refine g_iload_n C dX9_markOf_26 (p := 2) (hi := rfl) (hv := rfl) ?_
    refine g_aload_n C dX9_markOf_27 (p := 1) (hi := rfl) (hv := rfl) ?_
    refine g_iload_n C dX9_markOf_28 (p := 2) (hi := rfl) (hv := rfl) ?_
    refine gm_call C dX9_markOf_29 (kX9_richSize_4 (σ := (mu (mu (mu (mu σ 11 (σ 0 23) 23) 0 23 (σ 0 23 + 1)) 11 (σ 0 23 + 1) 20) 0 23 ((σ 0 23 + 1) + 1))) (p := p) hap hE (by show (0 : Int) ≤ ((σ 0 23 + 1) + 1) ∧ ((σ 0 23 + 1) + 1) ≤ 12; first | assumption | omega | exact hT | exact htc | exact hpp | exact hk) (by first | assumption | omega | exact hT | exact htc | exact hpp | exact hk) (by show σ 4 (4 + p) = 4; first | assumption | omega | exact hT | exact htc | exact hpp | exact hk)) mw_X9_richSize wl_X9_260 (by decide) (by decide) rfl rfl (by simp [Value.category]) ?_
    refine g_cI (b := (σ 4 (8 + p) - 100)) (by first | rfl | (congr 1 <;> first | rfl | exact over_out (by omega)) | (congr 2 <;> first | rfl | exact over_out (by omega)) | simp [mu_app, mr_app]) ?_
    show G M ad 12 (cfM ad K) 32 [(2, .int (iI 4)), (0, .ref (ad 0)), (1, .int (iI p))] [.int (iI (σ 4 (8 + p) - 100)), .int (iI p)] (mu (mu (mu (mu (mu (mu (mu (mu σ 11 (σ 0 23) 23) 0 23 (σ 0 23 + 1)) 11 (σ 0 23 + 1) 20) 0 23 ((σ 0 23 + 1) + 1)) 11 ((σ 0 23 + 1) + 1) 13) 0 23 (((σ 0 23 + 1) + 1) + 1)) 11 (((σ 0 23 + 1) + 1) + 1) 10) 0 23 ((((σ 0 23 + 1) + 1) + 1) + 1))
    refine g_isub C dX9_markOf_32 ?_
    exact hret _ _ _ _ dX9_markOf_33 (by first | rfl | omega | ((repeat' split) <;> first | (exfalso; omega) | rfl | exact mu_mu | omega)) (by first | rfl | omega | ((repeat' split) <;> first | (exfalso; omega) | rfl | exact mu_mu | omega))
set_option maxHeartbeats 4000000 in
set_option maxRecDepth 100000 in
theorem kX9_markOf_5 {l : Launch} {K : Nat → ClassId} {D : va_G} {ad : Int → Nat} {E : gEnv} {σ : Mem} {p : Int} (hap : Apart ad 12) (hE : gEok E) (hT : TW (σ 4)) (htc : (0 : Int) ≤ σ 0 23 ∧ σ 0 23 ≤ 10) (hpp : 0 ≤ p ∧ p < 4) (hk : σ 4 (4 + p) = 5) : CtI l K D ad 12 (cfM ad K) E yX9_markOf cX9_markOf 4 (some .int) 3 [.ref (ad 0), .int (iI p)] σ (p - 2 * (σ 4 (8 + p) - 100)) (mu (mu (mu (mu (mu (mu (mu (mu (mu (mu σ 11 (σ 0 23) 23) 0 23 (σ 0 23 + 1)) 11 (σ 0 23 + 1) 20) 0 23 ((σ 0 23 + 1) + 1)) 11 ((σ 0 23 + 1) + 1) 14) 0 23 (((σ 0 23 + 1) + 1) + 1)) 11 (((σ 0 23 + 1) + 1) + 1) 13) 0 23 ((((σ 0 23 + 1) + 1) + 1) + 1)) 11 ((((σ 0 23 + 1) + 1) + 1) + 1) 10) 0 23 (((((σ 0 23 + 1) + 1) + 1) + 1) + 1)) := by
  refine ctI_of hap hE (by decide) rfl .int (nar_i _) (fun M C hn hret => ?_)
  have C : Good l K D ad 12 E 3 cX9_markOf RX9 M := C
  show G M ad 12 (cfM ad K) 0 [(0, .ref (ad 0)), (1, .int (iI p))] [] σ
  refine g_aload_n C dX9_markOf_0 (p := 0) (hi := rfl) (hv := rfl) ?_
  refine gm_g_town C dX9_markOf_1 wf_X9_19 ?_
  refine g_iconst C dX9_markOf_4 ?_
  refine g_iload_n C dX9_markOf_5 (p := 1) (hi := rfl) (hv := rfl) ?_
  refine g_iadd C dX9_markOf_6 ?_
  refine gm_l_town C dX9_markOf_7 (by omega) (by omega) ?_
  refine g_cI (b := 5) (by exact hk) ?_
  refine g_istore_n C hn dX9_markOf_8 rfl rfl rfl ?_
  refine g_iload_n C dX9_markOf_9 (p := 0) (hi := rfl) (hv := rfl) ?_
  refine g_iconst C dX9_markOf_10 ?_
  refine g_icmp_lt C (tgt := 34) dX9_markOf_11 (by decide) (by omega) (by omega) (fun h_1 => ?_) (fun h_1 => ?_)
  · exact absurd h_1 (by decide)
  · refine g_aload_n C dX9_markOf_14 (p := 1) (hi := rfl) (hv := rfl) ?_
    refine (g_bipush C dX9_markOf_15 (by decide)) ?_
    refine gm_callv C dX9_markOf_17 (kX9_began (σ := σ) (b := 23) hap hE (by first | assumption | omega | exact hT | exact htc | exact hpp | exact hk)) mw_X9_began wl_X9_254 (by decide) (by decide) rfl rfl (by simp [Value.category]) ?_
    refine g_aload_n C dX9_markOf_20 (p := 1) (hi := rfl) (hv := rfl) ?_
    refine (g_bipush C dX9_markOf_21 (by decide)) ?_
    refine gm_callv C dX9_markOf_23 (kX9_began (σ := (mu (mu σ 11 (σ 0 23) 23) 0 23 (σ 0 23 + 1))) (b := 20) hap hE (by show (0 : Int) ≤ (σ 0 23 + 1) ∧ (σ 0 23 + 1) < 16; first | assumption | omega | exact hT | exact htc | exact hpp | exact hk)) mw_X9_began wl_X9_254 (by decide) (by decide) rfl rfl (by simp [Value.category]) ?_
    show G M ad 12 (cfM ad K) 26 [(2, .int (iI 5)), (0, .ref (ad 0)), (1, .int (iI p))] [] (mu (mu (mu (mu σ 11 (σ 0 23) 23) 0 23 (σ 0 23 + 1)) 11 (σ 0 23 + 1) 20) 0 23 ((σ 0 23 + 1) + 1))
    refine g_iload_n C dX9_markOf_26 (p := 2) (hi := rfl) (hv := rfl) ?_
    refine g_aload_n C dX9_markOf_27 (p := 1) (hi := rfl) (hv := rfl) ?_
    refine g_iload_n C dX9_markOf_28 (p := 2) (hi := rfl) (hv := rfl) ?_
    refine gm_call C dX9_markOf_29 (kX9_richSize_5 (σ := (mu (mu (mu (mu σ 11 (σ 0 23) 23) 0 23 (σ 0 23 + 1)) 11 (σ 0 23 + 1) 20) 0 23 ((σ 0 23 + 1) + 1))) (p := p) hap hE (by show (0 : Int) ≤ ((σ 0 23 + 1) + 1) ∧ ((σ 0 23 + 1) + 1) ≤ 12; first | assumption | omega | exact hT | exact htc | exact hpp | exact hk) (by first | assumption | omega | exact hT | exact htc | exact hpp | exact hk) (by show σ 4 (4 + p) = 5; first | assumption | omega | exact hT | exact htc | exact hpp | exact hk)) mw_X9_richSize wl_X9_260 (by decide) (by decide) rfl rfl (by simp [Value.category]) ?_
    refine g_cI (b := (2 * ((σ 4) (8 + p) - 100))) (by first | rfl | (congr 1 <;> first | rfl | exact over_out (by omega)) | (congr 2 <;> first | rfl | exact over_out (by omega)) | simp [mu_app, mr_app]) ?_
    show G M ad 12 (cfM ad K) 32 [(2, .int (iI 5)), (0, .ref (ad 0)), (1, .int (iI p))] [.int (iI (2 * ((σ 4) (8 + p) - 100))), .int (iI p)] (mu (mu (mu (mu (mu (mu (mu (mu (mu (mu σ 11 (σ 0 23) 23) 0 23 (σ 0 23 + 1)) 11 (σ 0 23 + 1) 20) 0 23 ((σ 0 23 + 1) + 1)) 11 ((σ 0 23 + 1) + 1) 14) 0 23 (((σ 0 23 + 1) + 1) + 1)) 11 (((σ 0 23 + 1) + 1) + 1) 13) 0 23 ((((σ 0 23 + 1) + 1) + 1) + 1)) 11 ((((σ 0 23 + 1) + 1) + 1) + 1) 10) 0 23 (((((σ 0 23 + 1) + 1) + 1) + 1) + 1))
    refine g_isub C dX9_markOf_32 ?_
    exact hret _ _ _ _ dX9_markOf_33 (by first | rfl | omega | ((repeat' split) <;> first | (exfalso; omega) | rfl | exact mu_mu | omega)) (by first | rfl | omega | ((repeat' split) <;> first | (exfalso; omega) | rfl | exact mu_mu | omega))
set_option maxHeartbeats 4000000 in
set_option maxRecDepth 100000 in
theorem kX9_sizeOf_1 {l : Launch} {K : Nat → ClassId} {D : va_G} {ad : Int → Nat} {E : gEnv} {σ : Mem} {p : Int} (hap : Apart ad 12) (hE : gEok E) (hT : TW (σ 4)) (htc : (0 : Int) ≤ σ 0 23 ∧ σ 0 23 ≤ 6) (hpp : 0 ≤ p ∧ p < 4) (hk : σ 4 (4 + p) = 1) : CtI l K D ad 12 (cfM ad K) E yX9_sizeOf cX9_sizeOf 4 (some .int) 4 [.ref (ad 0), .int (iI p)] σ (σ 4 (8 + p) + (p + thoF (σ 4) p (σ 4 3).toNat)) (mu (mu (mu (mu (mu (mu (mu (mu σ 11 (σ 0 23) 11) 0 23 (σ 0 23 + 1)) 11 (σ 0 23 + 1) 10) 0 23 ((σ 0 23 + 1) + 1)) 11 ((σ 0 23 + 1) + 1) 21) 0 23 (((σ 0 23 + 1) + 1) + 1)) 11 (((σ 0 23 + 1) + 1) + 1) 20) 0 23 ((((σ 0 23 + 1) + 1) + 1) + 1)) := by
  refine ctI_of hap hE (by decide) rfl .int (nar_i _) (fun M C hn hret => ?_)
  have C : Good l K D ad 12 E 4 cX9_sizeOf RX9 M := C
  show G M ad 12 (cfM ad K) 0 [(0, .ref (ad 0)), (1, .int (iI p))] [] σ
  refine g_aload_n C dX9_sizeOf_0 (p := 0) (hi := rfl) (hv := rfl) ?_
  refine gm_g_town C dX9_sizeOf_1 wf_X9_19 ?_
  refine g_iconst C dX9_sizeOf_4 ?_
  refine g_iload_n C dX9_sizeOf_5 (p := 1) (hi := rfl) (hv := rfl) ?_
  refine g_iadd C dX9_sizeOf_6 ?_
  refine gm_l_town C dX9_sizeOf_7 (by omega) (by omega) ?_
  refine g_cI (b := 1) (by exact hk) ?_
  refine g_istore_n C hn dX9_sizeOf_8 rfl rfl rfl ?_
  refine g_iload_n C dX9_sizeOf_9 (p := 0) (hi := rfl) (hv := rfl) ?_
  refine g_iconst C dX9_sizeOf_10 ?_
  refine g_icmp_lt C (tgt := 20) dX9_sizeOf_11 (by decide) (by omega) (by omega) (fun h_1 => ?_) (fun h_1 => ?_)
  · refine g_iload_n C dX9_sizeOf_20 (p := 0) (hi := rfl) (hv := rfl) ?_
    refine g_iconst C dX9_sizeOf_21 ?_
    refine g_icmp_ne C (tgt := 31) dX9_sizeOf_22 (by decide) (by omega) (by omega) (fun h_2 => ?_) (fun h_2 => ?_)
    · refine g_aload_n C dX9_sizeOf_31 (p := 1) (hi := rfl) (hv := rfl) ?_
      refine (g_bipush C dX9_sizeOf_32 (by decide)) ?_
      refine gm_callv C dX9_sizeOf_34 (kX9_began (σ := σ) (b := 11) hap hE (by first | assumption | omega | exact hT | exact htc | exact hpp | exact hk)) mw_X9_began wl_X9_254 (by decide) (by decide) rfl rfl (by simp [Value.category]) ?_
      refine g_aload_n C dX9_sizeOf_37 (p := 1) (hi := rfl) (hv := rfl) ?_
      refine g_iload_n C dX9_sizeOf_38 (p := 2) (hi := rfl) (hv := rfl) ?_
      refine gm_call C dX9_sizeOf_39 (kX9_plainSize (σ := (mu (mu σ 11 (σ 0 23) 11) 0 23 (σ 0 23 + 1))) (p := p) hap hE (by show (0 : Int) ≤ (σ 0 23 + 1) ∧ (σ 0 23 + 1) ≤ 15; first | assumption | omega | exact hT | exact htc | exact hpp | exact hk) (by first | assumption | omega | exact hT | exact htc | exact hpp | exact hk)) mw_X9_plainSize wl_X9_257 (by decide) (by decide) rfl rfl (by simp [Value.category]) ?_
      refine g_cI (b := (σ 4 (8 + p))) (by first | rfl | (congr 1 <;> first | rfl | exact over_out (by omega)) | (congr 2 <;> first | rfl | exact over_out (by omega)) | simp [mu_app, mr_app]) ?_
      show G M ad 12 (cfM ad K) 42 [(2, .int (iI 1)), (0, .ref (ad 0)), (1, .int (iI p))] [.int (iI (σ 4 (8 + p)))] (mu (mu (mu (mu σ 11 (σ 0 23) 11) 0 23 (σ 0 23 + 1)) 11 (σ 0 23 + 1) 10) 0 23 ((σ 0 23 + 1) + 1))
      refine g_istore_n C hn dX9_sizeOf_42 rfl rfl rfl ?_
      refine g_iload_n C dX9_sizeOf_43 (p := 0) (hi := rfl) (hv := rfl) ?_
      refine g_aload_n C dX9_sizeOf_44 (p := 2) (hi := rfl) (hv := rfl) ?_
      refine g_iload_n C dX9_sizeOf_45 (p := 3) (hi := rfl) (hv := rfl) ?_
      refine gm_call C dX9_sizeOf_46 (kX9_markOf_1 (σ := (mu (mu (mu (mu σ 11 (σ 0 23) 11) 0 23 (σ 0 23 + 1)) 11 (σ 0 23 + 1) 10) 0 23 ((σ 0 23 + 1) + 1))) (p := p) hap hE (by show TW (σ 4); first | assumption | omega | exact hT | exact htc | exact hpp | exact hk) (by show (0 : Int) ≤ ((σ 0 23 + 1) + 1) ∧ ((σ 0 23 + 1) + 1) ≤ 10; first | assumption | omega | exact hT | exact htc | exact hpp | exact hk) (by first | assumption | omega | exact hT | exact htc | exact hpp | exact hk) (by show σ 4 (4 + p) = 1; first | assumption | omega | exact hT | exact htc | exact hpp | exact hk)) mw_X9_markOf wl_X9_266 (by decide) (by decide) rfl rfl (by simp [Value.category]) ?_
      refine g_cI (b := (p + thoF (σ 4) p (σ 4 3).toNat)) (by first | rfl | (congr 1 <;> first | rfl | exact over_out (by omega)) | (congr 2 <;> first | rfl | exact over_out (by omega)) | simp [mu_app, mr_app]) ?_
      show G M ad 12 (cfM ad K) 49 [(3, .int (iI (σ 4 (8 + p)))), (2, .int (iI 1)), (0, .ref (ad 0)), (1, .int (iI p))] [.int (iI (p + thoF (σ 4) p (σ 4 3).toNat)), .int (iI (σ 4 (8 + p)))] (mu (mu (mu (mu (mu (mu (mu (mu σ 11 (σ 0 23) 11) 0 23 (σ 0 23 + 1)) 11 (σ 0 23 + 1) 10) 0 23 ((σ 0 23 + 1) + 1)) 11 ((σ 0 23 + 1) + 1) 21) 0 23 (((σ 0 23 + 1) + 1) + 1)) 11 (((σ 0 23 + 1) + 1) + 1) 20) 0 23 ((((σ 0 23 + 1) + 1) + 1) + 1))
      refine g_iadd C dX9_sizeOf_49 ?_
      refine g_istore_n C hn dX9_sizeOf_50 rfl rfl rfl ?_
      refine g_iload_n C dX9_sizeOf_51 (p := 1) (hi := rfl) (hv := rfl) ?_
      refine g_iconst C dX9_sizeOf_52 ?_
      refine g_icmp_ne C (tgt := 61) dX9_sizeOf_53 (by decide) (by omega) (by omega) (fun h_3 => ?_) (fun h_3 => ?_)
      · refine g_iload_n C dX9_sizeOf_61 (p := 0) (hi := rfl) (hv := rfl) ?_
        exact hret _ _ _ _ dX9_sizeOf_62 (by first | rfl | omega | ((repeat' split) <;> first | (exfalso; omega) | rfl | exact mu_mu | omega)) (by first | rfl | omega | ((repeat' split) <;> first | (exfalso; omega) | rfl | exact mu_mu | omega))
      · exact absurd h_3 (by decide)
    · exact absurd h_2 (by decide)
  · exact absurd h_1 (by decide)
set_option maxHeartbeats 4000000 in
set_option maxRecDepth 100000 in
theorem kX9_sizeOf_2 {l : Launch} {K : Nat → ClassId} {D : va_G} {ad : Int → Nat} {E : gEnv} {σ : Mem} {p : Int} (hap : Apart ad 12) (hE : gEok E) (hT : TW (σ 4)) (htc : (0 : Int) ≤ σ 0 23 ∧ σ 0 23 ≤ 6) (hpp : 0 ≤ p ∧ p < 4) (hk : σ 4 (4 + p) = 2) : CtI l K D ad 12 (cfM ad K) E yX9_sizeOf cX9_sizeOf 4 (some .int) 4 [.ref (ad 0), .int (iI p)] σ (-(σ 4 (8 + p) + 2 * (p + thoF (σ 4) p (σ 4 3).toNat))) (mu (mu (mu (mu (mu (mu (mu (mu (mu (mu (mu (mu σ 11 (σ 0 23) 12) 0 23 (σ 0 23 + 1)) 11 (σ 0 23 + 1) 11) 0 23 ((σ 0 23 + 1) + 1)) 11 ((σ 0 23 + 1) + 1) 10) 0 23 (((σ 0 23 + 1) + 1) + 1)) 11 (((σ 0 23 + 1) + 1) + 1) 24) 0 23 ((((σ 0 23 + 1) + 1) + 1) + 1)) 11 ((((σ 0 23 + 1) + 1) + 1) + 1) 21) 0 23 (((((σ 0 23 + 1) + 1) + 1) + 1) + 1)) 11 (((((σ 0 23 + 1) + 1) + 1) + 1) + 1) 20) 0 23 ((((((σ 0 23 + 1) + 1) + 1) + 1) + 1) + 1)) := by
  refine ctI_of hap hE (by decide) rfl .int (nar_i _) (fun M C hn hret => ?_)
  have C : Good l K D ad 12 E 4 cX9_sizeOf RX9 M := C
  show G M ad 12 (cfM ad K) 0 [(0, .ref (ad 0)), (1, .int (iI p))] [] σ
  refine g_aload_n C dX9_sizeOf_0 (p := 0) (hi := rfl) (hv := rfl) ?_
  refine gm_g_town C dX9_sizeOf_1 wf_X9_19 ?_
  refine g_iconst C dX9_sizeOf_4 ?_
  refine g_iload_n C dX9_sizeOf_5 (p := 1) (hi := rfl) (hv := rfl) ?_
  refine g_iadd C dX9_sizeOf_6 ?_
  refine gm_l_town C dX9_sizeOf_7 (by omega) (by omega) ?_
  refine g_cI (b := 2) (by exact hk) ?_
  refine g_istore_n C hn dX9_sizeOf_8 rfl rfl rfl ?_
  refine g_iload_n C dX9_sizeOf_9 (p := 0) (hi := rfl) (hv := rfl) ?_
  refine g_iconst C dX9_sizeOf_10 ?_
  refine g_icmp_lt C (tgt := 20) dX9_sizeOf_11 (by decide) (by omega) (by omega) (fun h_1 => ?_) (fun h_1 => ?_)
  · refine g_iload_n C dX9_sizeOf_20 (p := 0) (hi := rfl) (hv := rfl) ?_
    refine g_iconst C dX9_sizeOf_21 ?_
    refine g_icmp_ne C (tgt := 31) dX9_sizeOf_22 (by decide) (by omega) (by omega) (fun h_2 => ?_) (fun h_2 => ?_)
    · exact absurd h_2 (by decide)
    · refine g_aload_n C dX9_sizeOf_25 (p := 1) (hi := rfl) (hv := rfl) ?_
      refine (g_bipush C dX9_sizeOf_26 (by decide)) ?_
      refine gm_callv C dX9_sizeOf_28 (kX9_began (σ := σ) (b := 12) hap hE (by first | assumption | omega | exact hT | exact htc | exact hpp | exact hk)) mw_X9_began wl_X9_254 (by decide) (by decide) rfl rfl (by simp [Value.category]) ?_
      refine g_aload_n C dX9_sizeOf_31 (p := 1) (hi := rfl) (hv := rfl) ?_
      refine (g_bipush C dX9_sizeOf_32 (by decide)) ?_
      refine gm_callv C dX9_sizeOf_34 (kX9_began (σ := (mu (mu σ 11 (σ 0 23) 12) 0 23 (σ 0 23 + 1))) (b := 11) hap hE (by show (0 : Int) ≤ (σ 0 23 + 1) ∧ (σ 0 23 + 1) < 16; first | assumption | omega | exact hT | exact htc | exact hpp | exact hk)) mw_X9_began wl_X9_254 (by decide) (by decide) rfl rfl (by simp [Value.category]) ?_
      show G M ad 12 (cfM ad K) 37 [(2, .int (iI 2)), (0, .ref (ad 0)), (1, .int (iI p))] [] (mu (mu (mu (mu σ 11 (σ 0 23) 12) 0 23 (σ 0 23 + 1)) 11 (σ 0 23 + 1) 11) 0 23 ((σ 0 23 + 1) + 1))
      refine g_aload_n C dX9_sizeOf_37 (p := 1) (hi := rfl) (hv := rfl) ?_
      refine g_iload_n C dX9_sizeOf_38 (p := 2) (hi := rfl) (hv := rfl) ?_
      refine gm_call C dX9_sizeOf_39 (kX9_plainSize (σ := (mu (mu (mu (mu σ 11 (σ 0 23) 12) 0 23 (σ 0 23 + 1)) 11 (σ 0 23 + 1) 11) 0 23 ((σ 0 23 + 1) + 1))) (p := p) hap hE (by show (0 : Int) ≤ ((σ 0 23 + 1) + 1) ∧ ((σ 0 23 + 1) + 1) ≤ 15; first | assumption | omega | exact hT | exact htc | exact hpp | exact hk) (by first | assumption | omega | exact hT | exact htc | exact hpp | exact hk)) mw_X9_plainSize wl_X9_257 (by decide) (by decide) rfl rfl (by simp [Value.category]) ?_
      refine g_cI (b := (σ 4 (8 + p))) (by first | rfl | (congr 1 <;> first | rfl | exact over_out (by omega)) | (congr 2 <;> first | rfl | exact over_out (by omega)) | simp [mu_app, mr_app]) ?_
      show G M ad 12 (cfM ad K) 42 [(2, .int (iI 2)), (0, .ref (ad 0)), (1, .int (iI p))] [.int (iI (σ 4 (8 + p)))] (mu (mu (mu (mu (mu (mu σ 11 (σ 0 23) 12) 0 23 (σ 0 23 + 1)) 11 (σ 0 23 + 1) 11) 0 23 ((σ 0 23 + 1) + 1)) 11 ((σ 0 23 + 1) + 1) 10) 0 23 (((σ 0 23 + 1) + 1) + 1))
      refine g_istore_n C hn dX9_sizeOf_42 rfl rfl rfl ?_
      refine g_iload_n C dX9_sizeOf_43 (p := 0) (hi := rfl) (hv := rfl) ?_
      refine g_aload_n C dX9_sizeOf_44 (p := 2) (hi := rfl) (hv := rfl) ?_
      refine g_iload_n C dX9_sizeOf_45 (p := 3) (hi := rfl) (hv := rfl) ?_
      refine gm_call C dX9_sizeOf_46 (kX9_markOf_2 (σ := (mu (mu (mu (mu (mu (mu σ 11 (σ 0 23) 12) 0 23 (σ 0 23 + 1)) 11 (σ 0 23 + 1) 11) 0 23 ((σ 0 23 + 1) + 1)) 11 ((σ 0 23 + 1) + 1) 10) 0 23 (((σ 0 23 + 1) + 1) + 1))) (p := p) hap hE (by show TW (σ 4); first | assumption | omega | exact hT | exact htc | exact hpp | exact hk) (by show (0 : Int) ≤ (((σ 0 23 + 1) + 1) + 1) ∧ (((σ 0 23 + 1) + 1) + 1) ≤ 10; first | assumption | omega | exact hT | exact htc | exact hpp | exact hk) (by first | assumption | omega | exact hT | exact htc | exact hpp | exact hk) (by show σ 4 (4 + p) = 2; first | assumption | omega | exact hT | exact htc | exact hpp | exact hk)) mw_X9_markOf wl_X9_266 (by decide) (by decide) rfl rfl (by simp [Value.category]) ?_
      refine g_cI (b := (2 * (p + thoF (σ 4) p (σ 4 3).toNat))) (by first | rfl | (congr 1 <;> first | rfl | exact over_out (by omega)) | (congr 2 <;> first | rfl | exact over_out (by omega)) | simp [mu_app, mr_app]) ?_
      show G M ad 12 (cfM ad K) 49 [(3, .int (iI (σ 4 (8 + p)))), (2, .int (iI 2)), (0, .ref (ad 0)), (1, .int (iI p))] [.int (iI (2 * (p + thoF (σ 4) p (σ 4 3).toNat))), .int (iI (σ 4 (8 + p)))] (mu (mu (mu (mu (mu (mu (mu (mu (mu (mu (mu (mu σ 11 (σ 0 23) 12) 0 23 (σ 0 23 + 1)) 11 (σ 0 23 + 1) 11) 0 23 ((σ 0 23 + 1) + 1)) 11 ((σ 0 23 + 1) + 1) 10) 0 23 (((σ 0 23 + 1) + 1) + 1)) 11 (((σ 0 23 + 1) + 1) + 1) 24) 0 23 ((((σ 0 23 + 1) + 1) + 1) + 1)) 11 ((((σ 0 23 + 1) + 1) + 1) + 1) 21) 0 23 (((((σ 0 23 + 1) + 1) + 1) + 1) + 1)) 11 (((((σ 0 23 + 1) + 1) + 1) + 1) + 1) 20) 0 23 ((((((σ 0 23 + 1) + 1) + 1) + 1) + 1) + 1))
      refine g_iadd C dX9_sizeOf_49 ?_
      refine g_istore_n C hn dX9_sizeOf_50 rfl rfl rfl ?_
      refine g_iload_n C dX9_sizeOf_51 (p := 1) (hi := rfl) (hv := rfl) ?_
      refine g_iconst C dX9_sizeOf_52 ?_
      refine g_icmp_ne C (tgt := 61) dX9_sizeOf_53 (by decide) (by omega) (by omega) (fun h_3 => ?_) (fun h_3 => ?_)
      · exact absurd h_3 (by decide)
      · refine g_iload_n C dX9_sizeOf_56 (p := 0) (hi := rfl) (hv := rfl) ?_
        refine g_ineg C dX9_sizeOf_57 ?_
        refine g_goto C (tgt := 62) dX9_sizeOf_58 (by decide) ?_
        exact hret _ _ _ _ dX9_sizeOf_62 (by first | rfl | omega | ((repeat' split) <;> first | (exfalso; omega) | rfl | exact mu_mu | omega)) (by first | rfl | omega | ((repeat' split) <;> first | (exfalso; omega) | rfl | exact mu_mu | omega))
  · exact absurd h_1 (by decide)
set_option maxHeartbeats 4000000 in
set_option maxRecDepth 100000 in
theorem kX9_sizeOf_3 {l : Launch} {K : Nat → ClassId} {D : va_G} {ad : Int → Nat} {E : gEnv} {σ : Mem} {p : Int} (hap : Apart ad 12) (hE : gEok E) (hT : TW (σ 4)) (htc : (0 : Int) ≤ σ 0 23 ∧ σ 0 23 ≤ 6) (hpp : 0 ≤ p ∧ p < 4) (hk : σ 4 (4 + p) = 3) : CtI l K D ad 12 (cfM ad K) E yX9_sizeOf cX9_sizeOf 4 (some .int) 4 [.ref (ad 0), .int (iI p)] σ (σ 4 (8 + p) + (p + thoF (σ 4) p (σ 4 3).toNat - 1000)) (mu (mu (mu (mu (mu (mu (mu (mu (mu (mu σ 11 (σ 0 23) 11) 0 23 (σ 0 23 + 1)) 11 (σ 0 23 + 1) 10) 0 23 ((σ 0 23 + 1) + 1)) 11 ((σ 0 23 + 1) + 1) 22) 0 23 (((σ 0 23 + 1) + 1) + 1)) 11 (((σ 0 23 + 1) + 1) + 1) 21) 0 23 ((((σ 0 23 + 1) + 1) + 1) + 1)) 11 ((((σ 0 23 + 1) + 1) + 1) + 1) 20) 0 23 (((((σ 0 23 + 1) + 1) + 1) + 1) + 1)) := by
  refine ctI_of hap hE (by decide) rfl .int (nar_i _) (fun M C hn hret => ?_)
  have C : Good l K D ad 12 E 4 cX9_sizeOf RX9 M := C
  show G M ad 12 (cfM ad K) 0 [(0, .ref (ad 0)), (1, .int (iI p))] [] σ
  refine g_aload_n C dX9_sizeOf_0 (p := 0) (hi := rfl) (hv := rfl) ?_
  refine gm_g_town C dX9_sizeOf_1 wf_X9_19 ?_
  refine g_iconst C dX9_sizeOf_4 ?_
  refine g_iload_n C dX9_sizeOf_5 (p := 1) (hi := rfl) (hv := rfl) ?_
  refine g_iadd C dX9_sizeOf_6 ?_
  refine gm_l_town C dX9_sizeOf_7 (by omega) (by omega) ?_
  refine g_cI (b := 3) (by exact hk) ?_
  refine g_istore_n C hn dX9_sizeOf_8 rfl rfl rfl ?_
  refine g_iload_n C dX9_sizeOf_9 (p := 0) (hi := rfl) (hv := rfl) ?_
  refine g_iconst C dX9_sizeOf_10 ?_
  refine g_icmp_lt C (tgt := 20) dX9_sizeOf_11 (by decide) (by omega) (by omega) (fun h_1 => ?_) (fun h_1 => ?_)
  · refine g_iload_n C dX9_sizeOf_20 (p := 0) (hi := rfl) (hv := rfl) ?_
    refine g_iconst C dX9_sizeOf_21 ?_
    refine g_icmp_ne C (tgt := 31) dX9_sizeOf_22 (by decide) (by omega) (by omega) (fun h_2 => ?_) (fun h_2 => ?_)
    · refine g_aload_n C dX9_sizeOf_31 (p := 1) (hi := rfl) (hv := rfl) ?_
      refine (g_bipush C dX9_sizeOf_32 (by decide)) ?_
      refine gm_callv C dX9_sizeOf_34 (kX9_began (σ := σ) (b := 11) hap hE (by first | assumption | omega | exact hT | exact htc | exact hpp | exact hk)) mw_X9_began wl_X9_254 (by decide) (by decide) rfl rfl (by simp [Value.category]) ?_
      refine g_aload_n C dX9_sizeOf_37 (p := 1) (hi := rfl) (hv := rfl) ?_
      refine g_iload_n C dX9_sizeOf_38 (p := 2) (hi := rfl) (hv := rfl) ?_
      refine gm_call C dX9_sizeOf_39 (kX9_plainSize (σ := (mu (mu σ 11 (σ 0 23) 11) 0 23 (σ 0 23 + 1))) (p := p) hap hE (by show (0 : Int) ≤ (σ 0 23 + 1) ∧ (σ 0 23 + 1) ≤ 15; first | assumption | omega | exact hT | exact htc | exact hpp | exact hk) (by first | assumption | omega | exact hT | exact htc | exact hpp | exact hk)) mw_X9_plainSize wl_X9_257 (by decide) (by decide) rfl rfl (by simp [Value.category]) ?_
      refine g_cI (b := (σ 4 (8 + p))) (by first | rfl | (congr 1 <;> first | rfl | exact over_out (by omega)) | (congr 2 <;> first | rfl | exact over_out (by omega)) | simp [mu_app, mr_app]) ?_
      show G M ad 12 (cfM ad K) 42 [(2, .int (iI 3)), (0, .ref (ad 0)), (1, .int (iI p))] [.int (iI (σ 4 (8 + p)))] (mu (mu (mu (mu σ 11 (σ 0 23) 11) 0 23 (σ 0 23 + 1)) 11 (σ 0 23 + 1) 10) 0 23 ((σ 0 23 + 1) + 1))
      refine g_istore_n C hn dX9_sizeOf_42 rfl rfl rfl ?_
      refine g_iload_n C dX9_sizeOf_43 (p := 0) (hi := rfl) (hv := rfl) ?_
      refine g_aload_n C dX9_sizeOf_44 (p := 2) (hi := rfl) (hv := rfl) ?_
      refine g_iload_n C dX9_sizeOf_45 (p := 3) (hi := rfl) (hv := rfl) ?_
      refine gm_call C dX9_sizeOf_46 (kX9_markOf_3 (σ := (mu (mu (mu (mu σ 11 (σ 0 23) 11) 0 23 (σ 0 23 + 1)) 11 (σ 0 23 + 1) 10) 0 23 ((σ 0 23 + 1) + 1))) (p := p) hap hE (by show TW (σ 4); first | assumption | omega | exact hT | exact htc | exact hpp | exact hk) (by show (0 : Int) ≤ ((σ 0 23 + 1) + 1) ∧ ((σ 0 23 + 1) + 1) ≤ 10; first | assumption | omega | exact hT | exact htc | exact hpp | exact hk) (by first | assumption | omega | exact hT | exact htc | exact hpp | exact hk) (by show σ 4 (4 + p) = 3; first | assumption | omega | exact hT | exact htc | exact hpp | exact hk)) mw_X9_markOf wl_X9_266 (by decide) (by decide) rfl rfl (by simp [Value.category]) ?_
      refine g_cI (b := (p + thoF (σ 4) p (σ 4 3).toNat - 1000)) (by first | rfl | (congr 1 <;> first | rfl | exact over_out (by omega)) | (congr 2 <;> first | rfl | exact over_out (by omega)) | simp [mu_app, mr_app]) ?_
      show G M ad 12 (cfM ad K) 49 [(3, .int (iI (σ 4 (8 + p)))), (2, .int (iI 3)), (0, .ref (ad 0)), (1, .int (iI p))] [.int (iI (p + thoF (σ 4) p (σ 4 3).toNat - 1000)), .int (iI (σ 4 (8 + p)))] (mu (mu (mu (mu (mu (mu (mu (mu (mu (mu σ 11 (σ 0 23) 11) 0 23 (σ 0 23 + 1)) 11 (σ 0 23 + 1) 10) 0 23 ((σ 0 23 + 1) + 1)) 11 ((σ 0 23 + 1) + 1) 22) 0 23 (((σ 0 23 + 1) + 1) + 1)) 11 (((σ 0 23 + 1) + 1) + 1) 21) 0 23 ((((σ 0 23 + 1) + 1) + 1) + 1)) 11 ((((σ 0 23 + 1) + 1) + 1) + 1) 20) 0 23 (((((σ 0 23 + 1) + 1) + 1) + 1) + 1))
      refine g_iadd C dX9_sizeOf_49 ?_
      refine g_istore_n C hn dX9_sizeOf_50 rfl rfl rfl ?_
      refine g_iload_n C dX9_sizeOf_51 (p := 1) (hi := rfl) (hv := rfl) ?_
      refine g_iconst C dX9_sizeOf_52 ?_
      refine g_icmp_ne C (tgt := 61) dX9_sizeOf_53 (by decide) (by omega) (by omega) (fun h_3 => ?_) (fun h_3 => ?_)
      · refine g_iload_n C dX9_sizeOf_61 (p := 0) (hi := rfl) (hv := rfl) ?_
        exact hret _ _ _ _ dX9_sizeOf_62 (by first | rfl | omega | ((repeat' split) <;> first | (exfalso; omega) | rfl | exact mu_mu | omega)) (by first | rfl | omega | ((repeat' split) <;> first | (exfalso; omega) | rfl | exact mu_mu | omega))
      · exact absurd h_3 (by decide)
    · exact absurd h_2 (by decide)
  · exact absurd h_1 (by decide)
set_option maxHeartbeats 4000000 in
set_option maxRecDepth 100000 in
theorem kX9_sizeOf_4 {l : Launch} {K : Nat → ClassId} {D : va_G} {ad : Int → Nat} {E : gEnv} {σ : Mem} {p : Int} (hap : Apart ad 12) (hE : gEok E) (hT : TW (σ 4)) (htc : (0 : Int) ≤ σ 0 23 ∧ σ 0 23 ≤ 6) (hpp : 0 ≤ p ∧ p < 4) (hk : σ 4 (4 + p) = 4) : CtI l K D ad 12 (cfM ad K) E yX9_sizeOf cX9_sizeOf 4 (some .int) 4 [.ref (ad 0), .int (iI p)] σ (σ 4 (8 + p) - 100) (mu (mu (mu (mu σ 11 (σ 0 23) 13) 0 23 (σ 0 23 + 1)) 11 (σ 0 23 + 1) 10) 0 23 ((σ 0 23 + 1) + 1)) := by
  refine ctI_of hap hE (by decide) rfl .int (nar_i _) (fun M C hn hret => ?_)
  have C : Good l K D ad 12 E 4 cX9_sizeOf RX9 M := C
  show G M ad 12 (cfM ad K) 0 [(0, .ref (ad 0)), (1, .int (iI p))] [] σ
  refine g_aload_n C dX9_sizeOf_0 (p := 0) (hi := rfl) (hv := rfl) ?_
  refine gm_g_town C dX9_sizeOf_1 wf_X9_19 ?_
  refine g_iconst C dX9_sizeOf_4 ?_
  refine g_iload_n C dX9_sizeOf_5 (p := 1) (hi := rfl) (hv := rfl) ?_
  refine g_iadd C dX9_sizeOf_6 ?_
  refine gm_l_town C dX9_sizeOf_7 (by omega) (by omega) ?_
  refine g_cI (b := 4) (by exact hk) ?_
  refine g_istore_n C hn dX9_sizeOf_8 rfl rfl rfl ?_
  refine g_iload_n C dX9_sizeOf_9 (p := 0) (hi := rfl) (hv := rfl) ?_
  refine g_iconst C dX9_sizeOf_10 ?_
  refine g_icmp_lt C (tgt := 20) dX9_sizeOf_11 (by decide) (by omega) (by omega) (fun h_1 => ?_) (fun h_1 => ?_)
  · exact absurd h_1 (by decide)
  · refine g_aload_n C dX9_sizeOf_14 (p := 1) (hi := rfl) (hv := rfl) ?_
    refine g_iload_n C dX9_sizeOf_15 (p := 2) (hi := rfl) (hv := rfl) ?_
    refine gm_call C dX9_sizeOf_16 (kX9_richSize_4 (σ := σ) (p := p) hap hE (by first | assumption | omega | exact hT | exact htc | exact hpp | exact hk) (by first | assumption | omega | exact hT | exact htc | exact hpp | exact hk) (by first | assumption | omega | exact hT | exact htc | exact hpp | exact hk)) mw_X9_richSize wl_X9_260 (by decide) (by decide) rfl rfl (by simp [Value.category]) ?_
    exact hret _ _ _ _ dX9_sizeOf_19 (by first | rfl | omega | ((repeat' split) <;> first | (exfalso; omega) | rfl | exact mu_mu | omega)) (by first | rfl | omega | ((repeat' split) <;> first | (exfalso; omega) | rfl | exact mu_mu | omega))
set_option maxHeartbeats 4000000 in
set_option maxRecDepth 100000 in
theorem kX9_sizeOf_5 {l : Launch} {K : Nat → ClassId} {D : va_G} {ad : Int → Nat} {E : gEnv} {σ : Mem} {p : Int} (hap : Apart ad 12) (hE : gEok E) (hT : TW (σ 4)) (htc : (0 : Int) ≤ σ 0 23 ∧ σ 0 23 ≤ 6) (hpp : 0 ≤ p ∧ p < 4) (hk : σ 4 (4 + p) = 5) : CtI l K D ad 12 (cfM ad K) E yX9_sizeOf cX9_sizeOf 4 (some .int) 4 [.ref (ad 0), .int (iI p)] σ (2 * (σ 4 (8 + p) - 100)) (mu (mu (mu (mu (mu (mu σ 11 (σ 0 23) 14) 0 23 (σ 0 23 + 1)) 11 (σ 0 23 + 1) 13) 0 23 ((σ 0 23 + 1) + 1)) 11 ((σ 0 23 + 1) + 1) 10) 0 23 (((σ 0 23 + 1) + 1) + 1)) := by
  refine ctI_of hap hE (by decide) rfl .int (nar_i _) (fun M C hn hret => ?_)
  have C : Good l K D ad 12 E 4 cX9_sizeOf RX9 M := C
  show G M ad 12 (cfM ad K) 0 [(0, .ref (ad 0)), (1, .int (iI p))] [] σ
  refine g_aload_n C dX9_sizeOf_0 (p := 0) (hi := rfl) (hv := rfl) ?_
  refine gm_g_town C dX9_sizeOf_1 wf_X9_19 ?_
  refine g_iconst C dX9_sizeOf_4 ?_
  refine g_iload_n C dX9_sizeOf_5 (p := 1) (hi := rfl) (hv := rfl) ?_
  refine g_iadd C dX9_sizeOf_6 ?_
  refine gm_l_town C dX9_sizeOf_7 (by omega) (by omega) ?_
  refine g_cI (b := 5) (by exact hk) ?_
  refine g_istore_n C hn dX9_sizeOf_8 rfl rfl rfl ?_
  refine g_iload_n C dX9_sizeOf_9 (p := 0) (hi := rfl) (hv := rfl) ?_
  refine g_iconst C dX9_sizeOf_10 ?_
  refine g_icmp_lt C (tgt := 20) dX9_sizeOf_11 (by decide) (by omega) (by omega) (fun h_1 => ?_) (fun h_1 => ?_)
  · exact absurd h_1 (by decide)
  · refine g_aload_n C dX9_sizeOf_14 (p := 1) (hi := rfl) (hv := rfl) ?_
    refine g_iload_n C dX9_sizeOf_15 (p := 2) (hi := rfl) (hv := rfl) ?_
    refine gm_call C dX9_sizeOf_16 (kX9_richSize_5 (σ := σ) (p := p) hap hE (by first | assumption | omega | exact hT | exact htc | exact hpp | exact hk) (by first | assumption | omega | exact hT | exact htc | exact hpp | exact hk) (by first | assumption | omega | exact hT | exact htc | exact hpp | exact hk)) mw_X9_richSize wl_X9_260 (by decide) (by decide) rfl rfl (by simp [Value.category]) ?_
    exact hret _ _ _ _ dX9_sizeOf_19 (by first | rfl | omega | ((repeat' split) <;> first | (exfalso; omega) | rfl | exact mu_mu | omega)) (by first | rfl | omega | ((repeat' split) <;> first | (exfalso; omega) | rfl | exact mu_mu | omega))
set_option maxHeartbeats 4000000 in
set_option maxRecDepth 100000 in
theorem kX9_ask_1 {l : Launch} {K : Nat → ClassId} {D : va_G} {ad : Int → Nat} {E : gEnv} {σ : Mem} {p what : Int} (hap : Apart ad 12) (hE : gEok E) (hT : TW (σ 4)) (rp : R3 p) (rw : R3 what) (hk : σ 4 (4 + p) = 1) : CtI l K D ad 12 (cfM ad K) E yX9_ask cX9_ask 3 (some .int) 5 [.ref (ad 0), .int (iI p), .int (iI what)] σ (if (0 ≤ p ∧ p ≤ σ 4 2 - 1) ∧ (0 ≤ what ∧ what ≤ 1) then (if what = 0 then σ 4 (8 + p) + (p + thoF (σ 4) p (σ 4 3).toNat) else p + thoF (σ 4) p (σ 4 3).toNat) else -1000001) (if (0 ≤ p ∧ p ≤ σ 4 2 - 1) ∧ (0 ≤ what ∧ what ≤ 1) then (if what = 0 then trcM (mu (mu σ 0 0 0) 0 23 0) [11, 10, 21, 20] else trcM (mu (mu σ 0 0 0) 0 23 0) [21, 20]) else mu σ 0 0 0) := by
  have hp : 0 ≤ σ 4 2 ∧ σ 4 2 ≤ 4 := hT.2.2.1
  refine ctI_of hap hE (by decide) rfl .int (nar_i _) (fun M C hn hret => ?_)
  have C : Good l K D ad 12 E 5 cX9_ask RX9 M := C
  show G M ad 12 (cfM ad K) 0 [(0, .ref (ad 0)), (1, .int (iI p)), (2, .int (iI what))] [] σ
  refine g_aload_n C dX9_ask_0 (p := 0) (hi := rfl) (hv := rfl) ?_
  refine g_iconst C dX9_ask_1 ?_
  refine gm_p_thrown C dX9_ask_2 wf_X9_44 ?_
  refine g_aload_n C dX9_ask_5 (p := 0) (hi := rfl) (hv := rfl) ?_
  refine g_iload_n C dX9_ask_6 (p := 1) (hi := rfl) (hv := rfl) ?_
  refine gm_call C dX9_ask_7 (kX9_isPerson (σ := (mu σ 0 0 0)) (p := p) hap hE (by show 0 ≤ σ 4 2 ∧ σ 4 2 ≤ 4; first | assumption | omega | exact hT | exact rp | exact rw | exact hk) (by first | assumption | omega | exact hT | exact rp | exact rw | exact hk)) mw_X9_isPerson wl_X9_226 (by decide) (by decide) rfl rfl (by simp [Value.category]) ?_
  refine g_cI (b := (if 0 ≤ p ∧ p ≤ σ 4 2 - 1 then 1 else 0)) (by first | rfl | (congr 1 <;> first | rfl | exact over_out (by omega)) | (congr 2 <;> first | rfl | exact over_out (by omega)) | simp [mu_app, mr_app]) ?_
  refine g_if_eq C (tgt := 23) dX9_ask_10 (by decide) (by omega) (fun h_1 => ?_) (fun h_1 => ?_)
  · refine g_ldc C (n := (-1000001)) wk_X9_64 (by decide +kernel) dX9_ask_23 ?_
    exact hret _ _ _ _ dX9_ask_25 (by first | rfl | omega | ((repeat' split) <;> first | (exfalso; omega) | rfl | exact mu_mu | omega)) (by first | rfl | omega | ((repeat' split) <;> first | (exfalso; omega) | rfl | exact mu_mu | omega))
  · refine g_iload_n C dX9_ask_13 (p := 2) (hi := rfl) (hv := rfl) ?_
    refine g_i2l C (by omega) dX9_ask_14 ?_
    refine g_lconst C (z := 0) dX9_ask_15 rfl ?_
    refine g_lconst C (z := 1) dX9_ask_16 rfl ?_
    refine g_callS C dX9_ask_17 (kX9_in (σ := (mu σ 0 0 0)) (v := what) (lo := 0) (hi := 1) hap hE (by first | assumption | omega | exact hT | exact rp | exact rw | exact hk) (by first | assumption | omega | exact hT | exact rp | exact rw | exact hk) (by first | assumption | omega | exact hT | exact rp | exact rw | exact hk)) mw_X9_in wl_X9_54 (by decide) (by decide) rfl rfl (by simp [Value.category]) ?_
    refine g_if_ne C (tgt := 26) dX9_ask_20 (by decide) (by omega) (fun h_2 => ?_) (fun h_2 => ?_)
    · refine g_aload_n C dX9_ask_26 (p := 0) (hi := rfl) (hv := rfl) ?_
      refine g_iconst C dX9_ask_27 ?_
      refine gm_p_traced C dX9_ask_28 wf_X9_251 ?_
      refine g_iload_n C dX9_ask_31 (p := 2) (hi := rfl) (hv := rfl) ?_
      refine g_if_ne C (tgt := 43) dX9_ask_32 (by decide) (by omega) (fun h_3 => ?_) (fun h_3 => ?_)
      · refine g_aload_n C dX9_ask_43 (p := 0) (hi := rfl) (hv := rfl) ?_
        refine g_iload_n C dX9_ask_44 (p := 1) (hi := rfl) (hv := rfl) ?_
        refine gm_call C dX9_ask_45 (kX9_markOf_1 (σ := (mu (mu σ 0 0 0) 0 23 0)) (p := p) hap hE (by show TW (σ 4); first | assumption | omega | exact hT | exact rp | exact rw | exact hk) (by show (0 : Int) ≤ 0 ∧ 0 ≤ 10; first | assumption | omega | exact hT | exact rp | exact rw | exact hk) (by first | assumption | omega | exact hT | exact rp | exact rw | exact hk) (by show σ 4 (4 + p) = 1; first | assumption | omega | exact hT | exact rp | exact rw | exact hk)) mw_X9_markOf wl_X9_266 (by decide) (by decide) rfl rfl (by simp [Value.category]) ?_
        refine g_cI (b := (p + thoF (σ 4) p (σ 4 3).toNat)) (by first | rfl | (congr 1 <;> first | rfl | exact over_out (by omega)) | (congr 2 <;> first | rfl | exact over_out (by omega)) | simp [mu_app, mr_app]) ?_
        show G M ad 12 (cfM ad K) 48 [(0, .ref (ad 0)), (1, .int (iI p)), (2, .int (iI what))] [.int (iI (p + thoF (σ 4) p (σ 4 3).toNat))] (mu (mu (mu (mu (mu (mu σ 0 0 0) 0 23 0) 11 0 21) 0 23 (0 + 1)) 11 (0 + 1) 20) 0 23 ((0 + 1) + 1))
        exact hret _ _ _ _ dX9_ask_48 (by first | rfl | omega | ((repeat' split) <;> first | (exfalso; omega) | rfl | exact mu_mu | omega)) (by first | rfl | omega | ((repeat' split) <;> first | (exfalso; omega) | rfl | exact mu_mu | omega))
      · refine g_aload_n C dX9_ask_35 (p := 0) (hi := rfl) (hv := rfl) ?_
        refine g_iload_n C dX9_ask_36 (p := 1) (hi := rfl) (hv := rfl) ?_
        refine gm_call C dX9_ask_37 (kX9_sizeOf_1 (σ := (mu (mu σ 0 0 0) 0 23 0)) (p := p) hap hE (by show TW (σ 4); first | assumption | omega | exact hT | exact rp | exact rw | exact hk) (by show (0 : Int) ≤ 0 ∧ 0 ≤ 6; first | assumption | omega | exact hT | exact rp | exact rw | exact hk) (by first | assumption | omega | exact hT | exact rp | exact rw | exact hk) (by show σ 4 (4 + p) = 1; first | assumption | omega | exact hT | exact rp | exact rw | exact hk)) mw_X9_sizeOf wl_X9_269 (by decide) (by decide) rfl rfl (by simp [Value.category]) ?_
        refine g_cI (b := (σ 4 (8 + p) + (p + thoF (σ 4) p (σ 4 3).toNat))) (by first | rfl | (congr 1 <;> first | rfl | exact over_out (by omega)) | (congr 2 <;> first | rfl | exact over_out (by omega)) | simp [mu_app, mr_app]) ?_
        show G M ad 12 (cfM ad K) 40 [(0, .ref (ad 0)), (1, .int (iI p)), (2, .int (iI what))] [.int (iI (σ 4 (8 + p) + (p + thoF (σ 4) p (σ 4 3).toNat)))] (mu (mu (mu (mu (mu (mu (mu (mu (mu (mu σ 0 0 0) 0 23 0) 11 0 11) 0 23 (0 + 1)) 11 (0 + 1) 10) 0 23 ((0 + 1) + 1)) 11 ((0 + 1) + 1) 21) 0 23 (((0 + 1) + 1) + 1)) 11 (((0 + 1) + 1) + 1) 20) 0 23 ((((0 + 1) + 1) + 1) + 1))
        refine g_goto C (tgt := 48) dX9_ask_40 (by decide) ?_
        exact hret _ _ _ _ dX9_ask_48 (by first | rfl | omega | ((repeat' split) <;> first | (exfalso; omega) | rfl | exact mu_mu | omega)) (by first | rfl | omega | ((repeat' split) <;> first | (exfalso; omega) | rfl | exact mu_mu | omega))
    · refine g_ldc C (n := (-1000001)) wk_X9_64 (by decide +kernel) dX9_ask_23 ?_
      exact hret _ _ _ _ dX9_ask_25 (by first | rfl | omega | ((repeat' split) <;> first | (exfalso; omega) | rfl | exact mu_mu | omega)) (by first | rfl | omega | ((repeat' split) <;> first | (exfalso; omega) | rfl | exact mu_mu | omega))
set_option maxHeartbeats 4000000 in
set_option maxRecDepth 100000 in
theorem kX9_ask_2 {l : Launch} {K : Nat → ClassId} {D : va_G} {ad : Int → Nat} {E : gEnv} {σ : Mem} {p what : Int} (hap : Apart ad 12) (hE : gEok E) (hT : TW (σ 4)) (rp : R3 p) (rw : R3 what) (hk : σ 4 (4 + p) = 2) : CtI l K D ad 12 (cfM ad K) E yX9_ask cX9_ask 3 (some .int) 5 [.ref (ad 0), .int (iI p), .int (iI what)] σ (if (0 ≤ p ∧ p ≤ σ 4 2 - 1) ∧ (0 ≤ what ∧ what ≤ 1) then (if what = 0 then -(σ 4 (8 + p) + 2 * (p + thoF (σ 4) p (σ 4 3).toNat)) else 2 * (p + thoF (σ 4) p (σ 4 3).toNat)) else -1000001) (if (0 ≤ p ∧ p ≤ σ 4 2 - 1) ∧ (0 ≤ what ∧ what ≤ 1) then (if what = 0 then trcM (mu (mu σ 0 0 0) 0 23 0) [12, 11, 10, 24, 21, 20] else trcM (mu (mu σ 0 0 0) 0 23 0) [24, 21, 20]) else mu σ 0 0 0) := by
  have hp : 0 ≤ σ 4 2 ∧ σ 4 2 ≤ 4 := hT.2.2.1
  refine ctI_of hap hE (by decide) rfl .int (nar_i _) (fun M C hn hret => ?_)
  have C : Good l K D ad 12 E 5 cX9_ask RX9 M := C
  show G M ad 12 (cfM ad K) 0 [(0, .ref (ad 0)), (1, .int (iI p)), (2, .int (iI what))] [] σ
  refine g_aload_n C dX9_ask_0 (p := 0) (hi := rfl) (hv := rfl) ?_
  refine g_iconst C dX9_ask_1 ?_
  refine gm_p_thrown C dX9_ask_2 wf_X9_44 ?_
  refine g_aload_n C dX9_ask_5 (p := 0) (hi := rfl) (hv := rfl) ?_
  refine g_iload_n C dX9_ask_6 (p := 1) (hi := rfl) (hv := rfl) ?_
  refine gm_call C dX9_ask_7 (kX9_isPerson (σ := (mu σ 0 0 0)) (p := p) hap hE (by show 0 ≤ σ 4 2 ∧ σ 4 2 ≤ 4; first | assumption | omega | exact hT | exact rp | exact rw | exact hk) (by first | assumption | omega | exact hT | exact rp | exact rw | exact hk)) mw_X9_isPerson wl_X9_226 (by decide) (by decide) rfl rfl (by simp [Value.category]) ?_
  refine g_cI (b := (if 0 ≤ p ∧ p ≤ σ 4 2 - 1 then 1 else 0)) (by first | rfl | (congr 1 <;> first | rfl | exact over_out (by omega)) | (congr 2 <;> first | rfl | exact over_out (by omega)) | simp [mu_app, mr_app]) ?_
  refine g_if_eq C (tgt := 23) dX9_ask_10 (by decide) (by omega) (fun h_1 => ?_) (fun h_1 => ?_)
  · refine g_ldc C (n := (-1000001)) wk_X9_64 (by decide +kernel) dX9_ask_23 ?_
    exact hret _ _ _ _ dX9_ask_25 (by first | rfl | omega | ((repeat' split) <;> first | (exfalso; omega) | rfl | exact mu_mu | omega)) (by first | rfl | omega | ((repeat' split) <;> first | (exfalso; omega) | rfl | exact mu_mu | omega))
  · refine g_iload_n C dX9_ask_13 (p := 2) (hi := rfl) (hv := rfl) ?_
    refine g_i2l C (by omega) dX9_ask_14 ?_
    refine g_lconst C (z := 0) dX9_ask_15 rfl ?_
    refine g_lconst C (z := 1) dX9_ask_16 rfl ?_
    refine g_callS C dX9_ask_17 (kX9_in (σ := (mu σ 0 0 0)) (v := what) (lo := 0) (hi := 1) hap hE (by first | assumption | omega | exact hT | exact rp | exact rw | exact hk) (by first | assumption | omega | exact hT | exact rp | exact rw | exact hk) (by first | assumption | omega | exact hT | exact rp | exact rw | exact hk)) mw_X9_in wl_X9_54 (by decide) (by decide) rfl rfl (by simp [Value.category]) ?_
    refine g_if_ne C (tgt := 26) dX9_ask_20 (by decide) (by omega) (fun h_2 => ?_) (fun h_2 => ?_)
    · refine g_aload_n C dX9_ask_26 (p := 0) (hi := rfl) (hv := rfl) ?_
      refine g_iconst C dX9_ask_27 ?_
      refine gm_p_traced C dX9_ask_28 wf_X9_251 ?_
      refine g_iload_n C dX9_ask_31 (p := 2) (hi := rfl) (hv := rfl) ?_
      refine g_if_ne C (tgt := 43) dX9_ask_32 (by decide) (by omega) (fun h_3 => ?_) (fun h_3 => ?_)
      · refine g_aload_n C dX9_ask_43 (p := 0) (hi := rfl) (hv := rfl) ?_
        refine g_iload_n C dX9_ask_44 (p := 1) (hi := rfl) (hv := rfl) ?_
        refine gm_call C dX9_ask_45 (kX9_markOf_2 (σ := (mu (mu σ 0 0 0) 0 23 0)) (p := p) hap hE (by show TW (σ 4); first | assumption | omega | exact hT | exact rp | exact rw | exact hk) (by show (0 : Int) ≤ 0 ∧ 0 ≤ 10; first | assumption | omega | exact hT | exact rp | exact rw | exact hk) (by first | assumption | omega | exact hT | exact rp | exact rw | exact hk) (by show σ 4 (4 + p) = 2; first | assumption | omega | exact hT | exact rp | exact rw | exact hk)) mw_X9_markOf wl_X9_266 (by decide) (by decide) rfl rfl (by simp [Value.category]) ?_
        refine g_cI (b := (2 * (p + thoF (σ 4) p (σ 4 3).toNat))) (by first | rfl | (congr 1 <;> first | rfl | exact over_out (by omega)) | (congr 2 <;> first | rfl | exact over_out (by omega)) | simp [mu_app, mr_app]) ?_
        show G M ad 12 (cfM ad K) 48 [(0, .ref (ad 0)), (1, .int (iI p)), (2, .int (iI what))] [.int (iI (2 * (p + thoF (σ 4) p (σ 4 3).toNat)))] (mu (mu (mu (mu (mu (mu (mu (mu σ 0 0 0) 0 23 0) 11 0 24) 0 23 (0 + 1)) 11 (0 + 1) 21) 0 23 ((0 + 1) + 1)) 11 ((0 + 1) + 1) 20) 0 23 (((0 + 1) + 1) + 1))
        exact hret _ _ _ _ dX9_ask_48 (by first | rfl | omega | ((repeat' split) <;> first | (exfalso; omega) | rfl | exact mu_mu | omega)) (by first | rfl | omega | ((repeat' split) <;> first | (exfalso; omega) | rfl | exact mu_mu | omega))
      · refine g_aload_n C dX9_ask_35 (p := 0) (hi := rfl) (hv := rfl) ?_
        refine g_iload_n C dX9_ask_36 (p := 1) (hi := rfl) (hv := rfl) ?_
        refine gm_call C dX9_ask_37 (kX9_sizeOf_2 (σ := (mu (mu σ 0 0 0) 0 23 0)) (p := p) hap hE (by show TW (σ 4); first | assumption | omega | exact hT | exact rp | exact rw | exact hk) (by show (0 : Int) ≤ 0 ∧ 0 ≤ 6; first | assumption | omega | exact hT | exact rp | exact rw | exact hk) (by first | assumption | omega | exact hT | exact rp | exact rw | exact hk) (by show σ 4 (4 + p) = 2; first | assumption | omega | exact hT | exact rp | exact rw | exact hk)) mw_X9_sizeOf wl_X9_269 (by decide) (by decide) rfl rfl (by simp [Value.category]) ?_
        refine g_cI (b := (-((σ 4) (8 + p) + 2 * (p + thoF (σ 4) p (σ 4 3).toNat)))) (by first | rfl | (congr 1 <;> first | rfl | exact over_out (by omega)) | (congr 2 <;> first | rfl | exact over_out (by omega)) | simp [mu_app, mr_app]) ?_
        show G M ad 12 (cfM ad K) 40 [(0, .ref (ad 0)), (1, .int (iI p)), (2, .int (iI what))] [.int (iI (-((σ 4) (8 + p) + 2 * (p + thoF (σ 4) p (σ 4 3).toNat))))] (mu (mu (mu (mu (mu (mu (mu (mu (mu (mu (mu (mu (mu (mu σ 0 0 0) 0 23 0) 11 0 12) 0 23 (0 + 1)) 11 (0 + 1) 11) 0 23 ((0 + 1) + 1)) 11 ((0 + 1) + 1) 10) 0 23 (((0 + 1) + 1) + 1)) 11 (((0 + 1) + 1) + 1) 24) 0 23 ((((0 + 1) + 1) + 1) + 1)) 11 ((((0 + 1) + 1) + 1) + 1) 21) 0 23 (((((0 + 1) + 1) + 1) + 1) + 1)) 11 (((((0 + 1) + 1) + 1) + 1) + 1) 20) 0 23 ((((((0 + 1) + 1) + 1) + 1) + 1) + 1))
        refine g_goto C (tgt := 48) dX9_ask_40 (by decide) ?_
        exact hret _ _ _ _ dX9_ask_48 (by first | rfl | omega | ((repeat' split) <;> first | (exfalso; omega) | rfl | exact mu_mu | omega)) (by first | rfl | omega | ((repeat' split) <;> first | (exfalso; omega) | rfl | exact mu_mu | omega))
    · refine g_ldc C (n := (-1000001)) wk_X9_64 (by decide +kernel) dX9_ask_23 ?_
      exact hret _ _ _ _ dX9_ask_25 (by first | rfl | omega | ((repeat' split) <;> first | (exfalso; omega) | rfl | exact mu_mu | omega)) (by first | rfl | omega | ((repeat' split) <;> first | (exfalso; omega) | rfl | exact mu_mu | omega))
set_option maxHeartbeats 4000000 in
set_option maxRecDepth 100000 in
theorem kX9_ask_3 {l : Launch} {K : Nat → ClassId} {D : va_G} {ad : Int → Nat} {E : gEnv} {σ : Mem} {p what : Int} (hap : Apart ad 12) (hE : gEok E) (hT : TW (σ 4)) (rp : R3 p) (rw : R3 what) (hk : σ 4 (4 + p) = 3) : CtI l K D ad 12 (cfM ad K) E yX9_ask cX9_ask 3 (some .int) 5 [.ref (ad 0), .int (iI p), .int (iI what)] σ (if (0 ≤ p ∧ p ≤ σ 4 2 - 1) ∧ (0 ≤ what ∧ what ≤ 1) then (if what = 0 then σ 4 (8 + p) + (p + thoF (σ 4) p (σ 4 3).toNat - 1000) else p + thoF (σ 4) p (σ 4 3).toNat - 1000) else -1000001) (if (0 ≤ p ∧ p ≤ σ 4 2 - 1) ∧ (0 ≤ what ∧ what ≤ 1) then (if what = 0 then trcM (mu (mu σ 0 0 0) 0 23 0) [11, 10, 22, 21, 20] else trcM (mu (mu σ 0 0 0) 0 23 0) [22, 21, 20]) else mu σ 0 0 0) := by
  have hp : 0 ≤ σ 4 2 ∧ σ 4 2 ≤ 4 := hT.2.2.1
  refine ctI_of hap hE (by decide) rfl .int (nar_i _) (fun M C hn hret => ?_)
  have C : Good l K D ad 12 E 5 cX9_ask RX9 M := C
  show G M ad 12 (cfM ad K) 0 [(0, .ref (ad 0)), (1, .int (iI p)), (2, .int (iI what))] [] σ
  refine g_aload_n C dX9_ask_0 (p := 0) (hi := rfl) (hv := rfl) ?_
  refine g_iconst C dX9_ask_1 ?_
  refine gm_p_thrown C dX9_ask_2 wf_X9_44 ?_
  refine g_aload_n C dX9_ask_5 (p := 0) (hi := rfl) (hv := rfl) ?_
  refine g_iload_n C dX9_ask_6 (p := 1) (hi := rfl) (hv := rfl) ?_
  refine gm_call C dX9_ask_7 (kX9_isPerson (σ := (mu σ 0 0 0)) (p := p) hap hE (by show 0 ≤ σ 4 2 ∧ σ 4 2 ≤ 4; first | assumption | omega | exact hT | exact rp | exact rw | exact hk) (by first | assumption | omega | exact hT | exact rp | exact rw | exact hk)) mw_X9_isPerson wl_X9_226 (by decide) (by decide) rfl rfl (by simp [Value.category]) ?_
  refine g_cI (b := (if 0 ≤ p ∧ p ≤ σ 4 2 - 1 then 1 else 0)) (by first | rfl | (congr 1 <;> first | rfl | exact over_out (by omega)) | (congr 2 <;> first | rfl | exact over_out (by omega)) | simp [mu_app, mr_app]) ?_
  refine g_if_eq C (tgt := 23) dX9_ask_10 (by decide) (by omega) (fun h_1 => ?_) (fun h_1 => ?_)
  · refine g_ldc C (n := (-1000001)) wk_X9_64 (by decide +kernel) dX9_ask_23 ?_
    exact hret _ _ _ _ dX9_ask_25 (by first | rfl | omega | ((repeat' split) <;> first | (exfalso; omega) | rfl | exact mu_mu | omega)) (by first | rfl | omega | ((repeat' split) <;> first | (exfalso; omega) | rfl | exact mu_mu | omega))
  · refine g_iload_n C dX9_ask_13 (p := 2) (hi := rfl) (hv := rfl) ?_
    refine g_i2l C (by omega) dX9_ask_14 ?_
    refine g_lconst C (z := 0) dX9_ask_15 rfl ?_
    refine g_lconst C (z := 1) dX9_ask_16 rfl ?_
    refine g_callS C dX9_ask_17 (kX9_in (σ := (mu σ 0 0 0)) (v := what) (lo := 0) (hi := 1) hap hE (by first | assumption | omega | exact hT | exact rp | exact rw | exact hk) (by first | assumption | omega | exact hT | exact rp | exact rw | exact hk) (by first | assumption | omega | exact hT | exact rp | exact rw | exact hk)) mw_X9_in wl_X9_54 (by decide) (by decide) rfl rfl (by simp [Value.category]) ?_
    refine g_if_ne C (tgt := 26) dX9_ask_20 (by decide) (by omega) (fun h_2 => ?_) (fun h_2 => ?_)
    · refine g_aload_n C dX9_ask_26 (p := 0) (hi := rfl) (hv := rfl) ?_
      refine g_iconst C dX9_ask_27 ?_
      refine gm_p_traced C dX9_ask_28 wf_X9_251 ?_
      refine g_iload_n C dX9_ask_31 (p := 2) (hi := rfl) (hv := rfl) ?_
      refine g_if_ne C (tgt := 43) dX9_ask_32 (by decide) (by omega) (fun h_3 => ?_) (fun h_3 => ?_)
      · refine g_aload_n C dX9_ask_43 (p := 0) (hi := rfl) (hv := rfl) ?_
        refine g_iload_n C dX9_ask_44 (p := 1) (hi := rfl) (hv := rfl) ?_
        refine gm_call C dX9_ask_45 (kX9_markOf_3 (σ := (mu (mu σ 0 0 0) 0 23 0)) (p := p) hap hE (by show TW (σ 4); first | assumption | omega | exact hT | exact rp | exact rw | exact hk) (by show (0 : Int) ≤ 0 ∧ 0 ≤ 10; first | assumption | omega | exact hT | exact rp | exact rw | exact hk) (by first | assumption | omega | exact hT | exact rp | exact rw | exact hk) (by show σ 4 (4 + p) = 3; first | assumption | omega | exact hT | exact rp | exact rw | exact hk)) mw_X9_markOf wl_X9_266 (by decide) (by decide) rfl rfl (by simp [Value.category]) ?_
        refine g_cI (b := (p + thoF (σ 4) p (σ 4 3).toNat - 1000)) (by first | rfl | (congr 1 <;> first | rfl | exact over_out (by omega)) | (congr 2 <;> first | rfl | exact over_out (by omega)) | simp [mu_app, mr_app]) ?_
        show G M ad 12 (cfM ad K) 48 [(0, .ref (ad 0)), (1, .int (iI p)), (2, .int (iI what))] [.int (iI (p + thoF (σ 4) p (σ 4 3).toNat - 1000))] (mu (mu (mu (mu (mu (mu (mu (mu σ 0 0 0) 0 23 0) 11 0 22) 0 23 (0 + 1)) 11 (0 + 1) 21) 0 23 ((0 + 1) + 1)) 11 ((0 + 1) + 1) 20) 0 23 (((0 + 1) + 1) + 1))
        exact hret _ _ _ _ dX9_ask_48 (by first | rfl | omega | ((repeat' split) <;> first | (exfalso; omega) | rfl | exact mu_mu | omega)) (by first | rfl | omega | ((repeat' split) <;> first | (exfalso; omega) | rfl | exact mu_mu | omega))
      · refine g_aload_n C dX9_ask_35 (p := 0) (hi := rfl) (hv := rfl) ?_
        refine g_iload_n C dX9_ask_36 (p := 1) (hi := rfl) (hv := rfl) ?_
        refine gm_call C dX9_ask_37 (kX9_sizeOf_3 (σ := (mu (mu σ 0 0 0) 0 23 0)) (p := p) hap hE (by show TW (σ 4); first | assumption | omega | exact hT | exact rp | exact rw | exact hk) (by show (0 : Int) ≤ 0 ∧ 0 ≤ 6; first | assumption | omega | exact hT | exact rp | exact rw | exact hk) (by first | assumption | omega | exact hT | exact rp | exact rw | exact hk) (by show σ 4 (4 + p) = 3; first | assumption | omega | exact hT | exact rp | exact rw | exact hk)) mw_X9_sizeOf wl_X9_269 (by decide) (by decide) rfl rfl (by simp [Value.category]) ?_
        refine g_cI (b := (σ 4 (8 + p) + (p + thoF (σ 4) p (σ 4 3).toNat - 1000))) (by first | rfl | (congr 1 <;> first | rfl | exact over_out (by omega)) | (congr 2 <;> first | rfl | exact over_out (by omega)) | simp [mu_app, mr_app]) ?_
        show G M ad 12 (cfM ad K) 40 [(0, .ref (ad 0)), (1, .int (iI p)), (2, .int (iI what))] [.int (iI (σ 4 (8 + p) + (p + thoF (σ 4) p (σ 4 3).toNat - 1000)))] (mu (mu (mu (mu (mu (mu (mu (mu (mu (mu (mu (mu σ 0 0 0) 0 23 0) 11 0 11) 0 23 (0 + 1)) 11 (0 + 1) 10) 0 23 ((0 + 1) + 1)) 11 ((0 + 1) + 1) 22) 0 23 (((0 + 1) + 1) + 1)) 11 (((0 + 1) + 1) + 1) 21) 0 23 ((((0 + 1) + 1) + 1) + 1)) 11 ((((0 + 1) + 1) + 1) + 1) 20) 0 23 (((((0 + 1) + 1) + 1) + 1) + 1))
        refine g_goto C (tgt := 48) dX9_ask_40 (by decide) ?_
        exact hret _ _ _ _ dX9_ask_48 (by first | rfl | omega | ((repeat' split) <;> first | (exfalso; omega) | rfl | exact mu_mu | omega)) (by first | rfl | omega | ((repeat' split) <;> first | (exfalso; omega) | rfl | exact mu_mu | omega))
    · refine g_ldc C (n := (-1000001)) wk_X9_64 (by decide +kernel) dX9_ask_23 ?_
      exact hret _ _ _ _ dX9_ask_25 (by first | rfl | omega | ((repeat' split) <;> first | (exfalso; omega) | rfl | exact mu_mu | omega)) (by first | rfl | omega | ((repeat' split) <;> first | (exfalso; omega) | rfl | exact mu_mu | omega))
set_option maxHeartbeats 4000000 in
set_option maxRecDepth 100000 in
theorem kX9_ask_4 {l : Launch} {K : Nat → ClassId} {D : va_G} {ad : Int → Nat} {E : gEnv} {σ : Mem} {p what : Int} (hap : Apart ad 12) (hE : gEok E) (hT : TW (σ 4)) (rp : R3 p) (rw : R3 what) (hk : σ 4 (4 + p) = 4) : CtI l K D ad 12 (cfM ad K) E yX9_ask cX9_ask 3 (some .int) 5 [.ref (ad 0), .int (iI p), .int (iI what)] σ (if (0 ≤ p ∧ p ≤ σ 4 2 - 1) ∧ (0 ≤ what ∧ what ≤ 1) then (if what = 0 then σ 4 (8 + p) - 100 else p - (σ 4 (8 + p) - 100)) else -1000001) (if (0 ≤ p ∧ p ≤ σ 4 2 - 1) ∧ (0 ≤ what ∧ what ≤ 1) then (if what = 0 then trcM (mu (mu σ 0 0 0) 0 23 0) [13, 10] else trcM (mu (mu σ 0 0 0) 0 23 0) [23, 20, 13, 10]) else mu σ 0 0 0) := by
  have hp : 0 ≤ σ 4 2 ∧ σ 4 2 ≤ 4 := hT.2.2.1
  refine ctI_of hap hE (by decide) rfl .int (nar_i _) (fun M C hn hret => ?_)
  have C : Good l K D ad 12 E 5 cX9_ask RX9 M := C
  show G M ad 12 (cfM ad K) 0 [(0, .ref (ad 0)), (1, .int (iI p)), (2, .int (iI what))] [] σ
  refine g_aload_n C dX9_ask_0 (p := 0) (hi := rfl) (hv := rfl) ?_
  refine g_iconst C dX9_ask_1 ?_
  refine gm_p_thrown C dX9_ask_2 wf_X9_44 ?_
  refine g_aload_n C dX9_ask_5 (p := 0) (hi := rfl) (hv := rfl) ?_
  refine g_iload_n C dX9_ask_6 (p := 1) (hi := rfl) (hv := rfl) ?_
  refine gm_call C dX9_ask_7 (kX9_isPerson (σ := (mu σ 0 0 0)) (p := p) hap hE (by show 0 ≤ σ 4 2 ∧ σ 4 2 ≤ 4; first | assumption | omega | exact hT | exact rp | exact rw | exact hk) (by first | assumption | omega | exact hT | exact rp | exact rw | exact hk)) mw_X9_isPerson wl_X9_226 (by decide) (by decide) rfl rfl (by simp [Value.category]) ?_
  refine g_cI (b := (if 0 ≤ p ∧ p ≤ σ 4 2 - 1 then 1 else 0)) (by first | rfl | (congr 1 <;> first | rfl | exact over_out (by omega)) | (congr 2 <;> first | rfl | exact over_out (by omega)) | simp [mu_app, mr_app]) ?_
  refine g_if_eq C (tgt := 23) dX9_ask_10 (by decide) (by omega) (fun h_1 => ?_) (fun h_1 => ?_)
  · refine g_ldc C (n := (-1000001)) wk_X9_64 (by decide +kernel) dX9_ask_23 ?_
    exact hret _ _ _ _ dX9_ask_25 (by first | rfl | omega | ((repeat' split) <;> first | (exfalso; omega) | rfl | exact mu_mu | omega)) (by first | rfl | omega | ((repeat' split) <;> first | (exfalso; omega) | rfl | exact mu_mu | omega))
  · refine g_iload_n C dX9_ask_13 (p := 2) (hi := rfl) (hv := rfl) ?_
    refine g_i2l C (by omega) dX9_ask_14 ?_
    refine g_lconst C (z := 0) dX9_ask_15 rfl ?_
    refine g_lconst C (z := 1) dX9_ask_16 rfl ?_
    refine g_callS C dX9_ask_17 (kX9_in (σ := (mu σ 0 0 0)) (v := what) (lo := 0) (hi := 1) hap hE (by first | assumption | omega | exact hT | exact rp | exact rw | exact hk) (by first | assumption | omega | exact hT | exact rp | exact rw | exact hk) (by first | assumption | omega | exact hT | exact rp | exact rw | exact hk)) mw_X9_in wl_X9_54 (by decide) (by decide) rfl rfl (by simp [Value.category]) ?_
    refine g_if_ne C (tgt := 26) dX9_ask_20 (by decide) (by omega) (fun h_2 => ?_) (fun h_2 => ?_)
    · refine g_aload_n C dX9_ask_26 (p := 0) (hi := rfl) (hv := rfl) ?_
      refine g_iconst C dX9_ask_27 ?_
      refine gm_p_traced C dX9_ask_28 wf_X9_251 ?_
      refine g_iload_n C dX9_ask_31 (p := 2) (hi := rfl) (hv := rfl) ?_
      refine g_if_ne C (tgt := 43) dX9_ask_32 (by decide) (by omega) (fun h_3 => ?_) (fun h_3 => ?_)
      · refine g_aload_n C dX9_ask_43 (p := 0) (hi := rfl) (hv := rfl) ?_
        refine g_iload_n C dX9_ask_44 (p := 1) (hi := rfl) (hv := rfl) ?_
        refine gm_call C dX9_ask_45 (kX9_markOf_4 (σ := (mu (mu σ 0 0 0) 0 23 0)) (p := p) hap hE (by show TW (σ 4); first | assumption | omega | exact hT | exact rp | exact rw | exact hk) (by show (0 : Int) ≤ 0 ∧ 0 ≤ 10; first | assumption | omega | exact hT | exact rp | exact rw | exact hk) (by first | assumption | omega | exact hT | exact rp | exact rw | exact hk) (by show σ 4 (4 + p) = 4; first | assumption | omega | exact hT | exact rp | exact rw | exact hk)) mw_X9_markOf wl_X9_266 (by decide) (by decide) rfl rfl (by simp [Value.category]) ?_
        refine g_cI (b := (p - ((σ 4) (8 + p) - 100))) (by first | rfl | (congr 1 <;> first | rfl | exact over_out (by omega)) | (congr 2 <;> first | rfl | exact over_out (by omega)) | simp [mu_app, mr_app]) ?_
        show G M ad 12 (cfM ad K) 48 [(0, .ref (ad 0)), (1, .int (iI p)), (2, .int (iI what))] [.int (iI (p - ((σ 4) (8 + p) - 100)))] (mu (mu (mu (mu (mu (mu (mu (mu (mu (mu σ 0 0 0) 0 23 0) 11 0 23) 0 23 (0 + 1)) 11 (0 + 1) 20) 0 23 ((0 + 1) + 1)) 11 ((0 + 1) + 1) 13) 0 23 (((0 + 1) + 1) + 1)) 11 (((0 + 1) + 1) + 1) 10) 0 23 ((((0 + 1) + 1) + 1) + 1))
        exact hret _ _ _ _ dX9_ask_48 (by first | rfl | omega | ((repeat' split) <;> first | (exfalso; omega) | rfl | exact mu_mu | omega)) (by first | rfl | omega | ((repeat' split) <;> first | (exfalso; omega) | rfl | exact mu_mu | omega))
      · refine g_aload_n C dX9_ask_35 (p := 0) (hi := rfl) (hv := rfl) ?_
        refine g_iload_n C dX9_ask_36 (p := 1) (hi := rfl) (hv := rfl) ?_
        refine gm_call C dX9_ask_37 (kX9_sizeOf_4 (σ := (mu (mu σ 0 0 0) 0 23 0)) (p := p) hap hE (by show TW (σ 4); first | assumption | omega | exact hT | exact rp | exact rw | exact hk) (by show (0 : Int) ≤ 0 ∧ 0 ≤ 6; first | assumption | omega | exact hT | exact rp | exact rw | exact hk) (by first | assumption | omega | exact hT | exact rp | exact rw | exact hk) (by show σ 4 (4 + p) = 4; first | assumption | omega | exact hT | exact rp | exact rw | exact hk)) mw_X9_sizeOf wl_X9_269 (by decide) (by decide) rfl rfl (by simp [Value.category]) ?_
        refine g_cI (b := (σ 4 (8 + p) - 100)) (by first | rfl | (congr 1 <;> first | rfl | exact over_out (by omega)) | (congr 2 <;> first | rfl | exact over_out (by omega)) | simp [mu_app, mr_app]) ?_
        show G M ad 12 (cfM ad K) 40 [(0, .ref (ad 0)), (1, .int (iI p)), (2, .int (iI what))] [.int (iI (σ 4 (8 + p) - 100))] (mu (mu (mu (mu (mu (mu σ 0 0 0) 0 23 0) 11 0 13) 0 23 (0 + 1)) 11 (0 + 1) 10) 0 23 ((0 + 1) + 1))
        refine g_goto C (tgt := 48) dX9_ask_40 (by decide) ?_
        exact hret _ _ _ _ dX9_ask_48 (by first | rfl | omega | ((repeat' split) <;> first | (exfalso; omega) | rfl | exact mu_mu | omega)) (by first | rfl | omega | ((repeat' split) <;> first | (exfalso; omega) | rfl | exact mu_mu | omega))
    · refine g_ldc C (n := (-1000001)) wk_X9_64 (by decide +kernel) dX9_ask_23 ?_
      exact hret _ _ _ _ dX9_ask_25 (by first | rfl | omega | ((repeat' split) <;> first | (exfalso; omega) | rfl | exact mu_mu | omega)) (by first | rfl | omega | ((repeat' split) <;> first | (exfalso; omega) | rfl | exact mu_mu | omega))
set_option maxHeartbeats 4000000 in
set_option maxRecDepth 100000 in
theorem kX9_ask_5 {l : Launch} {K : Nat → ClassId} {D : va_G} {ad : Int → Nat} {E : gEnv} {σ : Mem} {p what : Int} (hap : Apart ad 12) (hE : gEok E) (hT : TW (σ 4)) (rp : R3 p) (rw : R3 what) (hk : σ 4 (4 + p) = 5) : CtI l K D ad 12 (cfM ad K) E yX9_ask cX9_ask 3 (some .int) 5 [.ref (ad 0), .int (iI p), .int (iI what)] σ (if (0 ≤ p ∧ p ≤ σ 4 2 - 1) ∧ (0 ≤ what ∧ what ≤ 1) then (if what = 0 then 2 * (σ 4 (8 + p) - 100) else p - 2 * (σ 4 (8 + p) - 100)) else -1000001) (if (0 ≤ p ∧ p ≤ σ 4 2 - 1) ∧ (0 ≤ what ∧ what ≤ 1) then (if what = 0 then trcM (mu (mu σ 0 0 0) 0 23 0) [14, 13, 10] else trcM (mu (mu σ 0 0 0) 0 23 0) [23, 20, 14, 13, 10]) else mu σ 0 0 0) := by
  have hp : 0 ≤ σ 4 2 ∧ σ 4 2 ≤ 4 := hT.2.2.1
  refine ctI_of hap hE (by decide) rfl .int (nar_i _) (fun M C hn hret => ?_)
  have C : Good l K D ad 12 E 5 cX9_ask RX9 M := C
  show G M ad 12 (cfM ad K) 0 [(0, .ref (ad 0)), (1, .int (iI p)), (2, .int (iI what))] [] σ
  refine g_aload_n C dX9_ask_0 (p := 0) (hi := rfl) (hv := rfl) ?_
  refine g_iconst C dX9_ask_1 ?_
  refine gm_p_thrown C dX9_ask_2 wf_X9_44 ?_
  refine g_aload_n C dX9_ask_5 (p := 0) (hi := rfl) (hv := rfl) ?_
  refine g_iload_n C dX9_ask_6 (p := 1) (hi := rfl) (hv := rfl) ?_
  refine gm_call C dX9_ask_7 (kX9_isPerson (σ := (mu σ 0 0 0)) (p := p) hap hE (by show 0 ≤ σ 4 2 ∧ σ 4 2 ≤ 4; first | assumption | omega | exact hT | exact rp | exact rw | exact hk) (by first | assumption | omega | exact hT | exact rp | exact rw | exact hk)) mw_X9_isPerson wl_X9_226 (by decide) (by decide) rfl rfl (by simp [Value.category]) ?_
  refine g_cI (b := (if 0 ≤ p ∧ p ≤ σ 4 2 - 1 then 1 else 0)) (by first | rfl | (congr 1 <;> first | rfl | exact over_out (by omega)) | (congr 2 <;> first | rfl | exact over_out (by omega)) | simp [mu_app, mr_app]) ?_
  refine g_if_eq C (tgt := 23) dX9_ask_10 (by decide) (by omega) (fun h_1 => ?_) (fun h_1 => ?_)
  · refine g_ldc C (n := (-1000001)) wk_X9_64 (by decide +kernel) dX9_ask_23 ?_
    exact hret _ _ _ _ dX9_ask_25 (by first | rfl | omega | ((repeat' split) <;> first | (exfalso; omega) | rfl | exact mu_mu | omega)) (by first | rfl | omega | ((repeat' split) <;> first | (exfalso; omega) | rfl | exact mu_mu | omega))
  · refine g_iload_n C dX9_ask_13 (p := 2) (hi := rfl) (hv := rfl) ?_
    refine g_i2l C (by omega) dX9_ask_14 ?_
    refine g_lconst C (z := 0) dX9_ask_15 rfl ?_
    refine g_lconst C (z := 1) dX9_ask_16 rfl ?_
    refine g_callS C dX9_ask_17 (kX9_in (σ := (mu σ 0 0 0)) (v := what) (lo := 0) (hi := 1) hap hE (by first | assumption | omega | exact hT | exact rp | exact rw | exact hk) (by first | assumption | omega | exact hT | exact rp | exact rw | exact hk) (by first | assumption | omega | exact hT | exact rp | exact rw | exact hk)) mw_X9_in wl_X9_54 (by decide) (by decide) rfl rfl (by simp [Value.category]) ?_
    refine g_if_ne C (tgt := 26) dX9_ask_20 (by decide) (by omega) (fun h_2 => ?_) (fun h_2 => ?_)
    · refine g_aload_n C dX9_ask_26 (p := 0) (hi := rfl) (hv := rfl) ?_
      refine g_iconst C dX9_ask_27 ?_
      refine gm_p_traced C dX9_ask_28 wf_X9_251 ?_
      refine g_iload_n C dX9_ask_31 (p := 2) (hi := rfl) (hv := rfl) ?_
      refine g_if_ne C (tgt := 43) dX9_ask_32 (by decide) (by omega) (fun h_3 => ?_) (fun h_3 => ?_)
      · refine g_aload_n C dX9_ask_43 (p := 0) (hi := rfl) (hv := rfl) ?_
        refine g_iload_n C dX9_ask_44 (p := 1) (hi := rfl) (hv := rfl) ?_
        refine gm_call C dX9_ask_45 (kX9_markOf_5 (σ := (mu (mu σ 0 0 0) 0 23 0)) (p := p) hap hE (by show TW (σ 4); first | assumption | omega | exact hT | exact rp | exact rw | exact hk) (by show (0 : Int) ≤ 0 ∧ 0 ≤ 10; first | assumption | omega | exact hT | exact rp | exact rw | exact hk) (by first | assumption | omega | exact hT | exact rp | exact rw | exact hk) (by show σ 4 (4 + p) = 5; first | assumption | omega | exact hT | exact rp | exact rw | exact hk)) mw_X9_markOf wl_X9_266 (by decide) (by decide) rfl rfl (by simp [Value.category]) ?_
        refine g_cI (b := (p - 2 * ((σ 4) (8 + p) - 100))) (by first | rfl | (congr 1 <;> first | rfl | exact over_out (by omega)) | (congr 2 <;> first | rfl | exact over_out (by omega)) | simp [mu_app, mr_app]) ?_
        show G M ad 12 (cfM ad K) 48 [(0, .ref (ad 0)), (1, .int (iI p)), (2, .int (iI what))] [.int (iI (p - 2 * ((σ 4) (8 + p) - 100)))] (mu (mu (mu (mu (mu (mu (mu (mu (mu (mu (mu (mu σ 0 0 0) 0 23 0) 11 0 23) 0 23 (0 + 1)) 11 (0 + 1) 20) 0 23 ((0 + 1) + 1)) 11 ((0 + 1) + 1) 14) 0 23 (((0 + 1) + 1) + 1)) 11 (((0 + 1) + 1) + 1) 13) 0 23 ((((0 + 1) + 1) + 1) + 1)) 11 ((((0 + 1) + 1) + 1) + 1) 10) 0 23 (((((0 + 1) + 1) + 1) + 1) + 1))
        exact hret _ _ _ _ dX9_ask_48 (by first | rfl | omega | ((repeat' split) <;> first | (exfalso; omega) | rfl | exact mu_mu | omega)) (by first | rfl | omega | ((repeat' split) <;> first | (exfalso; omega) | rfl | exact mu_mu | omega))
      · refine g_aload_n C dX9_ask_35 (p := 0) (hi := rfl) (hv := rfl) ?_
        refine g_iload_n C dX9_ask_36 (p := 1) (hi := rfl) (hv := rfl) ?_
        refine gm_call C dX9_ask_37 (kX9_sizeOf_5 (σ := (mu (mu σ 0 0 0) 0 23 0)) (p := p) hap hE (by show TW (σ 4); first | assumption | omega | exact hT | exact rp | exact rw | exact hk) (by show (0 : Int) ≤ 0 ∧ 0 ≤ 6; first | assumption | omega | exact hT | exact rp | exact rw | exact hk) (by first | assumption | omega | exact hT | exact rp | exact rw | exact hk) (by show σ 4 (4 + p) = 5; first | assumption | omega | exact hT | exact rp | exact rw | exact hk)) mw_X9_sizeOf wl_X9_269 (by decide) (by decide) rfl rfl (by simp [Value.category]) ?_
        refine g_cI (b := (2 * ((σ 4) (8 + p) - 100))) (by first | rfl | (congr 1 <;> first | rfl | exact over_out (by omega)) | (congr 2 <;> first | rfl | exact over_out (by omega)) | simp [mu_app, mr_app]) ?_
        show G M ad 12 (cfM ad K) 40 [(0, .ref (ad 0)), (1, .int (iI p)), (2, .int (iI what))] [.int (iI (2 * ((σ 4) (8 + p) - 100)))] (mu (mu (mu (mu (mu (mu (mu (mu σ 0 0 0) 0 23 0) 11 0 14) 0 23 (0 + 1)) 11 (0 + 1) 13) 0 23 ((0 + 1) + 1)) 11 ((0 + 1) + 1) 10) 0 23 (((0 + 1) + 1) + 1))
        refine g_goto C (tgt := 48) dX9_ask_40 (by decide) ?_
        exact hret _ _ _ _ dX9_ask_48 (by first | rfl | omega | ((repeat' split) <;> first | (exfalso; omega) | rfl | exact mu_mu | omega)) (by first | rfl | omega | ((repeat' split) <;> first | (exfalso; omega) | rfl | exact mu_mu | omega))
    · refine g_ldc C (n := (-1000001)) wk_X9_64 (by decide +kernel) dX9_ask_23 ?_
      exact hret _ _ _ _ dX9_ask_25 (by first | rfl | omega | ((repeat' split) <;> first | (exfalso; omega) | rfl | exact mu_mu | omega)) (by first | rfl | omega | ((repeat' split) <;> first | (exfalso; omega) | rfl | exact mu_mu | omega))

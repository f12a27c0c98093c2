set_option maxHeartbeats 4000000 in
set_option maxRecDepth 100000 in
theorem kX9_ask_no {l : Launch} {K : Nat → ClassId} {D : va_G} {ad : Int → Nat} {E : gEnv} {σ : Mem} {p what : Int} (hap : Apart ad 12) (hE : gEok E) (hT : TW (σ 4)) (rp : R3 p) (rw : R3 what) (hno : ¬ ((0 ≤ p ∧ p ≤ σ 4 2 - 1) ∧ (0 ≤ what ∧ what ≤ 1))) : CtI l K D ad 12 (cfM ad K) E yX9_ask cX9_ask 3 (some .int) 5 [.ref (ad 0), .int (iI p), .int (iI what)] σ (-1000001) (mu σ 0 0 0) := by
  have hp : 0 ≤ σ 4 2 ∧ σ 4 2 ≤ 4 := hT.2.2.1
  refine ctI_of hap hE (by decide) rfl .int (nar_i _) (fun M C hn hret => ?_)
  have C : Good l K D ad 12 E 5 cX9_ask RX9 M := C
  show G M ad 12 (cfM ad K) 0 [(0, .ref (ad 0)), (1, .int (iI p)), (2, .int (iI what))] [] σ
  refine g_aload_n C dX9_ask_0 (p := 0) (hi := rfl) (hv := rfl) ?_
  refine g_iconst C dX9_ask_1 ?_
  refine gm_p_thrown C dX9_ask_2 wf_X9_44 ?_
  refine g_aload_n C dX9_ask_5 (p := 0) (hi := rfl) (hv := rfl) ?_
  refine g_iload_n C dX9_ask_6 (p := 1) (hi := rfl) (hv := rfl) ?_
  refine gm_call C dX9_ask_7 (kX9_isPerson (σ := (mu σ 0 0 0)) (p := p) hap hE (by show 0 ≤ σ 4 2 ∧ σ 4 2 ≤ 4; first | assumption | omega | exact hT | exact rp | exact rw | exact hno) (by first | assumption | omega | exact hT | exact rp | exact rw | exact hno)) mw_X9_isPerson wl_X9_226 (by decide) (by decide) rfl rfl (by simp [Value.category]) ?_
  refine g_cI (b := (if 0 ≤ p ∧ p ≤ σ 4 2 - 1 then 1 else 0)) (by first | rfl | (congr 1 <;> first | rfl | exact over_out (by omega)) | (congr 2 <;> first | rfl | exact over_out (by omega)) | simp [mu_app, mr_app]) ?_
  refine g_if_eq C (tgt := 23) dX9_ask_10 (by decide) (by omega) (fun h_1 => ?_) (fun h_1 => ?_)
  · refine g_ldc C (n := (-1000001)) wk_X9_64 (by decide +kernel) dX9_ask_23 ?_
    exact hret _ _ _ _ dX9_ask_25 (by first | rfl | omega | ((repeat' split) <;> first | (exfalso; omega) | rfl | exact mu_mu | omega)) (by first | rfl | omega | ((repeat' split) <;> first | (exfalso; omega) | rfl | exact mu_mu | omega))
  · refine g_iload_n C dX9_ask_13 (p := 2) (hi := rfl) (hv := rfl) ?_
    refine g_i2l C (by omega) dX9_ask_14 ?_
    refine g_lconst C (z := 0) dX9_ask_15 rfl ?_
    refine g_lconst C (z := 1) dX9_ask_16 rfl ?_
    refine g_callS C dX9_ask_17 (kX9_in (σ := (mu σ 0 0 0)) (v := what) (lo := 0) (hi := 1) hap hE (by first | assumption | omega | exact hT | exact rp | exact rw | exact hno) (by first | assumption | omega | exact hT | exact rp | exact rw | exact hno) (by first | assumption | omega | exact hT | exact rp | exact rw | exact hno)) mw_X9_in wl_X9_54 (by decide) (by decide) rfl rfl (by simp [Value.category]) ?_
    refine g_if_ne C (tgt := 26) dX9_ask_20 (by decide) (by omega) (fun h_2 => ?_) (fun h_2 => ?_)
    · exfalso; (try split at h_1) <;> (try split at h_2) <;> first | omega | contradiction
    · refine g_ldc C (n := (-1000001)) wk_X9_64 (by decide +kernel) dX9_ask_23 ?_
      exact hret _ _ _ _ dX9_ask_25 (by first | rfl | omega | ((repeat' split) <;> first | (exfalso; omega) | rfl | exact mu_mu | omega)) (by first | rfl | omega | ((repeat' split) <;> first | (exfalso; omega) | rfl | exact mu_mu | omega))
def raV (T : Int → Int) (p w : Int) : Int := if T (4 + p) = 1 then (if w = 0 then T (8 + p) + (p + thoF (T) p (T 3).toNat) else p + thoF (T) p (T 3).toNat) else if T (4 + p) = 2 then (if w = 0 then -(T (8 + p) + 2 * (p + thoF (T) p (T 3).toNat)) else 2 * (p + thoF (T) p (T 3).toNat)) else if T (4 + p) = 3 then (if w = 0 then T (8 + p) + (p + thoF (T) p (T 3).toNat - 1000) else p + thoF (T) p (T 3).toNat - 1000) else if T (4 + p) = 4 then (if w = 0 then T (8 + p) - 100 else p - (T (8 + p) - 100)) else (if w = 0 then 2 * (T (8 + p) - 100) else p - 2 * (T (8 + p) - 100))
def raM (σ : Mem) (p w : Int) : Mem := if σ 4 (4 + p) = 1 then (if w = 0 then trcM (mu (mu σ 0 0 0) 0 23 0) [11, 10, 21, 20] else trcM (mu (mu σ 0 0 0) 0 23 0) [21, 20]) else if σ 4 (4 + p) = 2 then (if w = 0 then trcM (mu (mu σ 0 0 0) 0 23 0) [12, 11, 10, 24, 21, 20] else trcM (mu (mu σ 0 0 0) 0 23 0) [24, 21, 20]) else if σ 4 (4 + p) = 3 then (if w = 0 then trcM (mu (mu σ 0 0 0) 0 23 0) [11, 10, 22, 21, 20] else trcM (mu (mu σ 0 0 0) 0 23 0) [22, 21, 20]) else if σ 4 (4 + p) = 4 then (if w = 0 then trcM (mu (mu σ 0 0 0) 0 23 0) [13, 10] else trcM (mu (mu σ 0 0 0) 0 23 0) [23, 20, 13, 10]) else (if w = 0 then trcM (mu (mu σ 0 0 0) 0 23 0) [14, 13, 10] else trcM (mu (mu σ 0 0 0) 0 23 0) [23, 20, 14, 13, 10])
theorem kX9_ask {l : Launch} {K : Nat → ClassId} {D : va_G} {ad : Int → Nat} {E : gEnv} {σ : Mem} {p what : Int} (hap : Apart ad 12) (hE : gEok E) (hT : TW (σ 4)) (hk1 : ∀ p : Int, 0 ≤ p → p < σ 4 2 → 1 ≤ σ 4 (4 + p)) (rp : R3 p) (rw : R3 what) : CtI l K D ad 12 (cfM ad K) E yX9_ask cX9_ask 3 (some .int) 5 [.ref (ad 0), .int (iI p), .int (iI what)] σ (if (0 ≤ p ∧ p ≤ σ 4 2 - 1) ∧ (0 ≤ what ∧ what ≤ 1) then raV (σ 4) p what else -1000001) (if (0 ≤ p ∧ p ≤ σ 4 2 - 1) ∧ (0 ≤ what ∧ what ≤ 1) then raM σ p what else mu σ 0 0 0) := by
  by_cases c : (0 ≤ p ∧ p ≤ σ 4 2 - 1) ∧ (0 ≤ what ∧ what ≤ 1)
  · rw [if_pos c, if_pos c]
    have k1 := hk1 p c.1.1 (by omega)
    have k2 := (hT.2.2.2.2.1 p c.1.1 (by have := hT.2.2.1; omega)).2
    rcases (show σ 4 (4 + p) = 1 ∨ σ 4 (4 + p) = 2 ∨ σ 4 (4 + p) = 3 ∨ σ 4 (4 + p) = 4 ∨ σ 4 (4 + p) = 5 from by omega) with h | h | h | h | h
    · have h1 := kX9_ask_1 (l := l) (K := K) (D := D) (E := E) (σ := σ) hap hE hT rp rw h
      rw [if_pos c, if_pos c] at h1
      unfold raV raM
      rw [if_pos h, if_pos h]
      exact h1
    · have h1 := kX9_ask_2 (l := l) (K := K) (D := D) (E := E) (σ := σ) hap hE hT rp rw h
      rw [if_pos c, if_pos c] at h1
      unfold raV raM
      rw [if_neg (show ¬ σ 4 (4 + p) = 1 by omega), if_neg (show ¬ σ 4 (4 + p) = 1 by omega)]
      rw [if_pos h, if_pos h]
      exact h1
    · have h1 := kX9_ask_3 (l := l) (K := K) (D := D) (E := E) (σ := σ) hap hE hT rp rw h
      rw [if_pos c, if_pos c] at h1
      unfold raV raM
      rw [if_neg (show ¬ σ 4 (4 + p) = 1 by omega), if_neg (show ¬ σ 4 (4 + p) = 1 by omega)]
      rw [if_neg (show ¬ σ 4 (4 + p) = 2 by omega), if_neg (show ¬ σ 4 (4 + p) = 2 by omega)]
      rw [if_pos h, if_pos h]
      exact h1
    · have h1 := kX9_ask_4 (l := l) (K := K) (D := D) (E := E) (σ := σ) hap hE hT rp rw h
      rw [if_pos c, if_pos c] at h1
      unfold raV raM
      rw [if_neg (show ¬ σ 4 (4 + p) = 1 by omega), if_neg (show ¬ σ 4 (4 + p) = 1 by omega)]
      rw [if_neg (show ¬ σ 4 (4 + p) = 2 by omega), if_neg (show ¬ σ 4 (4 + p) = 2 by omega)]
      rw [if_neg (show ¬ σ 4 (4 + p) = 3 by omega), if_neg (show ¬ σ 4 (4 + p) = 3 by omega)]
      rw [if_pos h, if_pos h]
      exact h1
    · have h1 := kX9_ask_5 (l := l) (K := K) (D := D) (E := E) (σ := σ) hap hE hT rp rw h
      rw [if_pos c, if_pos c] at h1
      unfold raV raM
      rw [if_neg (show ¬ σ 4 (4 + p) = 1 by omega), if_neg (show ¬ σ 4 (4 + p) = 1 by omega)]
      rw [if_neg (show ¬ σ 4 (4 + p) = 2 by omega), if_neg (show ¬ σ 4 (4 + p) = 2 by omega)]
      rw [if_neg (show ¬ σ 4 (4 + p) = 3 by omega), if_neg (show ¬ σ 4 (4 + p) = 3 by omega)]
      rw [if_neg (show ¬ σ 4 (4 + p) = 4 by omega), if_neg (show ¬ σ 4 (4 + p) = 4 by omega)]
      exact h1
  · rw [if_neg c, if_neg c]
    exact kX9_ask_no hap hE hT rp rw c

/-! the readers of both -/
theorem scF_all {b : Int → Int} : ∀ (m : Nat) (c k : Int), c ≤ k → k < scF b m c → b k = 1
  | 0, c, k, h0, h1 => by simp only [scF] at h1; omega
  | m + 1, c, k, h0, h1 => by
    simp only [scF] at h1
    by_cases hb : b c = 1
    · rw [if_pos hb] at h1
      by_cases e : k = c
      · rw [e]; exact hb
      · exact scF_all m (c + 1) k (by omega) h1
    · rw [if_neg hb] at h1; omega
theorem scan_all {b : Int → Int} {n c k : Int} (h0 : c ≤ k) (h1 : k < scan b n c) : b k = 1 := scF_all _ c k h0 h1
def PP (σ τ : Mem) : Prop := (τ 7 = σ 4 ∧ τ 0 12 = σ 3 1 ∧ τ 0 13 = σ 3 4 ∧ τ 0 15 = σ 3 3 ∧ τ 0 16 = σ 3 4 ∧ tkC (τ 0 14) = σ 3 5 ∧ (0 ≤ τ 0 14 ∧ τ 0 14 ≤ 4) ∧ τ 0 17 = 0) ∧ RPC σ ∧ (σ 3 5 = 1 → ∀ k : Int, σ 3 3 ≤ k → k < σ 3 4 → 97 ≤ σ 4 k ∧ σ 4 k ≤ 122) ∧ (σ 3 5 = 2 → ∀ k : Int, σ 3 3 ≤ k → k < σ 3 4 → 48 ≤ σ 4 k ∧ σ 4 k ≤ 57)
/-- the first fault, as both keep it -/
def FF (σ τ : Mem) : Prop := σ 3 2 = τ 0 17 ∧ σ 3 3 = τ 0 18 ∧ 0 < τ 0 17
theorem PP_of {σ τ σ' τ' : Mem} (h : PP σ τ) (h3 : ∀ j, j = 1 ∨ j = 3 ∨ j = 4 ∨ j = 5 → σ' 3 j = σ 3 j) (h4 : σ' 4 = σ 4) (t7 : τ' 7 = τ 7) (t0 : ∀ j, 12 ≤ j → j ≤ 17 → τ' 0 j = τ 0 j) : PP σ' τ' := by
  obtain ⟨h1, h2, h5, h6⟩ := h
  have hr := RPC_of h2 h3 h4
  have a1 := h3 1 (by simp)
  have a3 := h3 3 (by simp)
  have a4 := h3 4 (by simp)
  have a5 := h3 5 (by simp)
  refine ⟨?_, hr, ?_, ?_⟩
  · rw [a1, a3, a4, a5, h4, t7, t0 12 (by omega) (by omega), t0 13 (by omega) (by omega), t0 14 (by omega) (by omega), t0 15 (by omega) (by omega), t0 16 (by omega) (by omega), t0 17 (by omega) (by omega)]
    exact h1
  · rw [a3, a4, a5, h4]; exact h5
  · rw [a3, a4, a5, h4]; exact h6
theorem PP_cls {σ τ : Mem} {q j v : Int} (h : PP σ τ) (h3 : q ≠ 3) (h4 : q ≠ 4) : PP (mu σ q j v) τ := PP_of h (fun _ _ => mu_k (Ne.symm h3)) (by funext x; exact mu_k (Ne.symm h4)) rfl (fun _ _ _ => rfl)
theorem PP_26 {σ τ : Mem} {j v : Int} (h : PP σ τ) (hj : j = 2 ∨ j = 6) : PP (mu σ 3 j v) τ := PP_of h (fun i hi => mu_j (by omega)) (by funext x; exact mu_k (by decide)) rfl (fun _ _ _ => rfl)
theorem PP_ref {σ τ : Mem} {q j v : Int} (h : PP σ τ) (h0 : q ≠ 0) (h7 : q ≠ 7) : PP σ (mu τ q j v) := PP_of h (fun _ _ => rfl) rfl (by funext x; exact mu_k (Ne.symm h7)) (fun _ _ _ => mu_k (Ne.symm h0))
theorem nxtM_c {τ : Mem} {q : Int} (h : q ≠ 0) : nxtM τ q = τ q := by
  funext x
  show mr τ 0 _ q x = _
  rw [mr_app, if_neg h]
theorem st_nx {σ τ : Mem} (h7 : τ 7 = σ 4) (h12 : τ 0 12 = σ 3 1) (h13 : τ 0 13 = σ 3 4) (h17 : τ 0 17 = 0) (hT : TRC σ) : PP (stM σ) (nxtM τ) := by
  have ht := tk_in (f := σ 4) (n := σ 3 1) (c := σ 3 4) hT.2.2
  have hc := tkC_in ⟨ht.2.2.2.1, ht.2.2.2.2.1⟩
  have e13 : nxtM τ 0 13 = tkE (σ 4) (σ 3 1) (σ 3 4) := by rw [← h7, ← h12, ← h13]; rfl
  have e14 : nxtM τ 0 14 = tkT (σ 4) (σ 3 1) (σ 3 4) := by rw [← h7, ← h12, ← h13]; rfl
  have e15 : nxtM τ 0 15 = tkS (σ 4) (σ 3 1) (σ 3 4) := by rw [← h7, ← h12, ← h13]; rfl
  have e16 : nxtM τ 0 16 = tkE (σ 4) (σ 3 1) (σ 3 4) := by rw [← h7, ← h12, ← h13]; rfl
  refine ⟨⟨h7, h12, e13, e15, e16, by rw [e14]; rfl, by rw [e14]; exact ⟨ht.2.2.2.1, ht.2.2.2.2.1⟩, h17⟩, stM_RPC hT, ?_, ?_⟩
  · show tkC (tkT (σ 4) (σ 3 1) (σ 3 4)) = 1 → ∀ k : Int, tkS (σ 4) (σ 3 1) (σ 3 4) ≤ k → k < tkE (σ 4) (σ 3 1) (σ 3 4) → 97 ≤ σ 4 k ∧ σ 4 k ≤ 122
    intro hk k k0 k1
    have e2 : tkT (σ 4) (σ 3 1) (σ 3 4) = 2 := by unfold tkC at hk; split at hk <;> omega
    unfold tkT at e2
    unfold tkE at k1
    by_cases c1 : ¬ tkS (σ 4) (σ 3 1) (σ 3 4) < σ 3 1
    · rw [if_pos c1] at e2; omega
    · rw [if_neg c1] at e2 k1
      by_cases c2 : 97 ≤ σ 4 (tkS (σ 4) (σ 3 1) (σ 3 4)) ∧ σ 4 (tkS (σ 4) (σ 3 1) (σ 3 4)) ≤ 122
      · rw [if_pos c2] at k1
        have := scan_all k0 k1
        have hx := @leB_x (σ 4) (σ 3 1) k
        omega
      · rw [if_neg c2] at e2
        (repeat' split at e2) <;> omega
  · show tkC (tkT (σ 4) (σ 3 1) (σ 3 4)) = 2 → ∀ k : Int, tkS (σ 4) (σ 3 1) (σ 3 4) ≤ k → k < tkE (σ 4) (σ 3 1) (σ 3 4) → 48 ≤ σ 4 k ∧ σ 4 k ≤ 57
    intro hk k k0 k1
    have e2 : tkT (σ 4) (σ 3 1) (σ 3 4) = 3 := by unfold tkC at hk; split at hk <;> omega
    unfold tkT at e2
    unfold tkE at k1
    by_cases c1 : ¬ tkS (σ 4) (σ 3 1) (σ 3 4) < σ 3 1
    · rw [if_pos c1] at e2; omega
    · rw [if_neg c1] at e2 k1
      by_cases c2 : 97 ≤ σ 4 (tkS (σ 4) (σ 3 1) (σ 3 4)) ∧ σ 4 (tkS (σ 4) (σ 3 1) (σ 3 4)) ≤ 122
      · rw [if_pos c2] at e2; omega
      · rw [if_neg c2] at e2 k1
        by_cases c3 : 48 ≤ σ 4 (tkS (σ 4) (σ 3 1) (σ 3 4)) ∧ σ 4 (tkS (σ 4) (σ 3 1) (σ 3 4)) ≤ 57
        · rw [if_pos c3] at k1
          have := scan_all k0 k1
          have hx := @fiB_x (σ 4) (σ 3 1) k
          omega
        · rw [if_neg c3] at e2
          (repeat' split at e2) <;> omega
theorem PP_step {σ τ : Mem} (h : PP σ τ) : PP (stM σ) (nxtM τ) := st_nx h.1.1 h.1.2.1 h.1.2.2.1 h.1.2.2.2.2.2.2.2 h.2.1.1
/-! names -/
theorem shl8 {a b : Int} (ha : 0 ≤ a ∧ a < 281474976710656) (hb : 0 ≤ b ∧ b < 256) : oOrL (oShlL a 8) b = a * 256 + b := by
  have e1 : oShlL a 8 = a * 256 := by
    unfold oShlL
    have e : lI a <<< ((iI 8).toInt64 &&& 63) = lI (a * 256) := by
      apply Int64.toBitVec_inj.mp
      have h8 : ((iI 8).toInt64 &&& 63) = (8 : Int64) := by decide
      rw [h8]
      have : (lI a <<< (8 : Int64)).toBitVec = (lI a).toBitVec <<< 8 := by
        rw [Int64.toBitVec_shiftLeft]; rfl
      rw [this]
      apply BitVec.eq_of_toNat_eq
      rw [BitVec.toNat_shiftLeft]
      show (BitVec.ofInt 64 a).toNat <<< 8 % 2 ^ 64 = (BitVec.ofInt 64 (a * 256)).toNat
      rw [BitVec.toNat_ofInt, BitVec.toNat_ofInt, Nat.shiftLeft_eq]
      omega
    rw [e, lI_toInt ⟨by omega, by omega⟩]
  rw [e1]
  unfold oOrL
  have e : lI (a * 256) ||| lI b = lI (a * 256 + b) := by
    apply Int64.toBitVec_inj.mp
    rw [Int64.toBitVec_or]
    apply BitVec.eq_of_toNat_eq
    rw [BitVec.toNat_or]
    show (BitVec.ofInt 64 (a * 256)).toNat ||| (BitVec.ofInt 64 b).toNat = (BitVec.ofInt 64 (a * 256 + b)).toNat
    rw [BitVec.toNat_ofInt, BitVec.toNat_ofInt, BitVec.toNat_ofInt]
    have x1 : (a * 256 % ((2 ^ 64 : Nat) : Int)).toNat = a.toNat <<< 8 := by rw [Nat.shiftLeft_eq]; omega
    have x2 : (b % ((2 ^ 64 : Nat) : Int)).toNat = b.toNat := by omega
    have x3 : ((a * 256 + b) % ((2 ^ 64 : Nat) : Int)).toNat = a.toNat * 2 ^ 8 + b.toNat := by omega
    rw [x1, x2, x3, ← Nat.shiftLeft_add_eq_or_of_lt (by omega), Nat.shiftLeft_eq]
  rw [e, lI_toInt ⟨by omega, by omega⟩]

/-! rows, the tape -/
theorem RR_rows {n : Int} {σ τ σ' τ' : Mem} (h : RR n σ τ) (hrow : RRow σ' τ') (hit : RIt τ') (hσ : ∀ q : Int, q ≠ 0 → ¬ (44 ≤ q ∧ q < 60) → σ' q = σ q) (h0 : σ' 0 8 = σ 0 8 ∧ σ' 0 9 = σ 0 9 ∧ σ' 0 10 = σ 0 10) (hτ : ∀ q : Int, q ≠ 0 → q ≠ 1 → q ≠ 2 → q ≠ 3 → τ' q = τ q) (t0 : ∀ j : Int, j ≠ 0 → j ≠ 1 → τ' 0 j = τ 0 j) (hs : σ' 0 11 = τ' 0 1) : RR (n + 1) σ' τ' := by
  obtain ⟨r1, r2, r3, r4, r5, r6, r7, r8, r9⟩ := h
  have hT : ∀ q : Int, 4 ≤ q → τ' q = τ q := fun q hq => hτ q (by omega) (by omega) (by omega) (by omega)
  refine RR_mono (n := n) ⟨hrow, hit, ?_, ?_, RTw_cg r5 h0.1 h0.2.1 (fun q a b => hσ q (by omega) (by omega)) (hT 4 (by decide)), RIm_cg r6 (fun q a b => hσ q (by omega) (by omega)) (hT 9 (by decide)) (hT 10 (by decide)), RAc_cg r7 (fun q a b => hσ q (by omega) (by omega)) (t0 8 (by decide) (by decide)) (hT 4 (by decide)) (hT 6 (by decide)), ?_, ?_⟩ (by omega)
  · unfold RTape
    rw [hT 7 (by decide), hσ 4 (by decide) (by decide), hσ 3 (by decide) (by decide), t0 10 (by decide) (by decide)]
    exact r3
  · unfold RSt
    rw [h0.2.2, t0 11 (by decide) (by decide)]
    exact ⟨r4.1, hs⟩
  · unfold RTr
    rw [hσ 18 (by decide) (by decide), hσ 19 (by decide) (by decide), t0 23 (by decide) (by decide), hT 11 (by decide)]
    exact r8
  · unfold RFr
    rw [hT 5 (by decide)]
    exact r9
theorem cutC_R {l v : Int} (hv : R3 v) : R3 (cutC l v) := by
  unfold cutC
  (repeat' split)
  · exact iI_rng _
  · exact iI_rng _
  · exact hv
theorem fnd_up {n k : Int} {σ τ : Mem} (h : RR n σ τ) : RR (n + 1) (mu σ 0 11 k) (mu (mu τ 0 0 0) 0 1 k) := RR_mono (RR_upd h (fun q a b => mu_row a) ⟨rfl, rfl, rfl⟩ (fun q a b => by rw [mu_row a, mu_row a]) (fun j a b => by rw [mu_j b, mu_j a]) rfl) (by omega)
/-! bytes -/
theorem and255 (y : Int32) : 0 ≤ (y &&& 255).toInt ∧ (y &&& 255).toInt ≤ 255 := by
  have h1 : (y &&& 255).toBitVec.toNat ≤ 255 := by
    rw [Int32.toBitVec_and, BitVec.toNat_and]
    exact Nat.and_le_right
  have h2 : (y &&& 255).toInt = ((y &&& 255).toBitVec.toNat : Int) := by
    show (y &&& 255).toBitVec.toInt = _
    rw [BitVec.toInt_eq_toNat_of_lt (by omega)]
  omega
theorem byt_eq (w k : Int) : bytC w k = bytF w k ∧ 0 ≤ bytF w k ∧ bytF w k ≤ 255 := by
  have e1 : bytC w k = ((lI (oShrL w (8 * k))).toInt32 &&& 255).toInt := by
    unfold bytC oAnd oL2I
    rw [iI_of]; rfl
  have e2 : bytF w k = ((lI (oShrL w (8 * k))).toInt32 &&& 255).toInt := by
    unfold bytF oL2I oAndL
    rw [lI_of, Int64.toInt32_and]; rfl
  rw [e1, e2]
  exact ⟨rfl, and255 _⟩

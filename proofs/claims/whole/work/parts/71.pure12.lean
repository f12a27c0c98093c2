/-! what the relation gives -/
theorem RR_t {n : Int} {σ τ : Mem} (h : RR n σ τ) : (22 ≤ σ 0 8 ∧ σ 0 8 < 24) ∧ (τ 4 0 = σ (σ 0 8) 0 ∧ τ 4 1 = σ (σ 0 8) 1 ∧ τ 4 2 = σ (σ 0 8) 2 ∧ τ 4 3 = σ (σ 0 8) 3) ∧ (0 ≤ τ 4 2 ∧ τ 4 2 ≤ 4) ∧ (0 ≤ τ 4 3 ∧ τ 4 3 ≤ 5) ∧ (τ 4 3 = 0 ∨ 1 ≤ τ 4 2) ∧ (0 ≤ τ 4 0 ∧ τ 4 0 ≤ 3) ∧ (0 ≤ τ 4 1 ∧ τ 4 1 ≤ 20) := by
  have h5 := h.2.2.2.2.1
  exact ⟨h5.1.1, h5.2.1.1, h5.2.2.1.1.2.2.1, h5.2.2.1.1.2.2.2.1, h5.2.2.1.2.1, h5.2.2.1.1.1, h5.2.2.1.1.2.1⟩
theorem RR_TR {n : Int} {σ τ : Mem} (h : RR n σ τ) : TR σ (σ 0 8) (τ 4) := h.2.2.2.2.1.2.1
theorem RR_TW {n : Int} {σ τ : Mem} (h : RR n σ τ) : TW (τ 4) := h.2.2.2.2.1.2.2.1.1
theorem AG_hear {n : Int} {σ τ : Mem} {r : Int} (h : RR n σ τ) (hr : 0 ≤ r ∧ r < 8) (k : okH σ r) : AG (τ 4 2) (cpy (σ (44 + r + 8)) (σ 11) 0 0 (σ (σ 0 8) 2)) (over (τ 8) (fun p => τ 3 (40 * r + p)) 0 (τ 4 2)) ∧ SW (τ 4 2) (over (τ 8) (fun p => τ 3 (40 * r + p)) 0 (τ 4 2)) := by
  obtain ⟨a, b, c, d, e⟩ := h.1 r hr.1 hr.2
  have ht := RR_t h
  have hb := (ok_iff h hr).mp k
  refine ⟨fun p p0 p1 => ?_, barSW ht.2.2.1.1 hb⟩
  rw [over_in p0 p1]
  unfold cpy
  rw [if_pos (by omega), show 0 + (p - 0) = p by omega]
  exact (e p p0 (by omega)).symm
theorem okB_0 {τ : Mem} {r : Int} (hb : okB τ r) : okB (mu τ 0 0 0) r := by
  have z1 : mu τ 0 0 0 1 = τ 1 := mu_row (by decide)
  have z2 : mu τ 0 0 0 2 = τ 2 := mu_row (by decide)
  have z3 : mu τ 0 0 0 3 = τ 3 := mu_row (by decide)
  have z4 : mu τ 0 0 0 4 = τ 4 := mu_row (by decide)
  unfold okB
  rw [z1, z2, z3, z4]
  exact hb
theorem says_up {n : Int} {σ τ σ' : Mem} {f : Int → Int} (h : RR n σ τ) (hσ : ∀ q : Int, q ≠ 0 → ¬ (10 ≤ q ∧ q ≤ 17) → σ' q = σ q) (h0 : σ' 0 8 = σ 0 8 ∧ σ' 0 9 = σ 0 9 ∧ σ' 0 10 = σ 0 10) (hs : σ' 0 11 = 0) : RR (n + 1) σ' (mu (mr (mu τ 0 0 0) 8 f) 0 1 0) := by
  refine RR_mono (RR_upd h hσ h0 (fun q a b => ?_) (fun j a b => ?_) hs) (by omega)
  · funext x; rw [mu_k a, mr_app, if_neg b, mu_k a]
  · rw [mu_j b, mr_app, if_neg (by decide), mu_j a]
theorem own_up {n : Int} {σ τ σ' : Mem} {f : Int → Int} (h : RR n σ τ) (hσ : ∀ q : Int, q ≠ 0 → ¬ (10 ≤ q ∧ q ≤ 17) → σ' q = σ q) (h0 : σ' 0 8 = σ 0 8 ∧ σ' 0 9 = σ 0 9 ∧ σ' 0 10 = σ 0 10) (hs : σ' 0 11 = σ 0 11) : RR (n + 1) σ' (mr (mu τ 0 0 0) 8 f) := by
  refine RR_mono (RR_upd h hσ h0 (fun q a b => ?_) (fun j a b => ?_) ?_) (by omega)
  · funext x; rw [mr_app, if_neg b, mu_k a]
  · rw [mr_app, if_neg (by decide), mu_j a]
  · rw [hs, mr_app, if_neg (by decide), mu_j (by decide)]; exact h.2.2.2.1.2
theorem hear_up {n : Int} {σ τ σ' : Mem} {r : Int} (h : RR n σ τ) (hr : 0 ≤ r ∧ r < 8) (k : okH σ r) (hσ : ∀ q : Int, q ≠ 0 → ¬ (10 ≤ q ∧ q ≤ 17) → σ' q = σ q) (h0 : σ' 0 8 = σ 0 8 ∧ σ' 0 9 = σ 0 9 ∧ σ' 0 10 = σ 0 10) (hs : σ' 0 11 = 0) : RR (n + 1) σ' (barM (mu τ 0 0 0) r) := by
  rw [barM_ok (okB_0 ((ok_iff h hr).mp k))]
  exact says_up h hσ h0 hs
theorem AG_own {n : Int} {σ τ : Mem} {t : Int} (h : RR n σ τ) (ht : 0 ≤ t ∧ t < τ 4 3) : AG (τ 4 2) (over (σ 11) (fun p => owC (σ (σ 0 8 + 4) p) (woC (σ (σ 0 8 + 12)) (σ (σ 0 8 + 20)) t p)) 0 (σ (σ 0 8) 2)) (over (τ 8) (fun p => owF (τ 4) t p) 0 (τ 4 2)) ∧ SW (τ 4 2) (over (τ 8) (fun p => owF (τ 4) t p) 0 (τ 4 2)) := by
  have hh := RR_t h
  refine ⟨fun p p0 p1 => ?_, ownSW⟩
  rw [over_in p0 p1, over_in p0 (by omega)]
  exact ow_eq (RR_TR h) ht ⟨p0, p1⟩

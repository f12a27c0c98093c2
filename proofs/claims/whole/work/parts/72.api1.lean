theorem a_fault {n : Int} {σ τ : Mem} (h : RR n σ τ) : (σ 0 10) = (τ 0 11) ∧ RR (n + 1) (σ) ((mu τ 0 0 0)) := by
  exact ⟨h.2.2.2.1.1, RR_0 h⟩
theorem a_status {n : Int} {σ τ : Mem} (h : RR n σ τ) : (σ 0 11) = (τ 0 1) ∧ RR (n + 1) (σ) ((mu τ 0 0 0)) := by
  exact ⟨h.2.2.2.1.2, RR_0 h⟩
theorem a_coin {n : Int} {σ τ : Mem} {p : Int} (h : RR n σ τ) : (if (0 ≤ p ∧ p < σ (σ 0 8) 2) then σ (σ 0 8 + 8) p else -1000001) = (if (0 ≤ p ∧ p ≤ τ 4 2 - 1) then τ 4 (8 + p) else -1000001) ∧ RR (n + 1) (σ) ((mu τ 0 0 0)) := by
  obtain ⟨hH, ⟨e0, e1, e2, e3⟩, g2, g3, gp, g0, g1⟩ := RR_t h
  refine ⟨?_, RR_0 h⟩
  by_cases c : 0 ≤ p ∧ p < σ (σ 0 8) 2
  · rw [if_pos c, if_pos (by omega)]; exact ((RR_TR h).2.1 p c.1 (by omega)).2.symm
  · rw [if_neg c, if_neg (by omega)]
theorem a_kind {n : Int} {σ τ : Mem} {p : Int} (h : RR n σ τ) : (if (0 ≤ p ∧ p < σ (σ 0 8) 2) then σ (σ 0 8 + 4) p else -1000001) = (if (0 ≤ p ∧ p ≤ τ 4 2 - 1) then τ 4 (4 + p) else -1000001) ∧ RR (n + 1) (σ) ((mu τ 0 0 0)) := by
  obtain ⟨hH, ⟨e0, e1, e2, e3⟩, g2, g3, gp, g0, g1⟩ := RR_t h
  refine ⟨?_, RR_0 h⟩
  by_cases c : 0 ≤ p ∧ p < σ (σ 0 8) 2
  · rw [if_pos c, if_pos (by omega)]; exact ((RR_TR h).2.1 p c.1 (by omega)).1.symm
  · rw [if_neg c, if_neg (by omega)]
theorem a_thing {n : Int} {σ τ : Mem} {t what : Int} (h : RR n σ τ) : (if (0 ≤ t ∧ t < σ (σ 0 8) 3) ∧ (what = 0 ∨ what = 1) then (if what = 0 then σ (σ 0 8 + 16) t else σ (σ 0 8 + 20) t) else -1000001) = (if (0 ≤ t ∧ t ≤ τ 4 3 - 1) ∧ (0 ≤ what ∧ what ≤ 1) then τ 4 (12 + 6 * t + (4 + what)) else -1000001) ∧ RR (n + 1) (σ) ((mu τ 0 0 0)) := by
  obtain ⟨hH, ⟨e0, e1, e2, e3⟩, g2, g3, gp, g0, g1⟩ := RR_t h
  refine ⟨?_, RR_0 h⟩
  by_cases c : (0 ≤ t ∧ t < σ (σ 0 8) 3) ∧ (what = 0 ∨ what = 1)
  · have c' : (0 ≤ t ∧ t ≤ τ 4 3 - 1) ∧ (0 ≤ what ∧ what ≤ 1) := by omega
    rw [if_pos c, if_pos c']
    have ht := ((RR_TR h).2.2 t c.1.1 (by omega)).1
    rcases c.2 with w | w <;> subst w
    · rw [if_pos rfl]; exact ht.1.symm
    · rw [if_neg (by decide)]; exact ht.2.symm
  · rw [if_neg c, if_neg (by omega)]
theorem a_worth {n : Int} {σ τ : Mem} {t p what : Int} (h : RR n σ τ) : (if (0 ≤ t ∧ t < σ (σ 0 8) 3) ∧ (0 ≤ p ∧ p < σ (σ 0 8) 2) ∧ (what = 0 ∨ what = 1) then (if what = 0 then woC (σ (σ 0 8 + 12)) (σ (σ 0 8 + 20)) t p else owC (σ (σ 0 8 + 4) p) (woC (σ (σ 0 8 + 12)) (σ (σ 0 8 + 20)) t p)) else -1000001) = (if (0 ≤ t ∧ t ≤ τ 4 3 - 1) ∧ (0 ≤ p ∧ p ≤ τ 4 2 - 1) ∧ (0 ≤ what ∧ what ≤ 1) then (if what = 0 then woF (τ 4) t p else owF (τ 4) t p) else -1000001) ∧ RR (n + 1) (σ) ((mu τ 0 0 0)) := by
  obtain ⟨hH, ⟨e0, e1, e2, e3⟩, g2, g3, gp, g0, g1⟩ := RR_t h
  refine ⟨?_, RR_0 h⟩
  by_cases c : (0 ≤ t ∧ t < σ (σ 0 8) 3) ∧ (0 ≤ p ∧ p < σ (σ 0 8) 2) ∧ (what = 0 ∨ what = 1)
  · have c' : (0 ≤ t ∧ t ≤ τ 4 3 - 1) ∧ (0 ≤ p ∧ p ≤ τ 4 2 - 1) ∧ (0 ≤ what ∧ what ≤ 1) := by omega
    rw [if_pos c, if_pos c', wo_eq (RR_TR h) ⟨c.1.1, by omega⟩ ⟨c.2.1.1, by omega⟩]
    have ho := ow_eq (RR_TR h) (t := t) (p := p) ⟨c.1.1, by omega⟩ ⟨c.2.1.1, by omega⟩
    rw [wo_eq (RR_TR h) ⟨c.1.1, by omega⟩ ⟨c.2.1.1, by omega⟩] at ho
    rw [ho]
  · rw [if_neg c, if_neg (by omega)]
theorem a_trace {n : Int} {σ τ : Mem} {i : Int} (h : RR n σ τ) : (if 0 ≤ i ∧ i < σ 18 0 then σ 19 i else -1000000) = (if 0 ≤ i ∧ i ≤ τ 0 23 - 1 then τ 11 i else -1000000) ∧ RR (n + 1) (σ) ((mu τ 0 0 0)) := by
  have h8 := h.2.2.2.2.2.2.2.1
  have e := h8.1
  refine ⟨?_, RR_0 h⟩
  by_cases c : 0 ≤ i ∧ i < σ 18 0
  · rw [if_pos c, if_pos (by omega)]; exact h8.2.2 i c.1 c.2
  · rw [if_neg c, if_neg (by omega)]
theorem a_least {n : Int} {σ τ : Mem} {t what : Int} (h : RR n σ τ) : (if (0 ≤ t ∧ t < σ (σ 0 8) 3) ∧ (what = 0 ∨ what = 1) then (if what = 0 then wlC (σ (σ 0 8 + 12)) (σ (σ 0 8 + 20)) t (σ (σ 0 8) 2).toNat else wmC (σ (σ 0 8 + 12)) (σ (σ 0 8 + 20)) t (σ (σ 0 8) 2).toNat) else -1000001) = (if (0 ≤ t ∧ t ≤ τ 4 3 - 1) ∧ (0 ≤ what ∧ what ≤ 1) then extF (τ 4) t (if what = 0 then 1 else -1) (τ 4 2 - 1).toNat else -1000001) ∧ RR (n + 1) (σ) ((mu τ 0 0 0)) := by
  obtain ⟨hH, ⟨e0, e1, e2, e3⟩, g2, g3, gp, g0, g1⟩ := RR_t h
  refine ⟨?_, RR_0 h⟩
  by_cases c : (0 ≤ t ∧ t < σ (σ 0 8) 3) ∧ (what = 0 ∨ what = 1)
  · have c' : (0 ≤ t ∧ t ≤ τ 4 3 - 1) ∧ (0 ≤ what ∧ what ≤ 1) := by omega
    rw [if_pos c, if_pos c']
    have x1 := wl_ext (RR_TR h) (t := t) ⟨c.1.1, by omega⟩ (τ 4 2 - 1).toNat (by omega)
    have x2 := wm_ext (RR_TR h) (t := t) ⟨c.1.1, by omega⟩ (τ 4 2 - 1).toNat (by omega)
    rw [show (τ 4 2 - 1).toNat + 1 = (σ (σ 0 8) 2).toNat by omega] at x1 x2
    rcases c.2 with w | w <;> subst w
    · rw [if_pos rfl, if_pos rfl]; exact x1
    · rw [if_neg (by decide), if_neg (by decide)]; exact x2
  · rw [if_neg c, if_neg (by omega)]
theorem a_gain {n : Int} {σ τ : Mem} {t r p what : Int} (h : RR n σ τ) : (if (0 ≤ t ∧ t < σ (σ 0 8) 3) ∧ (0 ≤ r ∧ r < 8) ∧ (0 ≤ p ∧ p < σ (σ 0 8) 2) ∧ (what = 0 ∨ what = 1) then (if okH σ r then frR (prG (σ (σ 0 8)) (σ (σ 0 8 + 12)) (σ (σ 0 8 + 20)) (cpy (σ (44 + r + 8)) (σ 11) 0 0 (σ (σ 0 8) 2)) (σ (σ 0 8) 2) t p (σ (σ 0 8) 0) ((cpy (σ (44 + r + 8)) (σ 11) 0 0 (σ (σ 0 8) 2)) p)) (odC (cpy (σ (44 + r + 8)) (σ 11) 0 0 (σ (σ 0 8) 2)) (σ (σ 0 8) 2) p) what else hrR σ r) else -1000001) = (if (0 ≤ t ∧ t ≤ τ 4 3 - 1) ∧ (0 ≤ r ∧ r ≤ 7) ∧ (0 ≤ p ∧ p ≤ τ 4 2 - 1) ∧ (0 ≤ what ∧ what ≤ 1) then (if okB τ r then tolB (gaiB (τ 4 1) (τ 4 2) (over (τ 8) (fun p => τ 3 (40 * r + p)) 0 (τ 4 2)) (woF (τ 4) t p) (τ 4 0) p) what else barR τ r) else -1000001) ∧ RR (n + 1) (if (0 ≤ t ∧ t < σ (σ 0 8) 3) ∧ (0 ≤ r ∧ r < 8) ∧ (0 ≤ p ∧ p < σ (σ 0 8) 2) ∧ (what = 0 ∨ what = 1) then (if okH σ r then (mu (mu (mu (mu (mu (mu (mr (mu σ 10 0 (σ (σ 0 8) 2)) 11 (cpy (σ (44 + r + 8)) (σ 11) 0 0 (σ (σ 0 8) 2))) 0 11 0) 12 1 (prLo (cpy (σ (44 + r + 8)) (σ 11) 0 0 (σ (σ 0 8) 2)) (σ (σ 0 8) 2) p)) 12 0 (odC (cpy (σ (44 + r + 8)) (σ 11) 0 0 (σ (σ 0 8) 2)) (σ (σ 0 8) 2) p)) 12 2 (prBe (σ (σ 0 8)) (σ (σ 0 8 + 12)) (σ (σ 0 8 + 20)) (cpy (σ (44 + r + 8)) (σ 11) 0 0 (σ (σ 0 8) 2)) (σ (σ 0 8) 2) t p (σ (σ 0 8) 0))) 12 3 (prSh (σ (σ 0 8)) (σ (σ 0 8 + 12)) (σ (σ 0 8 + 20)) (cpy (σ (44 + r + 8)) (σ 11) 0 0 (σ (σ 0 8) 2)) (σ (σ 0 8) 2) t p (σ (σ 0 8) 0))) 12 4 (prAb (σ (σ 0 8)) (cpy (σ (44 + r + 8)) (σ 11) 0 0 (σ (σ 0 8) 2)) (σ (σ 0 8) 2) p (σ (σ 0 8) 0))) else hrM σ r) else σ) (if (0 ≤ t ∧ t ≤ τ 4 3 - 1) ∧ (0 ≤ r ∧ r ≤ 7) ∧ (0 ≤ p ∧ p ≤ τ 4 2 - 1) ∧ (0 ≤ what ∧ what ≤ 1) then barM (mu τ 0 0 0) r else mu τ 0 0 0) := by
  obtain ⟨hH, ⟨e0, e1, e2, e3⟩, g2, g3, gp, g0, g1⟩ := RR_t h
  by_cases c : (0 ≤ t ∧ t < σ (σ 0 8) 3) ∧ (0 ≤ r ∧ r < 8) ∧ (0 ≤ p ∧ p < σ (σ 0 8) 2) ∧ (what = 0 ∨ what = 1)
  · have hr : 0 ≤ r ∧ r < 8 := c.2.1
    have c' : (0 ≤ t ∧ t ≤ τ 4 3 - 1) ∧ (0 ≤ r ∧ r ≤ 7) ∧ (0 ≤ p ∧ p ≤ τ 4 2 - 1) ∧ (0 ≤ what ∧ what ≤ 1) := by omega
    have ck := ok_iff h hr
    refine ⟨?_, ?_⟩
    · rw [if_pos c, if_pos c']
      by_cases k : okH σ r
      · rw [if_pos k, if_pos (ck.mp k)]
        obtain ⟨A1, A2⟩ := AG_hear h hr k
        have ht : 0 ≤ t ∧ t < τ 4 3 := ⟨c.1.1, by omega⟩
        have hp : 0 ≤ p ∧ p < τ 4 2 := ⟨c.2.2.1.1, by omega⟩
        have hS := AG_SW A1 A2
        rw [pr_pg (RR_TR h) ht hp, ← e2, ← e0]
        rw [← e2] at A1
        rw [pgC_cg A1 (by omega), A1 p hp.1 hp.2, odC_cg A1 (by omega)]
        exact fr_tol (odC_14 ⟨by omega, by omega⟩ hp) (gain_12 A2 ⟨by omega, by omega⟩ hp g0)
      · rw [if_neg k, if_neg (fun z => k (ck.mpr z))]
        exact bar_R h hr k
    · rw [if_pos c, if_pos c']
      by_cases k : okH σ r
      · rw [if_pos k]
        exact hear_up h hr k (fun q a b => by funext x; simp only [mu_app, mr_app]; (repeat rw [if_neg (by omega)])) ⟨rfl, rfl, rfl⟩ rfl
      · rw [if_neg k]
        exact bar_M h hr k
  · rw [if_neg c, if_neg (by omega), if_neg c, if_neg (by omega)]
    exact ⟨rfl, RR_0 h⟩
theorem a_best {n : Int} {σ τ : Mem} {t r p : Int} (h : RR n σ τ) : (if (0 ≤ t ∧ t < σ (σ 0 8) 3) ∧ (0 ≤ r ∧ r < 8) ∧ (0 ≤ p ∧ p < σ (σ 0 8) 2) then (if okH σ r then prB (σ (σ 0 8)) (σ (σ 0 8 + 12)) (σ (σ 0 8 + 20)) (cpy (σ (44 + r + 8)) (σ 11) 0 0 (σ (σ 0 8) 2)) (σ (σ 0 8) 2) t p (σ (σ 0 8) 0) else hrR σ r) else -1000001) = (if (0 ≤ t ∧ t ≤ τ 4 3 - 1) ∧ (0 ≤ r ∧ r ≤ 7) ∧ (0 ≤ p ∧ p ≤ τ 4 2 - 1) then (if okB τ r then besB (τ 4 1) (τ 4 2) (over (τ 8) (fun p => τ 3 (40 * r + p)) 0 (τ 4 2)) (woF (τ 4) t p) (τ 4 0) p else barR τ r) else -1000001) ∧ RR (n + 1) (if (0 ≤ t ∧ t < σ (σ 0 8) 3) ∧ (0 ≤ r ∧ r < 8) ∧ (0 ≤ p ∧ p < σ (σ 0 8) 2) then (if okH σ r then (mu (mu (mu (mu (mu (mu (mr (mu σ 10 0 (σ (σ 0 8) 2)) 11 (cpy (σ (44 + r + 8)) (σ 11) 0 0 (σ (σ 0 8) 2))) 0 11 0) 12 1 (prLo (cpy (σ (44 + r + 8)) (σ 11) 0 0 (σ (σ 0 8) 2)) (σ (σ 0 8) 2) p)) 12 0 (odC (cpy (σ (44 + r + 8)) (σ 11) 0 0 (σ (σ 0 8) 2)) (σ (σ 0 8) 2) p)) 12 2 (prBe (σ (σ 0 8)) (σ (σ 0 8 + 12)) (σ (σ 0 8 + 20)) (cpy (σ (44 + r + 8)) (σ 11) 0 0 (σ (σ 0 8) 2)) (σ (σ 0 8) 2) t p (σ (σ 0 8) 0))) 12 3 (prSh (σ (σ 0 8)) (σ (σ 0 8 + 12)) (σ (σ 0 8 + 20)) (cpy (σ (44 + r + 8)) (σ 11) 0 0 (σ (σ 0 8) 2)) (σ (σ 0 8) 2) t p (σ (σ 0 8) 0))) 12 4 (prAb (σ (σ 0 8)) (cpy (σ (44 + r + 8)) (σ 11) 0 0 (σ (σ 0 8) 2)) (σ (σ 0 8) 2) p (σ (σ 0 8) 0))) else hrM σ r) else σ) (if (0 ≤ t ∧ t ≤ τ 4 3 - 1) ∧ (0 ≤ r ∧ r ≤ 7) ∧ (0 ≤ p ∧ p ≤ τ 4 2 - 1) then barM (mu τ 0 0 0) r else mu τ 0 0 0) := by
  obtain ⟨hH, ⟨e0, e1, e2, e3⟩, g2, g3, gp, g0, g1⟩ := RR_t h
  by_cases c : (0 ≤ t ∧ t < σ (σ 0 8) 3) ∧ (0 ≤ r ∧ r < 8) ∧ (0 ≤ p ∧ p < σ (σ 0 8) 2)
  · have hr : 0 ≤ r ∧ r < 8 := c.2.1
    have c' : (0 ≤ t ∧ t ≤ τ 4 3 - 1) ∧ (0 ≤ r ∧ r ≤ 7) ∧ (0 ≤ p ∧ p ≤ τ 4 2 - 1) := by omega
    have ck := ok_iff h hr
    refine ⟨?_, ?_⟩
    · rw [if_pos c, if_pos c']
      by_cases k : okH σ r
      · rw [if_pos k, if_pos (ck.mp k)]
        obtain ⟨A1, A2⟩ := AG_hear h hr k
        have ht : 0 ≤ t ∧ t < τ 4 3 := ⟨c.1.1, by omega⟩
        have hp : 0 ≤ p ∧ p < τ 4 2 := ⟨c.2.2.1, by omega⟩
        rw [← e0]
        exact prB_eq (RR_TR h) (RR_TW h) ht hp A1 A2 g0
      · rw [if_neg k, if_neg (fun z => k (ck.mpr z))]
        exact bar_R h hr k
    · rw [if_pos c, if_pos c']
      by_cases k : okH σ r
      · rw [if_pos k]
        exact hear_up h hr k (fun q a b => by funext x; simp only [mu_app, mr_app]; (repeat rw [if_neg (by omega)])) ⟨rfl, rfl, rfl⟩ rfl
      · rw [if_neg k]
        exact bar_M h hr k
  · rw [if_neg c, if_neg (by omega), if_neg c, if_neg (by omega)]
    exact ⟨rfl, RR_0 h⟩
theorem a_ore {n : Int} {σ τ : Mem} {t r : Int} (h : RR n σ τ) : (if (0 ≤ t ∧ t < σ (σ 0 8) 3) ∧ (0 ≤ r ∧ r < 8) then (if okH σ r then okS (cpy (σ (44 + r + 8)) (σ 11) 0 0 (σ (σ 0 8) 2)) (fun p => owC (σ (σ 0 8 + 4) p) (woC (σ (σ 0 8 + 12)) (σ (σ 0 8 + 20)) t p)) (σ (σ 0 8) 2).toNat else hrR σ r) else -1000001) = (if (0 ≤ t ∧ t ≤ τ 4 3 - 1) ∧ (0 ≤ r ∧ r ≤ 7) then (if okB τ r then orcF (fun p => if (over (τ 8) (fun p => τ 3 (40 * r + p)) 0 (τ 4 2)) p < owF (τ 4) t p then 1 else 0) (τ 4 2).toNat else barR τ r) else -1000001) ∧ RR (n + 1) (if (0 ≤ t ∧ t < σ (σ 0 8) 3) ∧ (0 ≤ r ∧ r < 8) then (if okH σ r then (mu (mr (mu σ 10 0 (σ (σ 0 8) 2)) 11 (cpy (σ (44 + r + 8)) (σ 11) 0 0 (σ (σ 0 8) 2))) 0 11 0) else hrM σ r) else σ) (if (0 ≤ t ∧ t ≤ τ 4 3 - 1) ∧ (0 ≤ r ∧ r ≤ 7) then barM (mu τ 0 0 0) r else mu τ 0 0 0) := by
  obtain ⟨hH, ⟨e0, e1, e2, e3⟩, g2, g3, gp, g0, g1⟩ := RR_t h
  by_cases c : (0 ≤ t ∧ t < σ (σ 0 8) 3) ∧ (0 ≤ r ∧ r < 8)
  · have hr : 0 ≤ r ∧ r < 8 := c.2
    have c' : (0 ≤ t ∧ t ≤ τ 4 3 - 1) ∧ (0 ≤ r ∧ r ≤ 7) := by omega
    have ck := ok_iff h hr
    refine ⟨?_, ?_⟩
    · rw [if_pos c, if_pos c']
      by_cases k : okH σ r
      · rw [if_pos k, if_pos (ck.mp k)]
        obtain ⟨A1, A2⟩ := AG_hear h hr k
        have ht : 0 ≤ t ∧ t < τ 4 3 := ⟨c.1.1, by omega⟩
        rw [← e2]
        refine ok_orc (τ 4 2).toNat (fun p p0 p1 => ?_)
        rw [ow_eq (RR_TR h) ht ⟨p0, by omega⟩]
        have ea := A1 p p0 (by omega)
        rw [← e2] at ea
        rw [ea]
        split <;> simp <;> omega
      · rw [if_neg k, if_neg (fun z => k (ck.mpr z))]
        exact bar_R h hr k
    · rw [if_pos c, if_pos c']
      by_cases k : okH σ r
      · rw [if_pos k]
        exact hear_up h hr k (fun q a b => by funext x; simp only [mu_app, mr_app]; (repeat rw [if_neg (by omega)])) ⟨rfl, rfl, rfl⟩ rfl
      · rw [if_neg k]
        exact bar_M h hr k
  · rw [if_neg c, if_neg (by omega), if_neg c, if_neg (by omega)]
    exact ⟨rfl, RR_0 h⟩
theorem a_lost {n : Int} {σ τ : Mem} {t r what : Int} (h : RR n σ τ) : (if (0 ≤ t ∧ t < σ (σ 0 8) 3) ∧ (0 ≤ r ∧ r < 8) ∧ (what = 0 ∨ what = 1) then (if okH σ r then frR (lsC (cpy (σ (44 + r + 8)) (σ 11) 0 0 (σ (σ 0 8) 2)) (woC (σ (σ 0 8 + 12)) (σ (σ 0 8 + 20)) t) (loC (cpy (σ (44 + r + 8)) (σ 11) 0 0 (σ (σ 0 8) 2)) (-1000000) (σ (σ 0 8) 2).toNat) (woC (σ (σ 0 8 + 12)) (σ (σ 0 8 + 20)) t (wmC (σ (σ 0 8 + 12)) (σ (σ 0 8 + 20)) t (σ (σ 0 8) 2).toNat)) (σ (σ 0 8) 2).toNat) (maC (cpy (σ (44 + r + 8)) (σ 11) 0 0 (σ (σ 0 8) 2)) (loC (cpy (σ (44 + r + 8)) (σ 11) 0 0 (σ (σ 0 8) 2)) (-1000000) (σ (σ 0 8) 2).toNat) (-1000000) (σ (σ 0 8) 2).toNat) what else hrR σ r) else -1000001) = (if (0 ≤ t ∧ t ≤ τ 4 3 - 1) ∧ (0 ≤ r ∧ r ≤ 7) ∧ (0 ≤ what ∧ what ≤ 1) then (if okB τ r then tolB (losV (τ 4) (over (τ 8) (fun p => τ 3 (40 * r + p)) 0 (τ 4 2)) (τ 4 2) t) what else barR τ r) else -1000001) ∧ RR (n + 1) (if (0 ≤ t ∧ t < σ (σ 0 8) 3) ∧ (0 ≤ r ∧ r < 8) ∧ (what = 0 ∨ what = 1) then (if okH σ r then (mu (mr (mu σ 10 0 (σ (σ 0 8) 2)) 11 (cpy (σ (44 + r + 8)) (σ 11) 0 0 (σ (σ 0 8) 2))) 0 11 0) else hrM σ r) else σ) (if (0 ≤ t ∧ t ≤ τ 4 3 - 1) ∧ (0 ≤ r ∧ r ≤ 7) ∧ (0 ≤ what ∧ what ≤ 1) then barM (mu τ 0 0 0) r else mu τ 0 0 0) := by
  obtain ⟨hH, ⟨e0, e1, e2, e3⟩, g2, g3, gp, g0, g1⟩ := RR_t h
  by_cases c : (0 ≤ t ∧ t < σ (σ 0 8) 3) ∧ (0 ≤ r ∧ r < 8) ∧ (what = 0 ∨ what = 1)
  · have hr : 0 ≤ r ∧ r < 8 := c.2.1
    have c' : (0 ≤ t ∧ t ≤ τ 4 3 - 1) ∧ (0 ≤ r ∧ r ≤ 7) ∧ (0 ≤ what ∧ what ≤ 1) := by omega
    have ck := ok_iff h hr
    refine ⟨?_, ?_⟩
    · rw [if_pos c, if_pos c']
      by_cases k : okH σ r
      · rw [if_pos k, if_pos (ck.mp k)]
        obtain ⟨A1, A2⟩ := AG_hear h hr k
        have ht : 0 ≤ t ∧ t < τ 4 3 := ⟨c.1.1, by omega⟩
        have hl := lost_12 (T := τ 4) (t := t) (g := woC (σ (σ 0 8 + 12)) (σ (σ 0 8 + 20)) t) A1 A2 ⟨by omega, by omega⟩ (fun p p0 p1 => wo_eq (RR_TR h) ht ⟨p0, p1⟩)
        have x2 := wm_ext (RR_TR h) ht (τ 4 2 - 1).toNat (by omega)
        rw [show (τ 4 2 - 1).toNat + 1 = (τ 4 2).toNat by omega] at x2
        have x3 := extF_in (T := τ 4) (t := t) (s := -1) (τ 4 2 - 1).toNat
        rw [← e2]
        rw [← e2] at hl
        rw [x2, wo_eq (RR_TR h) ht ⟨by omega, by omega⟩]
        exact fr_tol ⟨hl.2.1, hl.2.2⟩ hl.1
      · rw [if_neg k, if_neg (fun z => k (ck.mpr z))]
        exact bar_R h hr k
    · rw [if_pos c, if_pos c']
      by_cases k : okH σ r
      · rw [if_pos k]
        exact hear_up h hr k (fun q a b => by funext x; simp only [mu_app, mr_app]; (repeat rw [if_neg (by omega)])) ⟨rfl, rfl, rfl⟩ rfl
      · rw [if_neg k]
        exact bar_M h hr k
  · rw [if_neg c, if_neg (by omega), if_neg c, if_neg (by omega)]
    exact ⟨rfl, RR_0 h⟩
theorem a_rounds {n : Int} {σ τ : Mem} {t r p : Int} (h : RR n σ τ) : (if (0 ≤ t ∧ t < σ (σ 0 8) 3) ∧ (0 ≤ r ∧ r < 8) ∧ (p = -1 ∨ 0 ≤ p ∧ p < σ (σ 0 8) 2) then (if okH σ r then (if p = -1 then ttR (σ (σ 0 8)) (σ (σ 0 8 + 12)) (σ (σ 0 8 + 20)) (σ (σ 0 8) 2) t (cpy (σ (44 + r + 8)) (σ 11) 0 0 (σ (σ 0 8) 2)) (σ 17) else (ttS (σ (σ 0 8)) (σ (σ 0 8 + 12)) (σ (σ 0 8 + 20)) (σ (σ 0 8) 2) t (cpy (σ (44 + r + 8)) (σ 11) 0 0 (σ (σ 0 8) 2)) (σ 17) 20).2.1 p) else hrR σ r) else -1000001) = (if (0 ≤ t ∧ t ≤ τ 4 3 - 1) ∧ (0 ≤ r ∧ r ≤ 7) ∧ (-1 ≤ p ∧ p ≤ τ 4 2 - 1) then (if okB τ r then (if p < 0 then (turK (τ 4) t (over (τ 8) (fun p => τ 3 (40 * r + p)) 0 (τ 4 2)) 20).2 else (turK (τ 4) t (over (τ 8) (fun p => τ 3 (40 * r + p)) 0 (τ 4 2)) 20).1 p) else barR τ r) else -1000001) ∧ RR (n + 1) (if (0 ≤ t ∧ t < σ (σ 0 8) 3) ∧ (0 ≤ r ∧ r < 8) ∧ (p = -1 ∨ 0 ≤ p ∧ p < σ (σ 0 8) 2) then (if okH σ r then (mr (mr (mu (mr (mu σ 10 0 (σ (σ 0 8) 2)) 11 (cpy (σ (44 + r + 8)) (σ 11) 0 0 (σ (σ 0 8) 2))) 0 11 0) 11 ((ttS (σ (σ 0 8)) (σ (σ 0 8 + 12)) (σ (σ 0 8 + 20)) (σ (σ 0 8) 2) t (cpy (σ (44 + r + 8)) (σ 11) 0 0 (σ (σ 0 8) 2)) (σ 17) 20).2.1)) 17 ((ttS (σ (σ 0 8)) (σ (σ 0 8 + 12)) (σ (σ 0 8 + 20)) (σ (σ 0 8) 2) t (cpy (σ (44 + r + 8)) (σ 11) 0 0 (σ (σ 0 8) 2)) (σ 17) 20).2.2)) else hrM σ r) else σ) (if (0 ≤ t ∧ t ≤ τ 4 3 - 1) ∧ (0 ≤ r ∧ r ≤ 7) ∧ (-1 ≤ p ∧ p ≤ τ 4 2 - 1) then (if okB τ r then mu (mr (mu τ 0 0 0) 8 (turK (τ 4) t (over (τ 8) (fun p => τ 3 (40 * r + p)) 0 (τ 4 2)) 20).1) 0 1 0 else barM (mu τ 0 0 0) r) else mu τ 0 0 0) := by
  obtain ⟨hH, ⟨e0, e1, e2, e3⟩, g2, g3, gp, g0, g1⟩ := RR_t h
  by_cases c : (0 ≤ t ∧ t < σ (σ 0 8) 3) ∧ (0 ≤ r ∧ r < 8) ∧ (p = -1 ∨ 0 ≤ p ∧ p < σ (σ 0 8) 2)
  · have hr : 0 ≤ r ∧ r < 8 := c.2.1
    have c' : (0 ≤ t ∧ t ≤ τ 4 3 - 1) ∧ (0 ≤ r ∧ r ≤ 7) ∧ (-1 ≤ p ∧ p ≤ τ 4 2 - 1) := by omega
    have ck := ok_iff h hr
    refine ⟨?_, ?_⟩
    · rw [if_pos c, if_pos c']
      by_cases k : okH σ r
      · rw [if_pos k, if_pos (ck.mp k)]
        obtain ⟨A1, A2⟩ := AG_hear h hr k
        have ht : 0 ≤ t ∧ t < τ 4 3 := ⟨c.1.1, by omega⟩
        have hu := tt_tur (RR_TR h) (RR_TW h) ht A1 A2 (f := σ 17) 20
        by_cases c3 : p = -1
        · rw [if_pos c3, if_pos (by omega)]
          unfold ttR
          by_cases c4 : (ttS (σ (σ 0 8)) (σ (σ 0 8 + 12)) (σ (σ 0 8 + 20)) (σ (σ 0 8) 2) t (cpy (σ (44 + r + 8)) (σ 11) 0 0 (σ (σ 0 8) 2)) (σ 17) 20).1 = 0
          · rw [if_pos c4]; exact (hu.2.1.mp c4).symm
          · rw [if_neg c4]; exact hu.2.2 c4
        · rw [if_neg c3, if_neg (by omega)]
          exact hu.1 p (by omega) (by omega)
      · rw [if_neg k, if_neg (fun z => k (ck.mpr z))]
        exact bar_R h hr k
    · rw [if_pos c, if_pos c']
      by_cases k : okH σ r
      · rw [if_pos k, if_pos (ck.mp k)]
        exact says_up h (fun q a b => by funext x; simp only [mu_app, mr_app]; (repeat rw [if_neg (by omega)])) ⟨rfl, rfl, rfl⟩ rfl
      · rw [if_neg k, if_neg (fun z => k (ck.mpr z))]
        exact bar_M h hr k
  · rw [if_neg c, if_neg (by omega), if_neg c, if_neg (by omega)]
    exact ⟨rfl, RR_0 h⟩

theorem a_rests {n : Int} {σ τ : Mem} {t k : Int} (h : RR n σ τ) : (if (0 ≤ t ∧ t < σ (σ 0 8) 3) ∧ (k = -1 ∨ 0 ≤ k ∧ k < σ (σ 0 8) 2) then (if k = -1 then (skS (σ (σ 0 8)) (σ (σ 0 8 + 12)) (σ (σ 0 8 + 20)) t (σ (σ 0 8) 0) (σ 14) (σ 17) (over (σ 16) (fun _ => 0) 0 (σ (σ 0 8) 2)) (pw6 (σ (σ 0 8) 2).toNat).toNat).1 else if (skS (σ (σ 0 8)) (σ (σ 0 8 + 12)) (σ (σ 0 8 + 20)) t (σ (σ 0 8) 0) (σ 14) (σ 17) (over (σ 16) (fun _ => 0) 0 (σ (σ 0 8) 2)) (pw6 (σ (σ 0 8) 2).toNat).toNat).1 = 0 then -1000000 else (skS (σ (σ 0 8)) (σ (σ 0 8 + 12)) (σ (σ 0 8 + 20)) t (σ (σ 0 8) 0) (σ 14) (σ 17) (over (σ 16) (fun _ => 0) 0 (σ (σ 0 8) 2)) (pw6 (σ (σ 0 8) 2).toNat).toNat).2.1 k) else -1000001) = (if (0 ≤ t ∧ t ≤ τ 4 3 - 1) ∧ (-1 ≤ k ∧ k ≤ τ 4 2 - 1) then (if k < 0 then cntF (fun q => resF (τ 4) (over (τ 8) (digG q (τ 4 2)) 0 (τ 4 2)) (τ 4 0) t (τ 4 2).toNat) (powF (τ 4 2).toNat).toNat else if fstF (fun q => resF (τ 4) (over (τ 8) (digG q (τ 4 2)) 0 (τ 4 2)) (τ 4 0) t (τ 4 2).toNat) (powF (τ 4 2).toNat).toNat = -1000000 then -1000000 else digG (fstF (fun q => resF (τ 4) (over (τ 8) (digG q (τ 4 2)) 0 (τ 4 2)) (τ 4 0) t (τ 4 2).toNat) (powF (τ 4 2).toNat).toNat) (τ 4 2) k) else -1000001) ∧ RR (n + 1) (if (0 ≤ t ∧ t < σ (σ 0 8) 3) ∧ (k = -1 ∨ 0 ≤ k ∧ k < σ (σ 0 8) 2) then (mr (mr (mr (mu (mu σ 15 0 (σ (σ 0 8) 2)) 13 0 ((skS (σ (σ 0 8)) (σ (σ 0 8 + 12)) (σ (σ 0 8 + 20)) t (σ (σ 0 8) 0) (σ 14) (σ 17) (over (σ 16) (fun _ => 0) 0 (σ (σ 0 8) 2)) (pw6 (σ (σ 0 8) 2).toNat).toNat).1)) 14 ((skS (σ (σ 0 8)) (σ (σ 0 8 + 12)) (σ (σ 0 8 + 20)) t (σ (σ 0 8) 0) (σ 14) (σ 17) (over (σ 16) (fun _ => 0) 0 (σ (σ 0 8) 2)) (pw6 (σ (σ 0 8) 2).toNat).toNat).2.1)) 17 ((skS (σ (σ 0 8)) (σ (σ 0 8 + 12)) (σ (σ 0 8 + 20)) t (σ (σ 0 8) 0) (σ 14) (σ 17) (over (σ 16) (fun _ => 0) 0 (σ (σ 0 8) 2)) (pw6 (σ (σ 0 8) 2).toNat).toNat).2.2.1)) 16 ((skS (σ (σ 0 8)) (σ (σ 0 8 + 12)) (σ (σ 0 8 + 20)) t (σ (σ 0 8) 0) (σ 14) (σ 17) (over (σ 16) (fun _ => 0) 0 (σ (σ 0 8) 2)) (pw6 (σ (σ 0 8) 2).toNat).toNat).2.2.2)) else σ) (if (0 ≤ t ∧ t ≤ τ 4 3 - 1) ∧ (-1 ≤ k ∧ k ≤ τ 4 2 - 1) then (if k < 0 ∨ fstF (fun q => resF (τ 4) (over (τ 8) (digG q (τ 4 2)) 0 (τ 4 2)) (τ 4 0) t (τ 4 2).toNat) (powF (τ 4 2).toNat).toNat = -1000000 then mr (mu τ 0 0 0) 8 (laidF (τ 8) (τ 4 2) (powF (τ 4 2).toNat).toNat) else mr (mu τ 0 0 0) 8 (over (τ 8) (digG (fstF (fun q => resF (τ 4) (over (τ 8) (digG q (τ 4 2)) 0 (τ 4 2)) (τ 4 0) t (τ 4 2).toNat) (powF (τ 4 2).toNat).toNat) (τ 4 2)) 0 (τ 4 2))) else mu τ 0 0 0) := by
  obtain ⟨hH, ⟨e0, e1, e2, e3⟩, g2, g3, gp, g0, g1⟩ := RR_t h
  by_cases c : (0 ≤ t ∧ t < σ (σ 0 8) 3) ∧ (k = -1 ∨ 0 ≤ k ∧ k < σ (σ 0 8) 2)
  · have c' : (0 ≤ t ∧ t ≤ τ 4 3 - 1) ∧ (-1 ≤ k ∧ k ≤ τ 4 2 - 1) := by omega
    have ht : 0 ≤ t ∧ t < τ 4 3 := ⟨c.1.1, by omega⟩
    have hpw := pw6_in (τ 4 2).toNat (by omega)
    have hk := sk_ref (a := σ 14) (b := σ 17) (c := over (σ 16) (fun _ => 0) 0 (τ 4 2)) (s8 := τ 8) (w := τ 4 0) (RR_TR h) (RR_TW h) (by omega) ht g0 (fun p p0 p1 => over_in p0 p1) (pw6 (τ 4 2).toNat).toNat (by omega)
    rw [if_pos c, if_pos c, if_pos c', if_pos c', ← pw6_pow, ← e2, ← e0]
    obtain ⟨k1, k2, -⟩ := hk
    refine ⟨?_, ?_⟩
    · rw [k1]
      by_cases d : k = -1
      · rw [if_pos d, if_pos (show k < 0 by omega)]
      · rw [if_neg d, if_neg (show ¬ k < 0 by omega)]
        rcases k2 with ⟨x, y⟩ | ⟨x, y, z⟩
        · rw [if_pos x, if_pos y]
        · rw [if_neg (by omega), if_neg (by omega)]
          exact z k (by omega) (by omega)
    · split <;> exact own_up h (fun q a b => by funext x; simp only [mu_app, mr_app]; (repeat rw [if_neg (by omega)])) ⟨rfl, rfl, rfl⟩ rfl
  · rw [if_neg c, if_neg c, if_neg (by omega), if_neg (by omega)]
    exact ⟨rfl, RR_0 h⟩
theorem a_honest {n : Int} {σ τ : Mem} {t what : Int} (h : RR n σ τ) : (if (0 ≤ t ∧ t < σ (σ 0 8) 3) ∧ (what = 0 ∨ what = 1) then (if what = 0 then (rsS (σ (σ 0 8)) (σ (σ 0 8 + 12)) (σ (σ 0 8 + 20)) (over (σ 11) (fun p => owC (σ (σ 0 8 + 4) p) (woC (σ (σ 0 8 + 12)) (σ (σ 0 8 + 20)) t p)) 0 (σ (σ 0 8) 2)) (σ (σ 0 8) 2) t (σ (σ 0 8) 0) (σ 17) (σ (σ 0 8) 2).toNat).1 else (hnS (σ (σ 0 8)) (σ (σ 0 8 + 12)) (σ (σ 0 8 + 20)) (over (σ 11) (fun p => owC (σ (σ 0 8 + 4) p) (woC (σ (σ 0 8 + 12)) (σ (σ 0 8 + 20)) t p)) 0 (σ (σ 0 8) 2)) (σ (σ 0 8) 2) t (σ 17) 4).1) else -1000001) = (if (0 ≤ t ∧ t ≤ τ 4 3 - 1) ∧ (0 ≤ what ∧ what ≤ 1) then (if what = 0 then resF (τ 4) (over (τ 8) (fun p => owF (τ 4) t p) 0 (τ 4 2)) (τ 4 0) t (τ 4 2).toNat else orcF (fun q => resF (τ 4) (over (τ 8) (fun p => owF (τ 4) t p) 0 (τ 4 2)) q t (τ 4 2).toNat) 4) else -1000001) ∧ RR (n + 1) (if (0 ≤ t ∧ t < σ (σ 0 8) 3) ∧ (what = 0 ∨ what = 1) then (if what = 0 then (mr (mr (mu σ 10 0 (σ (σ 0 8) 2)) 11 (over (σ 11) (fun p => owC (σ (σ 0 8 + 4) p) (woC (σ (σ 0 8 + 12)) (σ (σ 0 8 + 20)) t p)) 0 (σ (σ 0 8) 2))) 17 ((rsS (σ (σ 0 8)) (σ (σ 0 8 + 12)) (σ (σ 0 8 + 20)) (over (σ 11) (fun p => owC (σ (σ 0 8 + 4) p) (woC (σ (σ 0 8 + 12)) (σ (σ 0 8 + 20)) t p)) 0 (σ (σ 0 8) 2)) (σ (σ 0 8) 2) t (σ (σ 0 8) 0) (σ 17) (σ (σ 0 8) 2).toNat).2)) else (mr (mr (mu σ 10 0 (σ (σ 0 8) 2)) 11 (over (σ 11) (fun p => owC (σ (σ 0 8 + 4) p) (woC (σ (σ 0 8 + 12)) (σ (σ 0 8 + 20)) t p)) 0 (σ (σ 0 8) 2))) 17 ((hnS (σ (σ 0 8)) (σ (σ 0 8 + 12)) (σ (σ 0 8 + 20)) (over (σ 11) (fun p => owC (σ (σ 0 8 + 4) p) (woC (σ (σ 0 8 + 12)) (σ (σ 0 8 + 20)) t p)) 0 (σ (σ 0 8) 2)) (σ (σ 0 8) 2) t (σ 17) 4).2))) else σ) (if (0 ≤ t ∧ t ≤ τ 4 3 - 1) ∧ (0 ≤ what ∧ what ≤ 1) then (mr (mu τ 0 0 0) 8 (over (τ 8) (fun p => owF (τ 4) t p) 0 (τ 4 2))) else mu τ 0 0 0) := by
  obtain ⟨hH, ⟨e0, e1, e2, e3⟩, g2, g3, gp, g0, g1⟩ := RR_t h
  by_cases c : (0 ≤ t ∧ t < σ (σ 0 8) 3) ∧ (what = 0 ∨ what = 1)
  · have c' : (0 ≤ t ∧ t ≤ τ 4 3 - 1) ∧ (0 ≤ what ∧ what ≤ 1) := by omega
    have ht : 0 ≤ t ∧ t < τ 4 3 := ⟨c.1.1, by omega⟩
    obtain ⟨A1, A2⟩ := AG_own h ht
    rw [if_pos c, if_pos c, if_pos c', if_pos c']
    refine ⟨?_, ?_⟩
    · by_cases d : what = 0
      · rw [if_pos d, if_pos d]
        have hr := rs_res (w := σ (σ 0 8) 0) (f := σ 17) (RR_TR h) (RR_TW h) ht A1 A2 (by omega) (τ 4 2).toNat (by omega)
        rw [e0, ← hr, e2]
      · rw [if_neg d, if_neg d]
        refine hn_orc 4 (fun w f' hw => ?_)
        have hr := rs_res (w := (w : Int)) (f := f') (RR_TR h) (RR_TW h) ht A1 A2 (by omega) (τ 4 2).toNat (by omega)
        have h01 := resF_01 (τ 4) (over (τ 8) (fun p => owF (τ 4) t p) 0 (τ 4 2)) w t (τ 4 2).toNat
        rw [e2] at hr
        rw [hr, ← e2]
        omega
    · split <;> exact own_up h (fun q a b => by funext x; simp only [mu_app, mr_app]; (repeat rw [if_neg (by omega)])) ⟨rfl, rfl, rfl⟩ rfl
  · rw [if_neg c, if_neg c, if_neg (by omega), if_neg (by omega)]
    exact ⟨rfl, RR_0 h⟩
theorem a_count {n : Int} {σ τ : Mem} {what : Int} (h : RR n σ τ) : (if what = 0 then crC σ 8 else if what = 1 then σ (σ 0 8) 2 else if what = 2 then σ (σ 0 8) 3 else if what = 3 then chC (σ (σ 0 8 + 16)) (σ (σ 0 8) 3).toNat else if what = 4 then σ 5 0 else if what = 5 then σ (σ 0 8) 0 else if what = 6 then σ (σ 0 8) 1 else if what = 7 then σ 3 1 else -1000001) = (if what = 0 then corF (τ 1) 8 else if what = 1 then τ 4 2 else if what = 2 then τ 4 3 else if what = 3 then cohF (τ 4) (τ 4 3).toNat else if what = 4 then τ 0 8 else if what = 5 then τ 4 0 else if what = 6 then τ 4 1 else if what = 7 then τ 0 10 else -1000001) ∧ RR (n + 1) (σ) ((mu τ 0 0 0)) := by
  obtain ⟨hH, ⟨e0, e1, e2, e3⟩, g2, g3, gp, g0, g1⟩ := RR_t h
  refine ⟨?_, RR_0 h⟩
  have hc := cr_cor (σ := σ) (τ := τ) (fun r r0 r1 => by have hx := h.1 r r0 r1; omega) 8 (by decide)
  have hh := ch_coh (RR_TR h) (τ 4 3).toNat (by omega)
  have ha := h.2.2.2.2.2.2.1.1
  have ht := h.2.2.1.2.1
  rw [e3] at hh
  rw [hc, e3, hh, e2, e0, e1, ha, ht]
theorem a_as {n : Int} {σ τ : Mem} {p k : Int} (h : RR n σ τ) : (if (0 ≤ p ∧ p < σ (σ 0 8) 2) ∧ (0 ≤ k ∧ k < 6) then (if anF (σ (σ 0 8 + 4) p) k 6 = k then p else -1000013) else -1000001) = (if (0 ≤ p ∧ p ≤ τ 4 2 - 1) ∧ (0 ≤ k ∧ k ≤ 5) then (if k = 0 ∨ τ 4 (4 + p) = k ∨ (k = 1 ∧ τ 4 (4 + p) < 4) ∨ (k = 4 ∧ τ 4 (4 + p) = 5) then p else -1000013) else -1000001) ∧ RR (n + 1) (if (0 ≤ p ∧ p < σ (σ 0 8) 2) ∧ (0 ≤ k ∧ k < 6) then (if anF (σ (σ 0 8 + 4) p) k 6 = k then mu σ 0 11 0 else mu σ 0 11 3) else σ) (if (0 ≤ p ∧ p ≤ τ 4 2 - 1) ∧ (0 ≤ k ∧ k ≤ 5) then (if k = 0 ∨ τ 4 (4 + p) = k ∨ (k = 1 ∧ τ 4 (4 + p) < 4) ∨ (k = 4 ∧ τ 4 (4 + p) = 5) then mu (mu τ 0 0 0) 0 1 0 else mu (mu τ 0 0 0) 0 1 3) else mu τ 0 0 0) := by
  obtain ⟨hH, ⟨e0, e1, e2, e3⟩, g2, g3, gp, g0, g1⟩ := RR_t h
  by_cases c : (0 ≤ p ∧ p < σ (σ 0 8) 2) ∧ (0 ≤ k ∧ k < 6)
  · have c' : (0 ≤ p ∧ p ≤ τ 4 2 - 1) ∧ (0 ≤ k ∧ k ≤ 5) := by omega
    have ek := ((RR_TR h).2.1 p c.1.1 (by omega)).1
    have k1 := h.2.2.2.2.1.2.2.1.2.2.1 p c.1.1 (by omega)
    have k2 := (RR_TW h).2.2.2.2.1 p c.1.1 (by omega)
    have hi := an_is (k := τ 4 (4 + p)) (w := k) ⟨k1, k2.2⟩ ⟨c.2.1, by omega⟩
    rw [if_pos c, if_pos c, if_pos c', if_pos c', ← ek]
    by_cases d : anF (τ 4 (4 + p)) k 6 = k
    · rw [if_pos d, if_pos d, if_pos (hi.mp d), if_pos (hi.mp d)]
      exact ⟨rfl, RR_mono (RR_upd h (fun q a b => mu_row a) ⟨rfl, rfl, rfl⟩ (fun q a b => by rw [mu_row a, mu_row a]) (fun j a b => by rw [mu_j b, mu_j a]) rfl) (by omega)⟩
    · rw [if_neg d, if_neg d, if_neg (fun z => d (hi.mpr z)), if_neg (fun z => d (hi.mpr z))]
      exact ⟨rfl, RR_mono (RR_upd h (fun q a b => mu_row a) ⟨rfl, rfl, rfl⟩ (fun q a b => by rw [mu_row a, mu_row a]) (fun j a b => by rw [mu_j b, mu_j a]) rfl) (by omega)⟩
  · rw [if_neg c, if_neg c, if_neg (by omega), if_neg (by omega)]
    exact ⟨rfl, RR_0 h⟩

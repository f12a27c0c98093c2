/-! all rows of sayings: the class counts them up, the reference takes their digits -/
theorem tdm {a : Int} (h : 0 ≤ a) : a.tmod 6 = a % 6 := Int.tmod_eq_emod_of_nonneg h
theorem tdd {a : Int} (h : 0 ≤ a) : a.tdiv 6 = a / 6 := Int.tdiv_eq_ediv_of_nonneg h
theorem dig_0 {r : Int} (h : 0 ≤ r) : (digF r 0).tmod 6 = r % 6 := tdm h
theorem dig_1 {r : Int} (h : 0 ≤ r) : (digF r 1).tmod 6 = r / 6 % 6 := by
  show (r.tdiv 6).tmod 6 = _
  rw [tdd h, tdm (by omega)]
theorem dig_2 {r : Int} (h : 0 ≤ r) : (digF r 2).tmod 6 = r / 6 / 6 % 6 := by
  show ((r.tdiv 6).tdiv 6).tmod 6 = _
  rw [tdd h, tdd (a := r / 6) (by omega), tdm (by omega)]
theorem dig_3 {r : Int} (h : 0 ≤ r) : (digF r 3).tmod 6 = r / 6 / 6 / 6 % 6 := by
  show (((r.tdiv 6).tdiv 6).tdiv 6).tmod 6 = _
  rw [tdd h, tdd (a := r / 6) (by omega), tdd (a := r / 6 / 6) (by omega), tdm (by omega)]
theorem adv4 (c : Int → Int) (p : Int) : advF c 4 p = if c 3 < 5 then ru c 3 (c 3 + 1) p else if c 2 < 5 then ru (ru c 3 0) 2 (c 2 + 1) p else if c 1 < 5 then ru (ru (ru c 3 0) 2 0) 1 (c 1 + 1) p else if c 0 < 5 then ru (ru (ru (ru c 3 0) 2 0) 1 0) 0 (c 0 + 1) p else ru (ru (ru (ru c 3 0) 2 0) 1 0) 0 0 p := by
  show (if c 3 < 5 then ru c 3 (c 3 + 1) else if c 2 < 5 then ru (ru c 3 0) 2 (c 2 + 1) else if c 1 < 5 then ru (ru (ru c 3 0) 2 0) 1 (c 1 + 1) else if c 0 < 5 then ru (ru (ru (ru c 3 0) 2 0) 1 0) 0 (c 0 + 1) else ru (ru (ru (ru c 3 0) 2 0) 1 0) 0 0) p = _
  (repeat' split) <;> rfl
theorem adv3 (c : Int → Int) (p : Int) : advF c 3 p = if c 2 < 5 then ru c 2 (c 2 + 1) p else if c 1 < 5 then ru (ru c 2 0) 1 (c 1 + 1) p else if c 0 < 5 then ru (ru (ru c 2 0) 1 0) 0 (c 0 + 1) p else ru (ru (ru c 2 0) 1 0) 0 0 p := by
  show (if c 2 < 5 then ru c 2 (c 2 + 1) else if c 1 < 5 then ru (ru c 2 0) 1 (c 1 + 1) else if c 0 < 5 then ru (ru (ru c 2 0) 1 0) 0 (c 0 + 1) else ru (ru (ru c 2 0) 1 0) 0 0) p = _
  (repeat' split) <;> rfl
theorem adv2 (c : Int → Int) (p : Int) : advF c 2 p = if c 1 < 5 then ru c 1 (c 1 + 1) p else if c 0 < 5 then ru (ru c 1 0) 0 (c 0 + 1) p else ru (ru c 1 0) 0 0 p := by
  show (if c 1 < 5 then ru c 1 (c 1 + 1) else if c 0 < 5 then ru (ru c 1 0) 0 (c 0 + 1) else ru (ru c 1 0) 0 0) p = _
  (repeat' split) <;> rfl
theorem adv1 (c : Int → Int) (p : Int) : advF c 1 p = if c 0 < 5 then ru c 0 (c 0 + 1) p else ru c 0 0 p := by
  show (if c 0 < 5 then ru c 0 (c 0 + 1) else ru c 0 0) p = _
  split <;> rfl
theorem adv_dig {c : Int → Int} {n : Int} {i : Nat} (hn : 1 ≤ n ∧ n ≤ 4) (h : AG n c (digG i n)) (hi : (i : Int) + 1 < pw6 n.toNat) : AG n (advF c n.toNat) (digG ((i : Int) + 1) n) := by
  have i0 : (0 : Int) ≤ (i : Int) := by omega
  have i1 : (0 : Int) ≤ (i : Int) + 1 := by omega
  intro p p0 p1
  rcases (show n = 1 ∨ n = 2 ∨ n = 3 ∨ n = 4 by omega) with e | e | e | e <;> subst e
  · have c0 : c 0 = (i : Int) % 6 := (h 0 (by decide) (by decide)).trans (dig_0 i0)
    have hb : (i : Int) + 1 < 6 := hi
    obtain rfl : p = 0 := by omega
    rw [show (1 : Int).toNat = 1 from rfl, adv1, show digG ((i : Int) + 1) 1 0 = ((i : Int) + 1) % 6 from dig_0 i1]
    unfold ru
    (repeat' split) <;> omega
  · have c1 : c 1 = (i : Int) % 6 := (h 1 (by decide) (by decide)).trans (dig_0 i0)
    have c0 : c 0 = (i : Int) / 6 % 6 := (h 0 (by decide) (by decide)).trans (dig_1 i0)
    have hb : (i : Int) + 1 < 36 := hi
    rw [show (2 : Int).toNat = 2 from rfl, adv2]
    rcases (show p = 0 ∨ p = 1 by omega) with e | e <;> subst e
    · rw [show digG ((i : Int) + 1) 2 0 = ((i : Int) + 1) / 6 % 6 from dig_1 i1]
      unfold ru
      (repeat' split) <;> omega
    · rw [show digG ((i : Int) + 1) 2 1 = ((i : Int) + 1) % 6 from dig_0 i1]
      unfold ru
      (repeat' split) <;> omega
  · have c2 : c 2 = (i : Int) % 6 := (h 2 (by decide) (by decide)).trans (dig_0 i0)
    have c1 : c 1 = (i : Int) / 6 % 6 := (h 1 (by decide) (by decide)).trans (dig_1 i0)
    have c0 : c 0 = (i : Int) / 6 / 6 % 6 := (h 0 (by decide) (by decide)).trans (dig_2 i0)
    have hb : (i : Int) + 1 < 216 := hi
    rw [show (3 : Int).toNat = 3 from rfl, adv3]
    rcases (show p = 0 ∨ p = 1 ∨ p = 2 by omega) with e | e | e <;> subst e
    · rw [show digG ((i : Int) + 1) 3 0 = ((i : Int) + 1) / 6 / 6 % 6 from dig_2 i1]
      unfold ru
      (repeat' split) <;> omega
    · rw [show digG ((i : Int) + 1) 3 1 = ((i : Int) + 1) / 6 % 6 from dig_1 i1]
      unfold ru
      (repeat' split) <;> omega
    · rw [show digG ((i : Int) + 1) 3 2 = ((i : Int) + 1) % 6 from dig_0 i1]
      unfold ru
      (repeat' split) <;> omega
  · have c3 : c 3 = (i : Int) % 6 := (h 3 (by decide) (by decide)).trans (dig_0 i0)
    have c2 : c 2 = (i : Int) / 6 % 6 := (h 2 (by decide) (by decide)).trans (dig_1 i0)
    have c1 : c 1 = (i : Int) / 6 / 6 % 6 := (h 1 (by decide) (by decide)).trans (dig_2 i0)
    have c0 : c 0 = (i : Int) / 6 / 6 / 6 % 6 := (h 0 (by decide) (by decide)).trans (dig_3 i0)
    have hb : (i : Int) + 1 < 1296 := hi
    rw [show (4 : Int).toNat = 4 from rfl, adv4]
    rcases (show p = 0 ∨ p = 1 ∨ p = 2 ∨ p = 3 by omega) with e | e | e | e <;> subst e
    · rw [show digG ((i : Int) + 1) 4 0 = ((i : Int) + 1) / 6 / 6 / 6 % 6 from dig_3 i1]
      unfold ru
      (repeat' split) <;> omega
    · rw [show digG ((i : Int) + 1) 4 1 = ((i : Int) + 1) / 6 / 6 % 6 from dig_2 i1]
      unfold ru
      (repeat' split) <;> omega
    · rw [show digG ((i : Int) + 1) 4 2 = ((i : Int) + 1) / 6 % 6 from dig_1 i1]
      unfold ru
      (repeat' split) <;> omega
    · rw [show digG ((i : Int) + 1) 4 3 = ((i : Int) + 1) % 6 from dig_0 i1]
      unfold ru
      (repeat' split) <;> omega
theorem pw6_pow : ∀ i : Nat, pw6 i = powF i
  | 0 => rfl
  | i + 1 => by simp only [pw6, powF]; rw [pw6_pow i]
theorem dig00 {n p : Int} : digG 0 n p = 0 := by
  unfold digG
  have h : ∀ k : Nat, digF 0 k = 0 := by
    intro k
    induction k with
    | zero => rfl
    | succ k ih => show (digF 0 k).tdiv 6 = 0; rw [ih]; rfl
  rw [h]; rfl
theorem sk_ref {σ : Mem} {q t w : Int} {T a b c s8 : Int → Int} (h : TR σ q T) (hT : TW T) (h1 : 1 ≤ T 2) (ht : 0 ≤ t ∧ t < T 3) (hw : 0 ≤ w ∧ w ≤ 3) (hc : ∀ p : Int, 0 ≤ p → p < T 2 → c p = 0) : ∀ i : Nat, (i : Int) ≤ pw6 (T 2).toNat →
    ((skS (σ q) (σ (q + 12)) (σ (q + 20)) t w a b c i).1 = cntF (fun r => resF T (over s8 (digG r (T 2)) 0 (T 2)) w t (T 2).toNat) i) ∧
    ((cntF (fun r => resF T (over s8 (digG r (T 2)) 0 (T 2)) w t (T 2).toNat) i = 0 ∧ fstF (fun r => resF T (over s8 (digG r (T 2)) 0 (T 2)) w t (T 2).toNat) i = -1000000) ∨ (0 < cntF (fun r => resF T (over s8 (digG r (T 2)) 0 (T 2)) w t (T 2).toNat) i ∧ 0 ≤ fstF (fun r => resF T (over s8 (digG r (T 2)) 0 (T 2)) w t (T 2).toNat) i ∧ AG (T 2) (skS (σ q) (σ (q + 12)) (σ (q + 20)) t w a b c i).2.1 (digG (fstF (fun r => resF T (over s8 (digG r (T 2)) 0 (T 2)) w t (T 2).toNat) i) (T 2)))) ∧
    ((i : Int) < pw6 (T 2).toNat → AG (T 2) (skS (σ q) (σ (q + 12)) (σ (q + 20)) t w a b c i).2.2.2 (digG i (T 2)))
  | 0, _ => ⟨rfl, .inl ⟨rfl, rfl⟩, fun _ p p0 p1 => by rw [show ((0 : Nat) : Int) = 0 from rfl, dig00]; exact hc p p0 p1⟩
  | i + 1, hi => by
    obtain ⟨r1, r2, r3⟩ := sk_ref h hT h1 ht hw hc (a := a) (b := b) (s8 := s8) i (by omega)
    have hn := hT.2.2.1
    have hpw := pw6_in (T 2).toNat (by omega)
    have e2 := h.1.2.2.1
    have hA := r3 (by omega)
    have hdg : ∀ p : Int, 0 ≤ digG (i : Int) (T 2) p ∧ digG (i : Int) (T 2) p ≤ 5 := fun p => digG_in ⟨by omega, by omega⟩ p
    have hS : SW (T 2) (over s8 (digG (i : Int) (T 2)) 0 (T 2)) := fun p p0 p1 => by rw [over_in p0 p1]; exact hdg p
    have hA2 : AG (T 2) (skS (σ q) (σ (q + 12)) (σ (q + 20)) t w a b c i).2.2.2 (over s8 (digG (i : Int) (T 2)) 0 (T 2)) := fun p p0 p1 => by rw [over_in p0 p1]; exact hA p p0 p1
    have hr := rs_res h hT ht hA2 hS hw (f := (skS (σ q) (σ (q + 12)) (σ (q + 20)) t w a b c i).2.2.1) (T 2).toNat (by omega)
    have h01 := resF_01 T (over s8 (digG (i : Int) (T 2)) 0 (T 2)) w t (T 2).toNat
    have hci := cntF_in (b := fun r => resF T (over s8 (digG r (T 2)) 0 (T 2)) w t (T 2).toNat) i
    have ec : cntF (fun r => resF T (over s8 (digG r (T 2)) 0 (T 2)) w t (T 2).toNat) (i + 1) = cntF (fun r => resF T (over s8 (digG r (T 2)) 0 (T 2)) w t (T 2).toNat) i + (if resF T (over s8 (digG (i : Int) (T 2)) 0 (T 2)) w t (T 2).toNat = 1 then 1 else 0) := rfl
    have ef : fstF (fun r => resF T (over s8 (digG r (T 2)) 0 (T 2)) w t (T 2).toNat) (i + 1) = if resF T (over s8 (digG (i : Int) (T 2)) 0 (T 2)) w t (T 2).toNat = 1 ∧ fstF (fun r => resF T (over s8 (digG r (T 2)) 0 (T 2)) w t (T 2).toNat) i = -1000000 then (i : Int) else fstF (fun r => resF T (over s8 (digG r (T 2)) 0 (T 2)) w t (T 2).toNat) i := rfl
    generalize hcb : cntF (fun r => resF T (over s8 (digG r (T 2)) 0 (T 2)) w t (T 2).toNat) i = cb at *
    generalize hfb : fstF (fun r => resF T (over s8 (digG r (T 2)) 0 (T 2)) w t (T 2).toNat) i = fb at *
    rw [ec, ef]
    have hadv : ((i + 1 : Nat) : Int) < pw6 (T 2).toNat → AG (T 2) (advF (skS (σ q) (σ (q + 12)) (σ (q + 20)) t w a b c i).2.2.2 (T 2).toNat) (digG ((i + 1 : Nat) : Int) (T 2)) := fun hlt => by
      rw [show ((i + 1 : Nat) : Int) = (i : Int) + 1 by omega]
      exact adv_dig ⟨h1, hn.2⟩ hA (by omega)
    rw [e2] at hr
    by_cases c0 : resF T (over s8 (digG (i : Int) (T 2)) 0 (T 2)) w t (T 2).toNat = 1
    · have hne : ¬ (rsS (σ q) (σ (q + 12)) (σ (q + 20)) (skS (σ q) (σ (q + 12)) (σ (q + 20)) t w a b c i).2.2.2 (σ q 2) t w (skS (σ q) (σ (q + 12)) (σ (q + 20)) t w a b c i).2.2.1 (σ q 2).toNat).1 = 0 := by rw [hr, ← e2]; omega
      rw [skS_yes hne, if_pos c0]
      refine ⟨by rw [r1], ?_, by rw [← e2]; exact hadv⟩
      rcases r2 with ⟨x, y⟩ | ⟨x, y, z⟩
      · rw [if_pos ⟨c0, y⟩]
        refine .inr ⟨by omega, by omega, fun p p0 p1 => ?_⟩
        show (if (skS (σ q) (σ (q + 12)) (σ (q + 20)) t w a b c i).1 = 0 then cpy (skS (σ q) (σ (q + 12)) (σ (q + 20)) t w a b c i).2.2.2 (skS (σ q) (σ (q + 12)) (σ (q + 20)) t w a b c i).2.1 0 0 4 else (skS (σ q) (σ (q + 12)) (σ (q + 20)) t w a b c i).2.1) p = _
        rw [if_pos (by omega)]
        unfold cpy
        rw [if_pos (by omega), show 0 + (p - 0) = p by omega]
        exact hA p p0 p1
      · rw [if_neg (fun k => by have := k.2; omega)]
        refine .inr ⟨by omega, y, fun p p0 p1 => ?_⟩
        show (if (skS (σ q) (σ (q + 12)) (σ (q + 20)) t w a b c i).1 = 0 then cpy (skS (σ q) (σ (q + 12)) (σ (q + 20)) t w a b c i).2.2.2 (skS (σ q) (σ (q + 12)) (σ (q + 20)) t w a b c i).2.1 0 0 4 else (skS (σ q) (σ (q + 12)) (σ (q + 20)) t w a b c i).2.1) p = _
        rw [if_neg (by omega)]
        exact z p p0 p1
    · have heq : (rsS (σ q) (σ (q + 12)) (σ (q + 20)) (skS (σ q) (σ (q + 12)) (σ (q + 20)) t w a b c i).2.2.2 (σ q 2) t w (skS (σ q) (σ (q + 12)) (σ (q + 20)) t w a b c i).2.2.1 (σ q 2).toNat).1 = 0 := by rw [hr, ← e2]; omega
      rw [skS_no heq, if_neg c0, if_neg (fun k => c0 k.1)]
      refine ⟨by show (skS (σ q) (σ (q + 12)) (σ (q + 20)) t w a b c i).1 = _; omega, ?_, by rw [← e2]; exact hadv⟩
      rcases r2 with ⟨x, y⟩ | ⟨x, y, z⟩
      · exact .inl ⟨by omega, y⟩
      · exact .inr ⟨by omega, y, z⟩

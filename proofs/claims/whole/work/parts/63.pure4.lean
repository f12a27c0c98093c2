/-! fractions in lowest terms -/
theorem gcd_mod {a : Int} {b : Nat} (hb : 0 < b) : Int.gcd a b = Nat.gcd (a.natAbs % b) b := by
  show Nat.gcd a.natAbs (b : Int).natAbs = _
  rw [Int.natAbs_natCast, Nat.gcd_comm, Nat.gcd_rec]
theorem tmod0 {a : Int} {b : Nat} : a.tmod b = 0 ↔ a.natAbs % b = 0 := by
  rw [← Int.natAbs_eq_zero, Int.natAbs_tmod, Int.natAbs_natCast]
theorem ofC_gcd {a b : Int} (hb : 1 ≤ b ∧ b ≤ 4) : ofC a b (b + 1).toNat = Int.gcd a b := by
  have t2 : a.tmod 2 = 0 ↔ a.natAbs % 2 = 0 := tmod0 (b := 2)
  have t3 : a.tmod 3 = 0 ↔ a.natAbs % 3 = 0 := tmod0 (b := 3)
  have t4 : a.tmod 4 = 0 ↔ a.natAbs % 4 = 0 := tmod0 (b := 4)
  have g2 : Int.gcd a 2 = Nat.gcd (a.natAbs % 2) 2 := gcd_mod (b := 2) (by decide)
  have g3 : Int.gcd a 3 = Nat.gcd (a.natAbs % 3) 3 := gcd_mod (b := 3) (by decide)
  have g4 : Int.gcd a 4 = Nat.gcd (a.natAbs % 4) 4 := gcd_mod (b := 4) (by decide)
  rcases (show b = 1 ∨ b = 2 ∨ b = 3 ∨ b = 4 by omega) with e | e | e | e <;> subst e
  · rw [Int.gcd_one_right]; rfl
  · show (if a.tmod 2 = 0 then (if (2 : Int).tmod 2 = 0 then (2 : Int) else 1) else 1) = _
    rw [g2]
    rcases Nat.mod_two_eq_zero_or_one a.natAbs with h | h
    · rw [if_pos (t2.mpr h), h]; decide
    · rw [if_neg (fun z => by have := t2.mp z; omega), h]; decide
  · show (if a.tmod 3 = 0 then (if (3 : Int).tmod 3 = 0 then (3 : Int) else (if a.tmod 2 = 0 then (if (3 : Int).tmod 2 = 0 then (2 : Int) else 1) else 1)) else (if a.tmod 2 = 0 then (if (3 : Int).tmod 2 = 0 then (2 : Int) else 1) else 1)) = _
    rw [g3]
    have e1 : (if a.tmod 2 = 0 then (if (3 : Int).tmod 2 = 0 then (2 : Int) else 1) else 1) = 1 := by split <;> decide
    rw [e1]
    rcases (show a.natAbs % 3 = 0 ∨ a.natAbs % 3 = 1 ∨ a.natAbs % 3 = 2 by omega) with h | h | h
    · rw [if_pos (t3.mpr h), h]; decide
    · rw [if_neg (fun z => by have := t3.mp z; omega), h]; decide
    · rw [if_neg (fun z => by have := t3.mp z; omega), h]; decide
  · show (if a.tmod 4 = 0 then (if (4 : Int).tmod 4 = 0 then (4 : Int) else (if a.tmod 3 = 0 then (if (4 : Int).tmod 3 = 0 then (3 : Int) else (if a.tmod 2 = 0 then (if (4 : Int).tmod 2 = 0 then (2 : Int) else 1) else 1)) else (if a.tmod 2 = 0 then (if (4 : Int).tmod 2 = 0 then (2 : Int) else 1) else 1))) else (if a.tmod 3 = 0 then (if (4 : Int).tmod 3 = 0 then (3 : Int) else (if a.tmod 2 = 0 then (if (4 : Int).tmod 2 = 0 then (2 : Int) else 1) else 1)) else (if a.tmod 2 = 0 then (if (4 : Int).tmod 2 = 0 then (2 : Int) else 1) else 1))) = _
    rw [g4]
    have e1 : (if (4 : Int).tmod 3 = 0 then (3 : Int) else (if a.tmod 2 = 0 then (if (4 : Int).tmod 2 = 0 then (2 : Int) else 1) else 1)) = (if a.tmod 2 = 0 then (2 : Int) else 1) := by rw [if_neg (by decide)]; split <;> rfl
    have e2 : (if a.tmod 3 = 0 then (if (4 : Int).tmod 3 = 0 then (3 : Int) else (if a.tmod 2 = 0 then (if (4 : Int).tmod 2 = 0 then (2 : Int) else 1) else 1)) else (if a.tmod 2 = 0 then (if (4 : Int).tmod 2 = 0 then (2 : Int) else 1) else 1)) = (if a.tmod 2 = 0 then (2 : Int) else 1) := by
      rw [e1]; split
      · rfl
      · split <;> rfl
    rw [e2]
    rcases (show a.natAbs % 4 = 0 ∨ a.natAbs % 4 = 1 ∨ a.natAbs % 4 = 2 ∨ a.natAbs % 4 = 3 by omega) with h | h | h | h
    · rw [if_pos (t4.mpr h), h, if_pos (by decide)]; decide
    · rw [if_neg (fun z => by have := t4.mp z; omega), if_neg (fun z => by have := t2.mp z; omega), h]; decide
    · rw [if_neg (fun z => by have := t4.mp z; omega), if_pos (t2.mpr (by omega)), h]; decide
    · rw [if_neg (fun z => by have := t4.mp z; omega), if_neg (fun z => by have := t2.mp z; omega), h]; decide
theorem fr_tol {a b tw w : Int} (hb : 1 ≤ b ∧ b ≤ 4) (h : 12 * a = b * tw) : frR a b w = tolB tw w := by
  unfold frR tolB
  rw [ofC_gcd hb]
  have key : ∀ k : Int, 0 < k → k * b = 12 → (if w = 0 then a.tdiv (Int.gcd a b) else b.tdiv (Int.gcd a b)) = (if w = 0 then tw else 12).tdiv (Int.gcd tw 12) := by
    intro k hk hkb
    have e1 : tw = k * a := by
      rcases (show b = 1 ∨ b = 2 ∨ b = 3 ∨ b = 4 by omega) with e | e | e | e <;> subst e <;> (have : k = 12 ∨ k = 6 ∨ k = 4 ∨ k = 3 := by omega) <;> rcases this with e2 | e2 | e2 | e2 <;> subst e2 <;> omega
    have e2 : (Int.gcd tw 12 : Int) = k * (Int.gcd a b : Int) := by
      rw [e1, ← hkb, Int.gcd_mul_left, Int.natCast_mul, Int.natAbs_of_nonneg (by omega)]
    rw [e2, e1, ← hkb]
    split
    · rw [Int.mul_tdiv_mul_of_pos _ _ hk]
    · rw [Int.mul_tdiv_mul_of_pos _ _ hk]
  rcases (show b = 1 ∨ b = 2 ∨ b = 3 ∨ b = 4 by omega) with e | e | e | e
  · exact key 12 (by decide) (by omega)
  · exact key 6 (by decide) (by omega)
  · exact key 4 (by decide) (by omega)
  · exact key 3 (by decide) (by omega)
/-! least, most; loss -/
theorem wl_ext {σ : Mem} {q t : Int} {T : Int → Int} (h : TR σ q T) (ht : 0 ≤ t ∧ t < T 3) : ∀ i : Nat, (i : Int) + 1 ≤ T 2 → wlC (σ (q + 12)) (σ (q + 20)) t (i + 1) = extF T t 1 i
  | 0, _ => by
    show (if woC (σ (q + 12)) (σ (q + 20)) t ((0 : Nat) : Int) < woC (σ (q + 12)) (σ (q + 20)) t 0 then ((0 : Nat) : Int) else 0) = 0
    split <;> rfl
  | i + 1, hi => by
    have ih := wl_ext h ht i (by omega)
    have hx := extF_in (T := T) (t := t) (s := 1) i
    have e1 := wo_eq (p := ((i + 1 : Nat) : Int)) h ht ⟨by omega, by omega⟩
    have e2 := wo_eq (p := extF T t 1 i) h ht ⟨by omega, by omega⟩
    have e3 : wlC (σ (q + 12)) (σ (q + 20)) t (i + 1 + 1) = if woC (σ (q + 12)) (σ (q + 20)) t ((i + 1 : Nat) : Int) < woC (σ (q + 12)) (σ (q + 20)) t (wlC (σ (q + 12)) (σ (q + 20)) t (i + 1)) then ((i + 1 : Nat) : Int) else wlC (σ (q + 12)) (σ (q + 20)) t (i + 1) := rfl
    have e4 : extF T t 1 (i + 1) = if 1 * woF T t ((i : Int) + 1) < 1 * woF T t (extF T t 1 i) then (i : Int) + 1 else extF T t 1 i := rfl
    rw [e3, ih, e1, e2, e4, show ((i + 1 : Nat) : Int) = (i : Int) + 1 by omega]
    (repeat' split) <;> omega
theorem wm_ext {σ : Mem} {q t : Int} {T : Int → Int} (h : TR σ q T) (ht : 0 ≤ t ∧ t < T 3) : ∀ i : Nat, (i : Int) + 1 ≤ T 2 → wmC (σ (q + 12)) (σ (q + 20)) t (i + 1) = extF T t (-1) i
  | 0, _ => by
    show (if woC (σ (q + 12)) (σ (q + 20)) t 0 < woC (σ (q + 12)) (σ (q + 20)) t ((0 : Nat) : Int) then ((0 : Nat) : Int) else 0) = 0
    split <;> rfl
  | i + 1, hi => by
    have ih := wm_ext h ht i (by omega)
    have hx := extF_in (T := T) (t := t) (s := -1) i
    have e1 := wo_eq (p := ((i + 1 : Nat) : Int)) h ht ⟨by omega, by omega⟩
    have e2 := wo_eq (p := extF T t (-1) i) h ht ⟨by omega, by omega⟩
    have e3 : wmC (σ (q + 12)) (σ (q + 20)) t (i + 1 + 1) = if woC (σ (q + 12)) (σ (q + 20)) t (wmC (σ (q + 12)) (σ (q + 20)) t (i + 1)) < woC (σ (q + 12)) (σ (q + 20)) t ((i + 1 : Nat) : Int) then ((i + 1 : Nat) : Int) else wmC (σ (q + 12)) (σ (q + 20)) t (i + 1) := rfl
    have e4 : extF T t (-1) (i + 1) = if -1 * woF T t ((i : Int) + 1) < -1 * woF T t (extF T t (-1) i) then (i : Int) + 1 else extF T t (-1) i := rfl
    rw [e3, ih, e1, e2, e4, show ((i + 1 : Nat) : Int) = (i : Int) + 1 by omega]
    (repeat' split) <;> omega
theorem ls_los {T f f' g : Int → Int} {n t v top : Int} (hf : AG n f f') (hg : ∀ p : Int, 0 ≤ p → p < n → g p = woF T t p) : ∀ i : Nat, (i : Int) ≤ n → lsC f g v top i = maC f' v (-1000000) i * top - losF T f' t v i
  | 0, _ => by simp [lsC, maC, losF]
  | i + 1, hi => by
    have ih := ls_los hf hg (v := v) (top := top) i (by omega)
    have e1 := hf i (by omega) (by omega)
    have e2 := hg i (by omega) (by omega)
    simp only [lsC, maC, losF]
    rw [ih, e1, e2, if_neg (show ¬ (i : Int) = -1000000 by omega)]
    by_cases c : f' i = v
    · rw [if_pos c, if_pos c, if_pos c, Int.add_mul, Int.one_mul]; omega
    · rw [if_neg c, if_neg c, if_neg c]; omega
theorem lost_12 {T f f' g : Int → Int} {n t : Int} (hf : AG n f f') (hS : SW n f') (hn : 1 ≤ n ∧ n ≤ 4) (hg : ∀ p : Int, 0 ≤ p → p < n → g p = woF T t p) : 12 * lsC f g (loC f (-1000000) n.toNat) (woF T t (extF T t (-1) (n - 1).toNat)) n.toNat = maC f (loC f (-1000000) n.toNat) (-1000000) n.toNat * losV T f' n t ∧ 1 ≤ maC f (loC f (-1000000) n.toNat) (-1000000) n.toNat ∧ maC f (loC f (-1000000) n.toNat) (-1000000) n.toNat ≤ 4 := by
  have e1 := loC_cg (but := -1000000) hf n.toNat (by omega)
  have e2 := maC_cg (v := loC f' (-1000000) n.toNat) (but := -1000000) hf n.toNat (by omega)
  have hK := likO_ma hS hn.1
  have hm := maC_at (f := f') n.toNat (by omega) (fun j a b => hS j a (by omega))
  have hm2 := maC_in (f := f') (s := loC f' (-1000000) n.toNat) (but := -1000000) n.toNat
  have hL := leaB_all hS hn.1
  have h1 := ls_los (v := loC f' (-1000000) n.toNat) (top := woF T t (extF T t (-1) (n - 1).toNat)) hf hg n.toNat (by omega)
  rw [e1, e2]
  refine ⟨?_, hm, by omega⟩
  rw [h1]
  unfold losV
  rw [hK, hL]
  generalize losF T f' t (loC f' (-1000000) n.toNat) n.toNat = s
  generalize woF T t (extF T t (-1) (n - 1).toNat) = w
  generalize maC f' (loC f' (-1000000) n.toNat) (-1000000) n.toNat = c at hm hm2
  rcases (show c = 1 ∨ c = 2 ∨ c = 3 ∨ c = 4 by omega) with e | e | e | e <;> subst e <;> simp <;> omega
/-! bits -/
theorem oOr_0 {a : Int} (h : R3 a) : oOr a 0 = a := by
  unfold oOr
  rw [iI_0, Int32.or_zero, iI_toInt h]
theorem oOr_R {a b : Int} : R3 (oOr a b) := iI_rng _
theorem okS_R {f g : Int → Int} : ∀ i : Nat, R3 (okS f g i)
  | 0 => ⟨by simp [okS], by simp [okS]⟩
  | i + 1 => by
    simp only [okS]
    split
    · exact oOr_R
    · exact okS_R i
theorem ok_orc {f g b : Int → Int} : ∀ i : Nat, (∀ p : Int, 0 ≤ p → p < i → (b p = 1 ↔ f p < g p)) → okS f g i = orcF b i
  | 0, _ => rfl
  | i + 1, h => by
    have ih := ok_orc (f := f) (g := g) (b := b) i (fun p a c => h p a (by omega))
    have hb := h i (by omega) (by omega)
    have hR := okS_R (f := f) (g := g) i
    simp only [okS, orcF]
    rw [← ih]
    by_cases c : f i < g i
    · rw [if_pos c, if_pos (hb.mpr c)]
    · rw [if_neg c, if_neg (fun z => c (hb.mp z)), oOr_0 hR]
theorem hnS_R {T to wo S : Int → Int} {n t : Int} {f : Int → Int} : ∀ i : Nat, R3 (hnS T to wo S n t f i).1
  | 0 => ⟨by simp [hnS], by simp [hnS]⟩
  | i + 1 => by
    simp only [hnS]
    split
    · exact hnS_R i
    · exact oOr_R
theorem hn_orc {T to wo S : Int → Int} {n t : Int} {f b : Int → Int} : ∀ i : Nat, (∀ (w : Nat) (f' : Int → Int), w < i → ((rsS T to wo S n t w f' (T 2).toNat).1 = 0 ↔ ¬ b w = 1)) → (hnS T to wo S n t f i).1 = orcF b i
  | 0, _ => rfl
  | i + 1, h => by
    have ih := hn_orc (T := T) (to := to) (wo := wo) (S := S) (n := n) (t := t) (f := f) (b := b) i (fun w f' hw => h w f' (by omega))
    have hb := h i (hnS T to wo S n t f i).2 (by omega)
    have hR := hnS_R (T := T) (to := to) (wo := wo) (S := S) (n := n) (t := t) (f := f) i
    simp only [hnS, orcF]
    rw [← ih]
    by_cases c : b i = 1
    · rw [if_pos c, if_neg (fun z => hb.mp z c)]
    · rw [if_neg c, if_pos (hb.mpr c), oOr_0 hR]
/-! counts -/
theorem ch_coh {σ : Mem} {q : Int} {T : Int → Int} (h : TR σ q T) : ∀ i : Nat, (i : Int) ≤ T 3 → chC (σ (q + 16)) i = cohF T i
  | 0, _ => rfl
  | i + 1, hi => by
    have ih := ch_coh h i (by omega)
    have e := (h.2.2 i (by omega) (by omega)).1.1
    simp only [chC, cohF]
    rw [ih, e]
    (repeat' split) <;> omega
theorem cb_tho {σ : Mem} {q p : Int} {T : Int → Int} (h : TR σ q T) : ∀ i : Nat, (i : Int) ≤ T 3 → cbC (σ (q + 16)) p i = thoF T p i
  | 0, _ => rfl
  | i + 1, hi => by
    have ih := cb_tho (p := p) h i (by omega)
    have e := (h.2.2 i (by omega) (by omega)).1.1
    simp only [cbC, thoF]
    rw [ih, e]
    (repeat' split) <;> omega
theorem cr_cor {σ τ : Mem} (h : ∀ r : Int, 0 ≤ r → r < 8 → (σ (44 + r) 1 = 0 ↔ 0 ≤ τ 1 r)) : ∀ i : Nat, i ≤ 8 → crC σ i = corF (τ 1) i
  | 0, _ => rfl
  | i + 1, hi => by
    have ih := cr_cor h i (by omega)
    have e := h i (by omega) (by omega)
    simp only [crC, corF]
    rw [ih]
    (repeat' split) <;> omega
theorem an_is {k w : Int} (hk : 1 ≤ k ∧ k ≤ 5) (hw : 0 ≤ w ∧ w ≤ 5) : anF k w 6 = w ↔ (w = 0 ∨ k = w ∨ (w = 1 ∧ k < 4) ∨ (w = 4 ∧ k = 5)) := by
  rcases (show k = 1 ∨ k = 2 ∨ k = 3 ∨ k = 4 ∨ k = 5 by omega) with e | e | e | e | e <;> subst e <;> rcases (show w = 0 ∨ w = 1 ∨ w = 2 ∨ w = 3 ∨ w = 4 ∨ w = 5 by omega) with e | e | e | e | e | e <;> subst e <;> decide

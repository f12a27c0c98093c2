/-! PURE: the class's functions are the reference's. The least of all, of the others; how many -/
theorem lo_lea {f : Int → Int} {n but : Int} (h : SW n f) : ∀ i : Nat, (i : Int) ≤ n → (leaF f but i = -1000000 ∧ loC f but i = 6) ∨ (leaF f but i = loC f but i ∧ 0 ≤ loC f but i ∧ loC f but i ≤ 5)
  | 0, _ => .inl ⟨rfl, rfl⟩
  | i + 1, hi => by
    have ih := lo_lea h (but := but) i (by omega)
    have hf := h i (by omega) (by omega)
    simp only [leaF, loC]
    by_cases h1 : (i : Int) = but
    · rw [if_neg (fun z => z.1 h1), if_pos h1]; exact ih
    · rw [if_neg h1]
      rcases ih with ⟨a, b⟩ | ⟨a, b⟩
      · rw [if_pos ⟨h1, .inl a⟩, b, if_pos (by omega)]; exact .inr ⟨rfl, hf⟩
      · by_cases h2 : f i < loC f but i
        · rw [if_pos ⟨h1, .inr (by omega)⟩, if_pos h2]; exact .inr ⟨rfl, hf⟩
        · rw [if_neg (fun z => by have := z.2; omega), if_neg h2]; exact .inr ⟨a, b⟩
/-- the least of those but one is at most what any of them says -/
theorem loC_le {f : Int → Int} {but : Int} : ∀ i : Nat, ∀ j : Int, 0 ≤ j → j < i → j ≠ but → loC f but i ≤ f j
  | 0, j, h0, h1, _ => by omega
  | i + 1, j, h0, h1, h2 => by
    have ih := loC_le (f := f) (but := but) i j h0
    simp only [loC]
    by_cases e : j = (i : Int)
    · subst e
      rw [if_neg h2]
      split <;> omega
    · have := ih (by omega) h2
      (repeat' split) <;> omega
theorem loC_6 {f : Int → Int} {but : Int} : ∀ i : Nat, loC f but i ≤ 6
  | 0 => by simp [loC]
  | i + 1 => by
    have ih := loC_6 (f := f) (but := but) i
    simp only [loC]
    (repeat' split) <;> omega
theorem leaB_lo {f : Int → Int} {n but : Int} (h : SW n f) (hn : 0 ≤ n) : leaB f n but = if loC f but n.toNat = 6 then 0 else loC f but n.toNat := by
  have h1 := lo_lea h (but := but) n.toNat (by omega)
  unfold leaB
  rcases h1 with ⟨a, b⟩ | ⟨a, b⟩
  · rw [if_pos a, if_pos b]
  · rw [if_neg (by omega), if_neg (by omega), a]
theorem leaB_all {f : Int → Int} {n : Int} (h : SW n f) (hn : 1 ≤ n) : leaB f n (-1000000) = loC f (-1000000) n.toNat := by
  have h0 := h 0 (by omega) (by omega)
  have h1 := loC_le (f := f) (but := -1000000) n.toNat 0 (by omega) (by omega) (by decide)
  rw [leaB_lo h (by omega), if_neg (by omega)]
theorem leaB_nx {f : Int → Int} {n p : Int} (h : SW n f) (hn : 1 ≤ n) (hp : 0 ≤ p ∧ p < n) : leaB f n p = nxC f n p := by
  rw [leaB_lo h (by omega)]
  unfold nxC
  by_cases h1 : 1 < n
  · rw [if_pos h1]
    have hj : ∃ j : Int, 0 ≤ j ∧ j < n ∧ j ≠ p := by
      by_cases e : p = 0
      · exact ⟨1, by omega, by omega, by omega⟩
      · exact ⟨0, by omega, by omega, by omega⟩
    obtain ⟨j, a, b, c⟩ := hj
    have h2 := loC_le (f := f) (but := p) n.toNat j a (by omega) c
    have h3 := h j a b
    rw [if_neg (by omega)]
  · rw [if_neg h1]
    have e1 : n.toNat = 0 + 1 := by omega
    have e2 : p = 0 := by omega
    rw [e1, e2]
    simp [loC]
theorem lik_ma {f : Int → Int} {v : Int} : ∀ i : Nat, likF f v i = maC f v (-1000000) i
  | 0 => rfl
  | i + 1 => by
    have ih := lik_ma (f := f) (v := v) i
    simp only [likF, maC]
    (repeat' split) <;> omega
theorem likO_ma {f : Int → Int} {n : Int} (h : SW n f) (hn : 1 ≤ n) : likO f n = maC f (loC f (-1000000) n.toNat) (-1000000) n.toNat := by
  unfold likO
  rw [leaB_all h hn, lik_ma]
/-- one among all and one among the others -/
theorem maC_one {f : Int → Int} {v p : Int} (hp : 0 ≤ p) : ∀ i : Nat, maC f v (-1000000) i = maC f v p i + (if p < i ∧ f p = v then 1 else 0)
  | 0 => by
    rw [if_neg (fun z => by have := z.1; omega)]; rfl
  | i + 1 => by
    have ih := maC_one (f := f) (v := v) hp i
    by_cases e : p = (i : Int)
    · subst e
      simp only [maC, ↓reduceIte]
      (repeat' split) <;> (repeat' split at ih) <;> omega
    · simp only [maC]
      (repeat' split) <;> (repeat' split at ih) <;> omega
theorem loC_one {f : Int → Int} {p : Int} (hp : 0 ≤ p) : ∀ i : Nat, loC f (-1000000) i = if p < i ∧ f p < loC f p i then f p else loC f p i
  | 0 => by
    rw [if_neg (fun z => by have := z.1; omega)]; rfl
  | i + 1 => by
    have ih := loC_one (f := f) hp i
    by_cases e : p = (i : Int)
    · subst e
      have e1 : loC f (-1000000) (i + 1) = if f i < loC f (-1000000) i then f i else loC f (-1000000) i := by simp only [loC]; rw [if_neg (by omega)]
      have e2 : loC f (i : Int) (i + 1) = loC f (i : Int) i := by simp only [loC]; rw [if_pos trivial]
      rw [if_neg (fun z => by have := z.1; omega)] at ih
      rw [e1, e2, ih]
      (repeat' split) <;> omega
    · have e1 : loC f (-1000000) (i + 1) = if f i < loC f (-1000000) i then f i else loC f (-1000000) i := by simp only [loC]; rw [if_neg (by omega)]
      have e2 : loC f p (i + 1) = if f i < loC f p i then f i else loC f p i := by simp only [loC]; rw [if_neg (by omega)]
      rw [e1, e2, ih]
      (repeat' split) <;> omega
theorem maC_0 {f : Int → Int} {v p : Int} : ∀ i : Nat, v < loC f p i → maC f v p i = 0
  | 0, _ => rfl
  | i + 1, h => by
    simp only [loC] at h
    simp only [maC]
    by_cases e : (i : Int) = p
    · rw [if_pos e] at h ⊢; exact maC_0 i h
    · rw [if_neg e] at h ⊢
      by_cases h1 : f i < loC f p i
      · rw [if_pos h1] at h
        rw [if_neg (by omega)]; exact maC_0 i (by omega)
      · rw [if_neg h1] at h
        rw [if_neg (by omega)]; exact maC_0 i h
theorem maC_lo {f : Int → Int} {p : Int} : ∀ i : Nat, loC f p i < 6 → 1 ≤ maC f (loC f p i) p i
  | 0, h => by simp [loC] at h
  | i + 1, h => by
    have hm := maC_in (f := f) (s := f i) (but := p) i
    simp only [loC] at h ⊢
    by_cases e : (i : Int) = p
    · rw [if_pos e] at h ⊢
      simp only [maC]; rw [if_pos e]; exact maC_lo i h
    · rw [if_neg e] at h ⊢
      by_cases h1 : f i < loC f p i
      · rw [if_pos h1] at h ⊢
        simp only [maC]; rw [if_neg e, if_pos trivial]; omega
      · rw [if_neg h1] at h ⊢
        have ih := maC_lo i h
        simp only [maC]; rw [if_neg e]
        split <;> omega
theorem maC_mn {f : Int → Int} {v p : Int} (hp : 0 ≤ p) : ∀ i : Nat, maC f v p i + (if p < i then 1 else 0) ≤ i
  | 0 => by rw [if_neg (by omega)]; simp [maC]
  | i + 1 => by
    have ih := maC_mn (f := f) (v := v) hp i
    simp only [maC]
    (repeat' split) <;> (repeat' split at ih) <;> omega
/-! coin, gain -/
theorem coiB_c {fee n pays p to : Int} {f : Int → Int} (h : SW n f) (hn : 1 ≤ n) (hto : 0 ≤ to ∧ to < n) (hw : 0 ≤ pays ∧ pays ≤ 3) : coiB fee n f pays p to = if p = to then wgC pays fee n (nxC f n to) else ogC pays fee := by
  have e := leaB_nx h hn hto
  unfold coiB wgC ogC
  rw [e]
  rcases (show pays = 0 ∨ pays = 1 ∨ pays = 2 ∨ pays = 3 by omega) with h1 | h1 | h1 | h1 <;> subst h1 <;> by_cases h2 : p = to <;> simp [h2, Int.neg_mul]
theorem gaiF_c {fee n W pays p : Int} {f : Int → Int} (h : SW n f) (hn : 1 ≤ n) (hp : 0 ≤ p ∧ p < n) (hw : 0 ≤ pays ∧ pays ≤ 3) : ∀ i : Nat, (i : Int) ≤ n → gaiF fee n f W pays p i = maC f (leaB f n (-1000000)) p i * ogC pays fee + (if p < i ∧ f p = leaB f n (-1000000) then haC W fee n (nxC f n p) pays else 0)
  | 0, _ => by simp [gaiF, maC]; omega
  | i + 1, hi => by
    have ih := gaiF_c (fee := fee) (W := W) h hn hp hw i (by omega)
    have hc := coiB_c (fee := fee) (p := p) h hn (to := (i : Int)) ⟨by omega, by omega⟩ hw
    simp only [gaiF, maC]
    rw [ih]
    by_cases e : p = (i : Int)
    · rw [if_neg (fun z => by omega), if_pos e.symm]
      rw [if_pos e] at hc
      by_cases h1 : f i = leaB f n (-1000000)
      · rw [if_pos h1, hc, if_pos e, if_pos ⟨by omega, by rw [e]; exact h1⟩]
        unfold haC; rw [e]; omega
      · rw [if_neg h1, if_neg (fun z => h1 (by rw [← e]; exact z.2))]; omega
    · rw [if_neg (show ¬ (i : Int) = p by omega)]
      rw [if_neg e] at hc
      have hcc : (p < ((i + 1 : Nat) : Int) ∧ f p = leaB f n (-1000000)) ↔ (p < (i : Int) ∧ f p = leaB f n (-1000000)) := ⟨fun z => ⟨by omega, z.2⟩, fun z => ⟨by omega, z.2⟩⟩
      have e2 : (if p < ((i + 1 : Nat) : Int) ∧ f p = leaB f n (-1000000) then haC W fee n (nxC f n p) pays else 0) = (if p < (i : Int) ∧ f p = leaB f n (-1000000) then haC W fee n (nxC f n p) pays else 0) := by
        by_cases h2 : p < (i : Int) ∧ f p = leaB f n (-1000000)
        · rw [if_pos h2, if_pos (hcc.mpr h2)]
        · rw [if_neg h2, if_neg (fun z => h2 (hcc.mp z))]
      rw [e2]
      by_cases h1 : f i = leaB f n (-1000000)
      · rw [if_pos h1, if_pos h1, hc, if_neg e, Int.add_mul, Int.one_mul]; omega
      · rw [if_neg h1, if_neg h1]; omega
/-- what the class keeps of a gain, against the reference's twelfths -/
def pgC (fee n W pays p : Int) (f : Int → Int) (s : Int) : Int := gbC (loC f p n.toNat) (haC W fee n (nxC f n p) pays * odC f n p) (haC W fee n (nxC f n p) pays + ogC pays fee * (odC f n p - 1)) (ogC pays fee * odC f n p) s
theorem gain_12 {fee n W pays p : Int} {f : Int → Int} (h : SW n f) (hn : 1 ≤ n ∧ n ≤ 4) (hp : 0 ≤ p ∧ p < n) (hw : 0 ≤ pays ∧ pays ≤ 3) : 12 * pgC fee n W pays p f (f p) = odC f n p * gaiB fee n f W pays p := by
  have hg := gaiF_c (fee := fee) (W := W) h hn.1 hp hw n.toNat (by omega)
  have hL := leaB_all h hn.1
  have hO := loC_one (f := f) hp.1 n.toNat
  have hM := maC_one (f := f) (v := leaB f n (-1000000)) hp.1 n.toNat
  have hK := likO_ma h hn.1
  rw [← hL] at hO hK
  have hm1 := maC_mn (f := f) (v := loC f p n.toNat) hp.1 n.toNat
  have hfp := h p hp.1 hp.2
  rw [if_pos (by omega)] at hm1
  unfold gaiB
  rw [hg, hK, hM]
  unfold pgC gbC odC
  generalize haC W fee n (nxC f n p) pays = Ha
  generalize ogC pays fee = og
  have hlo := loC_6 (f := f) (but := p) n.toNat
  have hmin := maC_in (f := f) (s := loC f p n.toNat) (but := p) n.toNat
  by_cases c1 : f p < loC f p n.toNat
  · rw [if_pos ⟨by omega, c1⟩] at hO
    have e0 := maC_0 (f := f) (v := f p) (p := p) n.toNat c1
    rw [if_pos c1, hO, e0, if_pos ⟨by omega, rfl⟩, if_pos ⟨by omega, rfl⟩]
    generalize maC f (loC f p n.toNat) p n.toNat = c at hm1 hmin
    rcases (show c = 0 ∨ c = 1 ∨ c = 2 ∨ c = 3 by omega) with e | e | e | e <;> subst e <;> simp <;> omega
  · rw [if_neg (fun z => c1 z.2)] at hO
    have hat := maC_lo (f := f) (p := p) n.toNat (by omega)
    rw [if_neg c1, hO]
    by_cases c2 : loC f p n.toNat < f p
    · rw [if_pos c2, if_neg (fun z => by have := z.2; omega), if_neg (fun z => by have := z.2; omega)]
      generalize maC f (loC f p n.toNat) p n.toNat = c at hm1 hmin hat
      rcases (show c = 1 ∨ c = 2 ∨ c = 3 by omega) with e | e | e <;> subst e <;> simp <;> omega
    · rw [if_neg c2, if_pos ⟨by omega, by omega⟩, if_pos ⟨by omega, by omega⟩]
      generalize maC f (loC f p n.toNat) p n.toNat = c at hm1 hmin hat
      rcases (show c = 1 ∨ c = 2 ∨ c = 3 by omega) with e | e | e <;> subst e <;> simp <;> omega

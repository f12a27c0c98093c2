/-! rows of sayings that agree where people are -/
def AG (n : Int) (f g : Int → Int) : Prop := ∀ p : Int, 0 ≤ p → p < n → f p = g p
theorem AG_SW {n : Int} {f g : Int → Int} (h : AG n f g) (hg : SW n g) : SW n f := fun p a b => by rw [h p a b]; exact hg p a b
theorem AG_sym {n : Int} {f g : Int → Int} (h : AG n f g) : AG n g f := fun p a b => (h p a b).symm
theorem AG_ru {n p v : Int} {f g : Int → Int} (h : AG n f g) : AG n (ru f p v) (ru g p v) := fun q a b => by
  unfold ru
  split
  · rfl
  · exact h q a b
theorem loC_cg {n but : Int} {f g : Int → Int} (h : AG n f g) : ∀ i : Nat, (i : Int) ≤ n → loC f but i = loC g but i
  | 0, _ => rfl
  | i + 1, hi => by
    have ih := loC_cg (but := but) h i (by omega)
    have e := h i (by omega) (by omega)
    simp only [loC, ih, e]
theorem maC_cg {n v but : Int} {f g : Int → Int} (h : AG n f g) : ∀ i : Nat, (i : Int) ≤ n → maC f v but i = maC g v but i
  | 0, _ => rfl
  | i + 1, hi => by
    have ih := maC_cg (v := v) (but := but) h i (by omega)
    have e := h i (by omega) (by omega)
    simp only [maC, ih, e]
theorem syC_cg {n v pl : Int} {f g : Int → Int} (h : AG n f g) : ∀ i : Nat, (i : Int) ≤ n → syC f v pl i = syC g v pl i
  | 0, _ => rfl
  | i + 1, hi => by
    have ih := syC_cg (v := v) (pl := pl) h i (by omega)
    have e := h i (by omega) (by omega)
    simp only [syC, ih, e, maC_cg h i (show (i : Int) ≤ n by omega)]
theorem hoW_cg {n seed : Int} {f g : Int → Int} (h : AG n f g) (hn : 0 ≤ n) : hoW f n seed = hoW g n seed := by
  unfold hoW syR
  rw [loC_cg h n.toNat (by omega), maC_cg h n.toNat (by omega), syC_cg h n.toNat (by omega)]
theorem nxC_cg {n p : Int} {f g : Int → Int} (h : AG n f g) : nxC f n p = nxC g n p := by
  unfold nxC
  split
  · rw [loC_cg h n.toNat (by omega)]
  · rfl
theorem odC_cg {n p : Int} {f g : Int → Int} (h : AG n f g) (hn : 0 ≤ n) : odC f n p = odC g n p := by
  unfold odC
  rw [loC_cg h n.toNat (by omega), maC_cg h n.toNat (by omega)]
theorem pgC_cg {fee n W w p s : Int} {f g : Int → Int} (h : AG n f g) (hn : 0 ≤ n) : pgC fee n W w p f s = pgC fee n W w p g s := by
  unfold pgC
  rw [loC_cg h n.toNat (by omega), nxC_cg h, odC_cg h hn]
/-! the towns of both -/
def TR (σ : Mem) (q : Int) (T : Int → Int) : Prop := (T 0 = σ q 0 ∧ T 1 = σ q 1 ∧ T 2 = σ q 2 ∧ T 3 = σ q 3) ∧ (∀ p : Int, 0 ≤ p → p < T 2 → T (4 + p) = σ (q + 4) p ∧ T (8 + p) = σ (q + 8) p) ∧ (∀ t : Int, 0 ≤ t → t < T 3 → (T (12 + 6 * t + 4) = σ (q + 16) t ∧ T (12 + 6 * t + 5) = σ (q + 20) t) ∧ ∀ p : Int, 0 ≤ p → p < T 2 → T (12 + 6 * t + p) - 30 = σ (q + 12) (t * 4 + p))
theorem wo_eq {σ : Mem} {q t p : Int} {T : Int → Int} (h : TR σ q T) (ht : 0 ≤ t ∧ t < T 3) (hp : 0 ≤ p ∧ p < T 2) : woC (σ (q + 12)) (σ (q + 20)) t p = woF T t p := by
  obtain ⟨⟨a, b⟩, c⟩ := h.2.2 t ht.1 ht.2
  have d := c p hp.1 hp.2
  unfold woC woF
  omega
theorem ow_eq {σ : Mem} {q t p : Int} {T : Int → Int} (h : TR σ q T) (ht : 0 ≤ t ∧ t < T 3) (hp : 0 ≤ p ∧ p < T 2) : owC (σ (q + 4) p) (woC (σ (q + 12)) (σ (q + 20)) t p) = owF T t p := by
  have h1 := (h.2.1 p hp.1 hp.2).1
  have hc := clF_in ((30 + woF T t p).tdiv 10)
  rw [wo_eq h ht hp, ← h1]
  unfold owC owF frC
  (repeat' split) <;> omega
theorem TW_wo {T : Int → Int} (h : TW T) {t p : Int} (ht : 0 ≤ t ∧ t < T 3) (hp : 0 ≤ p ∧ p < T 2) : WB (woF T t p) := by
  have h3 := h.2.2.2.1
  have h2 := h.2.2.1
  have := woF_in h (t := t) (p := p) (by omega) (by omega)
  unfold WB; omega
theorem pr_pg {σ : Mem} {q t p w s : Int} {T said : Int → Int} (h : TR σ q T) (ht : 0 ≤ t ∧ t < T 3) (hp : 0 ≤ p ∧ p < T 2) : prG (σ q) (σ (q + 12)) (σ (q + 20)) said (σ q 2) t p w s = pgC (T 1) (T 2) (woF T t p) w p said s := by
  have e1 := h.1.2.1
  have e2 := h.1.2.2.1
  unfold prG prLo prBe prSh prAb prHa pgC
  rw [wo_eq h ht hp, ← e1, ← e2]
theorem prB_eq {σ : Mem} {q t p w : Int} {T said said' : Int → Int} (h : TR σ q T) (hT : TW T) (ht : 0 ≤ t ∧ t < T 3) (hp : 0 ≤ p ∧ p < T 2) (hs : AG (T 2) said said') (hS : SW (T 2) said') (hw : 0 ≤ w ∧ w ≤ 3) : prB (σ q) (σ (q + 12)) (σ (q + 20)) said (σ q 2) t p w = besB (T 1) (T 2) said' (woF T t p) w p := by
  have e1 := h.1.2.1
  have e2 := h.1.2.2.1
  have h2 := hT.2.2.1
  unfold prB prLo prBe prSh prAb prHa
  rw [wo_eq h ht hp, ← e1, ← e2, loC_cg hs (T 2).toNat (by omega), nxC_cg hs, odC_cg hs (by omega)]
  exact best_eq hS ⟨by omega, by omega⟩ hp hw hT.2.1 (TW_wo hT ht hp)
theorem rs_res {σ : Mem} {q t w : Int} {T said said' f : Int → Int} (h : TR σ q T) (hT : TW T) (ht : 0 ≤ t ∧ t < T 3) (hs : AG (T 2) said said') (hS : SW (T 2) said') (hw : 0 ≤ w ∧ w ≤ 3) : ∀ m : Nat, (m : Int) ≤ T 2 → (rsS (σ q) (σ (q + 12)) (σ (q + 20)) said (σ q 2) t w f m).1 = resF T said' w t m
  | 0, _ => rfl
  | m + 1, hm => by
    have ih := rs_res h hT ht hs hS hw (f := f) m (by omega)
    have h2 := hT.2.2.1
    have hp : (0 : Int) ≤ (m : Int) ∧ (m : Int) < T 2 := ⟨by omega, by omega⟩
    have h01 := rsS_01 (T := σ q) (told := σ (q + 12)) (worn := σ (q + 20)) (said := said) (n := σ q 2) (t := t) (w := w) (f := f) m
    have hr := rest1 (fee := T 1) (W := woF T t m) (pays := w) hS ⟨by omega, by omega⟩ hp hw hT.2.1 (TW_wo hT ht hp)
    have e3 : resF T said' w t (m + 1) = if resF T said' w t m = 1 ∧ gaiB (T 1) (T 2) (ru said' m (besB (T 1) (T 2) said' (woF T t m) w m)) (woF T t m) w m ≤ gaiB (T 1) (T 2) said' (woF T t m) w m then 1 else 0 := rfl
    rw [e3]
    by_cases c0 : (rsS (σ q) (σ (q + 12)) (σ (q + 20)) said (σ q 2) t w f m).1 = 0
    · rw [if_neg (fun z => by have := z.1; omega), rsS_stay c0 (Nat.le_succ m)]
      exact c0
    · have c1 : (rsS (σ q) (σ (q + 12)) (σ (q + 20)) said (σ q 2) t w f m).1 = 1 := by omega
      have hB := prB_eq (p := (m : Int)) h hT ht hp hs hS hw
      have g1 : prG (σ q) (σ (q + 12)) (σ (q + 20)) said (σ q 2) t m w (said m) = pgC (T 1) (T 2) (woF T t m) w m said' (said' m) := by rw [pr_pg h ht hp, pgC_cg hs (by omega), hs m hp.1 hp.2]
      have g2 : prG (σ q) (σ (q + 12)) (σ (q + 20)) said (σ q 2) t m w (prB (σ q) (σ (q + 12)) (σ (q + 20)) said (σ q 2) t m w) = pgC (T 1) (T 2) (woF T t m) w m said' (besB (T 1) (T 2) said' (woF T t m) w m) := by rw [pr_pg h ht hp, pgC_cg hs (by omega), hB]
      by_cases c : prG (σ q) (σ (q + 12)) (σ (q + 20)) said (σ q 2) t m w (said m) < prG (σ q) (σ (q + 12)) (σ (q + 20)) said (σ q 2) t m w (prB (σ q) (σ (q + 12)) (σ (q + 20)) said (σ q 2) t m w)
      · rw [rsS_no c1 c]
        rw [g1, g2] at c
        rw [if_neg (fun z => hr.mp c z.2)]
      · rw [rsS_yes c1 c]
        rw [g1, g2] at c
        have hle : gaiB (T 1) (T 2) (ru said' m (besB (T 1) (T 2) said' (woF T t m) w m)) (woF T t m) w m ≤ gaiB (T 1) (T 2) said' (woF T t m) w m := by
          by_cases z : gaiB (T 1) (T 2) (ru said' m (besB (T 1) (T 2) said' (woF T t m) w m)) (woF T t m) w m ≤ gaiB (T 1) (T 2) said' (woF T t m) w m
          · exact z
          · exact absurd (hr.mpr z) c
        rw [if_pos ⟨by omega, hle⟩]
/-! one turn; turns -/
theorem tu_tur {σ : Mem} {q t : Int} {T s s' f : Int → Int} (h : TR σ q T) (hT : TW T) (ht : 0 ≤ t ∧ t < T 3) (hs : AG (T 2) s s') (hS : SW (T 2) s') : ∀ m : Nat, (m : Int) ≤ T 2 → AG (T 2) (tuS (σ q) (σ (q + 12)) (σ (q + 20)) (σ q 2) t s f m).2.1 (turF T t s' m) ∧ ((tuS (σ q) (σ (q + 12)) (σ (q + 20)) (σ q 2) t s f m).1 = 0 ↔ samF T t s' m = 1)
  | 0, _ => ⟨hs, ⟨fun _ => rfl, fun _ => rfl⟩⟩
  | m + 1, hm => by
    obtain ⟨h1, h2⟩ := tu_tur h hT ht hs hS (f := f) m (by omega)
    have hp : (0 : Int) ≤ (m : Int) ∧ (m : Int) < T 2 := ⟨by omega, by omega⟩
    have hST := turF_in (T := T) (t := t) hS m
    have e0 := h.1.1
    have hB := prB_eq (p := (m : Int)) h hT ht hp h1 hST hT.1
    rw [e0] at hB
    have em := h1 m hp.1 hp.2
    simp only [tuS]
    have e4 : samF T t s' (m + 1) = if samF T t s' m = 1 ∧ besB (T 1) (T 2) (turF T t s' m) (woF T t m) (T 0) m = turF T t s' m m then 1 else 0 := rfl
    rw [hB, em, e4, ← e0]
    refine ⟨AG_ru h1, ?_⟩
    by_cases c : (tuS (σ q) (σ (q + 12)) (σ (q + 20)) (σ q 2) t s f m).1 = 0
    · rw [if_pos c]
      have c2 := h2.mp c
      by_cases c3 : besB (T 1) (T 2) (turF T t s' m) (woF T t m) (T 0) m = turF T t s' m m
      · rw [if_pos c3, if_pos ⟨c2, c3⟩]; simp
      · rw [if_neg c3, if_neg (fun z => c3 z.2)]; simp
    · rw [if_neg c, if_neg (fun z => c (h2.mpr z.1))]; simp
theorem tt_tur {σ : Mem} {q t : Int} {T s s' f : Int → Int} (h : TR σ q T) (hT : TW T) (ht : 0 ≤ t ∧ t < T 3) (hs : AG (T 2) s s') (hS : SW (T 2) s') : ∀ k : Nat, AG (T 2) (ttS (σ q) (σ (q + 12)) (σ (q + 20)) (σ q 2) t s f k).2.1 (turK T t s' k).1 ∧ ((ttS (σ q) (σ (q + 12)) (σ (q + 20)) (σ q 2) t s f k).1 = 0 ↔ (turK T t s' k).2 = -1000000) ∧ (¬ (ttS (σ q) (σ (q + 12)) (σ (q + 20)) (σ q 2) t s f k).1 = 0 → (ttS (σ q) (σ (q + 12)) (σ (q + 20)) (σ q 2) t s f k).1 = (turK T t s' k).2)
  | 0 => ⟨hs, ⟨fun _ => rfl, fun _ => rfl⟩, fun z => absurd rfl z⟩
  | k + 1 => by
    obtain ⟨h1, h2, h3⟩ := tt_tur h hT ht hs hS (f := f) k
    have hn := hT.2.2.1
    have e2 := h.1.2.2.1
    have hu := tu_tur h hT ht h1 (turK_SW hS k) (f := (ttS (σ q) (σ (q + 12)) (σ (q + 20)) (σ q 2) t s f k).2.2) (T 2).toNat (by omega)
    have e4 : turK T t s' (k + 1) = if (turK T t s' k).2 = -1000000 then (turF T t (turK T t s' k).1 (T 2).toNat, if samF T t (turK T t s' k).1 (T 2).toNat = 1 then (k : Int) + 1 else -1000000) else turK T t s' k := rfl
    simp only [ttS]
    rw [e4]
    by_cases c : (ttS (σ q) (σ (q + 12)) (σ (q + 20)) (σ q 2) t s f k).1 = 0
    · rw [if_pos c, if_pos (h2.mp c), ← e2]
      rw [← e2] at hu
      refine ⟨hu.1, ?_⟩
      dsimp only
      by_cases c2 : (tuS (σ q) (σ (q + 12)) (σ (q + 20)) (T 2) t (ttS (σ q) (σ (q + 12)) (σ (q + 20)) (T 2) t s f k).2.1 (ttS (σ q) (σ (q + 12)) (σ (q + 20)) (T 2) t s f k).2.2 (T 2).toNat).1 = 0
      · rw [if_pos c2, if_pos (hu.2.mp c2)]
        exact ⟨⟨fun z => by omega, fun z => by omega⟩, fun _ => rfl⟩
      · rw [if_neg c2, if_neg (fun z => c2 (hu.2.mpr z))]
        exact ⟨⟨fun _ => rfl, fun _ => rfl⟩, fun z => absurd rfl z⟩
    · rw [if_neg c, if_neg (fun z => c (h2.mpr z))]
      exact ⟨h1, h2, h3⟩

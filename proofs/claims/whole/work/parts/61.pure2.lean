/-! other sayings of one's own; the best saying -/
theorem loC_ru {f : Int → Int} {p s : Int} : ∀ i : Nat, loC (ru f p s) p i = loC f p i
  | 0 => rfl
  | i + 1 => by
    have ih := loC_ru (f := f) (p := p) (s := s) i
    simp only [loC, ih]
    by_cases e : (i : Int) = p
    · rw [if_pos e, if_pos e]
    · have e2 : ru f p s i = f i := if_neg e
      rw [if_neg e, if_neg e, e2]
theorem maC_ru {f : Int → Int} {p s v : Int} : ∀ i : Nat, maC (ru f p s) v p i = maC f v p i
  | 0 => rfl
  | i + 1 => by
    have ih := maC_ru (f := f) (p := p) (s := s) (v := v) i
    simp only [maC, ih]
    by_cases e : (i : Int) = p
    · rw [if_pos e, if_pos e]
    · have e2 : ru f p s i = f i := if_neg e
      rw [if_neg e, if_neg e, e2]
theorem pgC_ru {fee n W pays p s v : Int} {f : Int → Int} : pgC fee n W pays p (ru f p s) v = pgC fee n W pays p f v := by
  unfold pgC nxC odC
  simp only [loC_ru, maC_ru]
theorem odC_ru {n p s : Int} {f : Int → Int} : odC (ru f p s) n p = odC f n p := by
  unfold odC
  simp only [loC_ru, maC_ru]
theorem gain_s {fee n W pays p s : Int} {f : Int → Int} (h : SW n f) (hs : 0 ≤ s ∧ s ≤ 5) (hn : 1 ≤ n ∧ n ≤ 4) (hp : 0 ≤ p ∧ p < n) (hw : 0 ≤ pays ∧ pays ≤ 3) : 12 * pgC fee n W pays p f s = odC f n p * gaiB fee n (ru f p s) W pays p := by
  have h1 := gain_12 (fee := fee) (W := W) (ru_in (p := p) h hs) hn hp hw
  rw [show ru f p s p = s from if_pos rfl, pgC_ru, odC_ru] at h1
  exact h1
theorem odC_14 {n p : Int} {f : Int → Int} (hn : 1 ≤ n ∧ n ≤ 4) (hp : 0 ≤ p ∧ p < n) : 1 ≤ odC f n p ∧ odC f n p ≤ 4 := by
  have h1 := maC_mn (f := f) (v := loC f p n.toNat) hp.1 n.toNat
  have h2 := maC_in (f := f) (s := loC f p n.toNat) (but := p) n.toNat
  rw [if_pos (by omega)] at h1
  unfold odC
  omega
theorem cmp_12 {o a b x y : Int} (ho : 1 ≤ o ∧ o ≤ 4) (ha : 12 * a = o * x) (hb : 12 * b = o * y) : (a < b ↔ x < y) := by
  rcases (show o = 1 ∨ o = 2 ∨ o = 3 ∨ o = 4 by omega) with e | e | e | e <;> subst e <;> omega
/-- worths are bounded so: no gain is as low as NONE -/
def WB (W : Int) : Prop := -2000 ≤ W ∧ W ≤ 2000
theorem bs_bes {g g' : Int → Int} {lo be sh ab : Int} (hg : ∀ v, g' v = gbC lo be sh ab v) (hc : ∀ a b, 0 ≤ a ∧ a ≤ 5 → 0 ≤ b ∧ b ≤ 5 → (g' a < g' b ↔ g a < g b)) (hN : ∀ v, 0 ≤ v ∧ v ≤ 5 → -1000000 < g v) : ∀ i : Nat, i + 1 ≤ 6 → bsC lo be sh ab (i + 1) = besF g (i + 1) ∧ mosF g (i + 1) = g (besF g (i + 1)) ∧ 0 ≤ besF g (i + 1) ∧ besF g (i + 1) ≤ i
  | 0, _ => by
    have h0 := hN 0 (by omega)
    have e1 : besF g (0 + 1) = 0 := by
      show (if mosF g 0 < g ((0 : Nat) : Int) then ((0 : Nat) : Int) else besF g 0) = 0
      exact (if_pos h0).trans rfl
    have e2 : mosF g (0 + 1) = g 0 := by
      show (if mosF g 0 < g ((0 : Nat) : Int) then g ((0 : Nat) : Int) else mosF g 0) = g 0
      exact (if_pos h0).trans rfl
    rw [e1, e2]
    refine ⟨?_, rfl, by omega, by decide⟩
    show (if gbC lo be sh ab 0 < gbC lo be sh ab ((0 : Nat) : Int) then ((0 : Nat) : Int) else 0) = 0
    split <;> rfl
  | i + 1, hi => by
    obtain ⟨h1, h2, h3, h4⟩ := bs_bes hg hc hN i (by omega)
    have hcc := hc (besF g (i + 1)) ((i + 1 : Nat) : Int) (by omega) (by omega)
    have e0 : bsC lo be sh ab (i + 1 + 1) = if gbC lo be sh ab (bsC lo be sh ab (i + 1)) < gbC lo be sh ab ((i + 1 : Nat) : Int) then ((i + 1 : Nat) : Int) else bsC lo be sh ab (i + 1) := rfl
    have e1 : besF g (i + 1 + 1) = if mosF g (i + 1) < g ((i + 1 : Nat) : Int) then ((i + 1 : Nat) : Int) else besF g (i + 1) := rfl
    have e2 : mosF g (i + 1 + 1) = if mosF g (i + 1) < g ((i + 1 : Nat) : Int) then g ((i + 1 : Nat) : Int) else mosF g (i + 1) := rfl
    rw [e0, e1, e2, h1, h2, ← hg, ← hg]
    by_cases c : g (besF g (i + 1)) < g ((i + 1 : Nat) : Int)
    · rw [if_pos c, if_pos c, if_pos (hcc.mpr c)]
      exact ⟨rfl, rfl, by omega, by omega⟩
    · rw [if_neg c, if_neg c, if_neg (fun z => c (hcc.mp z))]
      exact ⟨rfl, rfl, h3, by omega⟩
theorem gaiB_N {fee n W pays p : Int} {f : Int → Int} (h : SW n f) (hn : 1 ≤ n ∧ n ≤ 4) (hf : 0 ≤ fee ∧ fee ≤ 20) (hW : WB W) : -1000000 < gaiB fee n f W pays p := by
  have := gaiB_in h hn hf hW (pays := pays) (p := p)
  omega
theorem best_eq {fee n W pays p : Int} {f : Int → Int} (h : SW n f) (hn : 1 ≤ n ∧ n ≤ 4) (hp : 0 ≤ p ∧ p < n) (hw : 0 ≤ pays ∧ pays ≤ 3) (hf : 0 ≤ fee ∧ fee ≤ 20) (hW : WB W) : bsC (loC f p n.toNat) (haC W fee n (nxC f n p) pays * odC f n p) (haC W fee n (nxC f n p) pays + ogC pays fee * (odC f n p - 1)) (ogC pays fee * odC f n p) 6 = besB fee n f W pays p := by
  have ho := odC_14 (f := f) hn hp
  exact (bs_bes (g := fun v => gaiB fee n (ru f p v) W pays p) (g' := fun v => pgC fee n W pays p f v) (fun v => rfl)
    (fun a b ha hb => cmp_12 ho (gain_s h ha hn hp hw) (gain_s h hb hn hp hw)) (fun v hv => gaiB_N (ru_in h hv) hn hf hW) 5 (by decide)).1
/-- nobody would say another one -/
theorem rest1 {fee n W pays p : Int} {f : Int → Int} (h : SW n f) (hn : 1 ≤ n ∧ n ≤ 4) (hp : 0 ≤ p ∧ p < n) (hw : 0 ≤ pays ∧ pays ≤ 3) (hf : 0 ≤ fee ∧ fee ≤ 20) (hW : WB W) : (pgC fee n W pays p f (f p) < pgC fee n W pays p f (besB fee n f W pays p)) ↔ ¬ gaiB fee n (ru f p (besB fee n f W pays p)) W pays p ≤ gaiB fee n f W pays p := by
  have ho := odC_14 (f := f) hn hp
  have hb := besB_in (fee := fee) (n := n) (f := f) (w := W) (pays := pays) (p := p)
  have := cmp_12 ho (gain_12 (fee := fee) (W := W) h hn hp hw) (gain_s (fee := fee) (W := W) h hb hn hp hw)
  omega
/-! who has it, by lot -/
theorem to_sy {f : Int → Int} {v pl : Int} (hpl : 0 ≤ pl) : ∀ i : Nat, lefF f v pl i = pl - maC f v (-1000000) i ∧ ((syC f v pl i = -1 ∧ toF f v pl i = -1000000 ∧ maC f v (-1000000) i ≤ pl) ∨ (0 ≤ syC f v pl i ∧ toF f v pl i = syC f v pl i ∧ pl < maC f v (-1000000) i))
  | 0 => ⟨by simp [lefF, maC], .inl ⟨rfl, rfl, by simp [maC]; omega⟩⟩
  | i + 1 => by
    obtain ⟨h1, h2⟩ := to_sy (f := f) (v := v) hpl i
    have e0 : lefF f v pl (i + 1) = if f i = v then lefF f v pl i - 1 else lefF f v pl i := rfl
    have e1 : maC f v (-1000000) (i + 1) = if f i = v then maC f v (-1000000) i + 1 else maC f v (-1000000) i := by simp only [maC]; rw [if_neg (by omega)]
    have e2 : toF f v pl (i + 1) = if f i = v ∧ lefF f v pl i = 0 then (i : Int) else toF f v pl i := rfl
    have e3 : syC f v pl (i + 1) = if 0 ≤ syC f v pl i then syC f v pl i else if f i = v ∧ maC f v (-1000000) i = pl then (i : Int) else -1 := rfl
    refine ⟨by rw [e0, e1]; split <;> omega, ?_⟩
    rw [e1, e2, e3]
    by_cases c : f i = v
    · rw [if_pos c]
      rcases h2 with ⟨a, b, d⟩ | ⟨a, b, d⟩
      · by_cases c2 : maC f v (-1000000) i = pl
        · rw [if_neg (show ¬ 0 ≤ syC f v pl i by omega), if_pos ⟨c, c2⟩, if_pos ⟨c, by omega⟩]
          exact .inr ⟨by omega, rfl, by omega⟩
        · rw [if_neg (show ¬ 0 ≤ syC f v pl i by omega), if_neg (fun z => c2 z.2), if_neg (fun z => by have := z.2; omega)]
          exact .inl ⟨rfl, b, by omega⟩
      · rw [if_pos a, if_neg (fun z => by have := z.2; omega)]
        exact .inr ⟨a, b, by omega⟩
    · have e4 : (if f i = v ∧ lefF f v pl i = 0 then (i : Int) else toF f v pl i) = toF f v pl i := if_neg (fun z => c z.1)
      have e5 : (if f i = v ∧ maC f v (-1000000) i = pl then (i : Int) else -1) = -1 := if_neg (fun z => c z.1)
      rw [if_neg c, e4, e5]
      rcases h2 with ⟨a, b, d⟩ | ⟨a, b, d⟩
      · rw [if_neg (by omega)]; exact .inl ⟨rfl, b, d⟩
      · rw [if_pos a]; exact .inr ⟨a, b, d⟩
theorem win_eq {f : Int → Int} {n seed : Int} (h : SW n f) (hn : 1 ≤ n) (hs : 1 ≤ seed) : hoW f n seed = toR f n seed := by
  have hK := likO_ma h hn
  have hm := maC_at (f := f) n.toNat (by omega) (fun j a b => h j a (by omega))
  have hL := leaB_all h hn
  have e : (if 1 < maC f (loC f (-1000000) n.toNat) (-1000000) n.toNat then maC f (loC f (-1000000) n.toNat) (-1000000) n.toNat else 1) = likO f n := by
    rw [hK]; split <;> omega
  have hk : 1 ≤ likO f n := by rw [hK]; exact hm
  have hp := sedF_in hs hk
  unfold hoW toR syR
  rw [e, hL]
  show (if 0 ≤ syC f (loC f (-1000000) n.toNat) (sedF seed (likO f n)) n.toNat then _ else _) = _
  have h2 := (to_sy (f := f) (v := loC f (-1000000) n.toNat) hp.1 n.toNat).2
  rw [← hK] at h2
  rcases h2 with ⟨a, b, d⟩ | ⟨a, b, d⟩
  · omega
  · rw [if_pos a, b]; rfl
theorem toR_in {f : Int → Int} {n seed : Int} (h : SW n f) (hn : 1 ≤ n) (hs : 1 ≤ seed) : 0 ≤ toR f n seed ∧ toR f n seed < n := by
  have hK := likO_ma h hn
  have hm := maC_at (f := f) n.toNat (by omega) (fun j a b => h j a (by omega))
  have hL := leaB_all h hn
  have hk : 1 ≤ likO f n := by rw [hK]; exact hm
  have hp := sedF_in hs hk
  have h2 := (to_sy (f := f) (v := loC f (-1000000) n.toNat) hp.1 n.toNat).2
  have h3 := syC_in (f := f) (v := loC f (-1000000) n.toNat) (pl := sedF seed (likO f n)) n.toNat
  rw [← hK] at h2
  unfold toR
  rw [hL]
  rcases h2 with ⟨a, b, d⟩ | ⟨a, b, d⟩ <;> omega

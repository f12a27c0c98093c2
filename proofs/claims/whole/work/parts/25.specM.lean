/-! THE REFERENCE'S METHODS, AS FUNCTIONS: T the town's row, f the sayings -/
def leaF (f : Int → Int) (but : Int) : Nat → Int
  | 0 => -1000000
  | i + 1 => if ¬ (i : Int) = but ∧ (leaF f but i = -1000000 ∨ f i < leaF f but i) then f i else leaF f but i
def leaB (f : Int → Int) (n : Int) (but : Int) : Int := if leaF f but n.toNat = -1000000 then 0 else leaF f but n.toNat
def likF (f : Int → Int) (v : Int) : Nat → Int
  | 0 => 0
  | i + 1 => likF f v i + (if f i = v then 1 else 0)
def likO (f : Int → Int) (n : Int) : Int := likF f (leaB f n (-1000000)) n.toNat
def coiB (fee n : Int) (f : Int → Int) (pays p to : Int) : Int :=
  if pays = 3 then (if p = to then fee * (n - 1) else -fee) else if ¬ p = to ∨ pays = 0 then 0 else if pays = 1 then -(fee * leaB f n to) else fee * leaB f n to
def woF (T : Int → Int) (t p : Int) : Int := T (12 + 6 * t + p) - 30 - 2 * T (12 + 6 * t + 5)
def clF (x : Int) : Int := if x < 0 then 0 else if 5 < x then 5 else x
def owF (T : Int → Int) (t p : Int) : Int :=
  if T (4 + p) = 2 then 5 - clF ((30 + woF T t p).tdiv 10) else if T (4 + p) = 3 then (if clF ((30 + woF T t p).tdiv 10) = 0 then 0 else clF ((30 + woF T t p).tdiv 10) - 1) else if T (4 + p) = 4 then (if clF ((30 + woF T t p).tdiv 10) < 3 then 3 else clF ((30 + woF T t p).tdiv 10)) else if T (4 + p) = 5 then 0 else clF ((30 + woF T t p).tdiv 10)
def gaiF (fee n : Int) (f : Int → Int) (w : Int) (pays p : Int) : Nat → Int
  | 0 => 0
  | i + 1 => gaiF fee n f w pays p i + (if f i = leaB f n (-1000000) then coiB fee n f pays p i + (if p = (i : Int) then w else 0) else 0)
def gaiB (fee n : Int) (f : Int → Int) (w : Int) (pays p : Int) : Int := gaiF fee n f w pays p n.toNat * (12 : Int).tdiv (likO f n)
def mosF (g : Int → Int) : Nat → Int
  | 0 => -1000000
  | i + 1 => if mosF g i < g i then g i else mosF g i
def besF (g : Int → Int) : Nat → Int
  | 0 => 0
  | i + 1 => if mosF g i < g i then i else besF g i
def besB (fee n : Int) (f : Int → Int) (w : Int) (pays p : Int) : Int := besF (fun v => gaiB fee n (ru f p v) w pays p) 6
def resF (T f : Int → Int) (pays t : Int) : Nat → Int
  | 0 => 1
  | i + 1 => if resF T f pays t i = 1 ∧ gaiB (T 1) (T 2) (ru f i (besB (T 1) (T 2) f (woF T t i) pays i)) (woF T t i) pays i ≤ gaiB (T 1) (T 2) f (woF T t i) pays i then 1 else 0
def lefF (f : Int → Int) (v l0 : Int) : Nat → Int
  | 0 => l0
  | i + 1 => if f i = v then lefF f v l0 i - 1 else lefF f v l0 i
def toF (f : Int → Int) (v l0 : Int) : Nat → Int
  | 0 => -1000000
  | i + 1 => if f i = v ∧ lefF f v l0 i = 0 then i else toF f v l0 i
def fbF (g : Int → Int) : Nat → Int
  | 0 => 0
  | i + 1 => if fbF g i = i then (if 0 ≤ g i ∧ g i ≤ 5 then (i : Int) + 1 else i) else fbF g i
def extF (T : Int → Int) (t s : Int) : Nat → Int
  | 0 => 0
  | i + 1 => if s * woF T t ((i : Int) + 1) < s * woF T t (extF T t s i) then (i : Int) + 1 else extF T t s i
def thoF (T : Int → Int) (p : Int) : Nat → Int
  | 0 => 0
  | i + 1 => thoF T p i + (if T (12 + 6 * (i : Int) + 4) = p then 1 else 0)
/-! facts -/
def SW (n : Int) (f : Int → Int) : Prop := ∀ p : Int, 0 ≤ p → p < n → 0 ≤ f p ∧ f p ≤ 5
theorem leaF_in {f : Int → Int} {n but : Int} (h : SW n f) : ∀ i : Nat, (i : Int) ≤ n → leaF f but i = -1000000 ∨ (0 ≤ leaF f but i ∧ leaF f but i ≤ 5)
  | 0, _ => Or.inl rfl
  | i + 1, hi => by
    have ih := leaF_in h (but := but) i (by omega)
    have hf := h i (by omega) (by omega)
    simp only [leaF]
    split
    · exact Or.inr hf
    · exact ih
theorem leaB_in {f : Int → Int} {n but : Int} (h : SW n f) (hn : 0 ≤ n ∧ n ≤ 4) : 0 ≤ leaB f n but ∧ leaB f n but ≤ 5 := by
  have := leaF_in h (but := but) n.toNat (by omega)
  unfold leaB
  split <;> omega
theorem likF_in {f : Int → Int} {v : Int} : ∀ i : Nat, 0 ≤ likF f v i ∧ likF f v i ≤ i
  | 0 => ⟨by simp [likF], by simp [likF]⟩
  | i + 1 => by
    have ih := likF_in (f := f) (v := v) i
    simp only [likF]
    split <;> omega
theorem leaF_at {f : Int → Int} {n : Int} (h : SW n f) : ∀ i : Nat, 1 ≤ i → (i : Int) ≤ n → leaF f (-1000000) i ≠ -1000000 ∧ 1 ≤ likF f (leaF f (-1000000) i) i
  | 0, h0, _ => absurd h0 (by omega)
  | i + 1, _, hi => by
    have hf := h i (by omega) (by omega)
    by_cases h0 : i = 0
    · subst h0
      simp [leaF, likF]
      have := h 0 (by omega) (by omega)
      omega
    · have ih := leaF_at h i (by omega) (by omega)
      have hm := likF_in (f := f) (v := f i) i
      have e : leaF f (-1000000) (i + 1) = if ¬ (i : Int) = -1000000 ∧ (leaF f (-1000000) i = -1000000 ∨ f i < leaF f (-1000000) i) then f i else leaF f (-1000000) i := rfl
      rw [e]
      split
      · refine ⟨by omega, ?_⟩
        simp only [likF, if_true]
        omega
      · refine ⟨ih.1, ?_⟩
        simp only [likF]
        split <;> omega
theorem likO_in {f : Int → Int} {n : Int} (h : SW n f) (hn : 1 ≤ n ∧ n ≤ 4) : 1 ≤ likO f n ∧ likO f n ≤ n := by
  have h1 := leaF_at h n.toNat (by omega) (by omega)
  have h2 := likF_in (f := f) (v := leaB f n (-1000000)) n.toNat
  have e : leaB f n (-1000000) = leaF f (-1000000) n.toNat := by unfold leaB; rw [if_neg h1.1]
  unfold likO
  rw [e] at h2 ⊢
  omega
theorem mul_bd {a b A B : Int} (ha : -A ≤ a ∧ a ≤ A) (hb : -B ≤ b ∧ b ≤ B) : -(A * B) ≤ a * b ∧ a * b ≤ A * B := by
  have hA : 0 ≤ A := by omega
  have hB : 0 ≤ B := by omega
  have h1 : (a * b).natAbs ≤ (A * B).natAbs := by
    rw [Int.natAbs_mul, Int.natAbs_mul]
    exact Nat.mul_le_mul (by omega) (by omega)
  have h2 : 0 ≤ A * B := Int.mul_nonneg hA hB
  omega
theorem coiB_in {fee n pays p to : Int} {f : Int → Int} (h : SW n f) (hn : 0 ≤ n ∧ n ≤ 4) (hf : 0 ≤ fee ∧ fee ≤ 20) : -100 ≤ coiB fee n f pays p to ∧ coiB fee n f pays p to ≤ 100 := by
  have h1 := leaB_in h hn (but := to)
  have h2 := mul_bd (a := fee) (b := n - 1) (A := 20) (B := 3) (by omega) (by omega)
  have h3 := mul_bd (a := fee) (b := leaB f n to) (A := 20) (B := 5) (by omega) (by omega)
  unfold coiB
  (repeat' split) <;> omega
theorem gaiF_in {fee n pays p w B : Int} {f : Int → Int} (h : SW n f) (hn : 0 ≤ n ∧ n ≤ 4) (hf : 0 ≤ fee ∧ fee ≤ 20) (hw : -B ≤ w ∧ w ≤ B) : ∀ i : Nat, -((100 + B) * i) ≤ gaiF fee n f w pays p i ∧ gaiF fee n f w pays p i ≤ (100 + B) * i
  | 0 => by simp [gaiF]
  | i + 1 => by
    have ih := gaiF_in h hn hf hw (pays := pays) (p := p) i
    have h1 := coiB_in h hn hf (pays := pays) (p := p) (to := (i : Int))
    have e : (100 + B) * ((i + 1 : Nat) : Int) = (100 + B) * (i : Int) + (100 + B) := by
      rw [show ((i + 1 : Nat) : Int) = (i : Int) + 1 by omega, Int.mul_add, Int.mul_one]
    rw [e]
    simp only [gaiF]
    (repeat' split) <;> omega
theorem gaiB_in {fee n pays p w : Int} {f : Int → Int} (h : SW n f) (hn : 1 ≤ n ∧ n ≤ 4) (hf : 0 ≤ fee ∧ fee ≤ 20) (hw : -2000 ≤ w ∧ w ≤ 2000) : -100800 ≤ gaiB fee n f w pays p ∧ gaiB fee n f w pays p ≤ 100800 := by
  have h1 := gaiF_in h (by omega : 0 ≤ n ∧ n ≤ 4) hf hw (pays := pays) (p := p) n.toNat
  have h2 := likO_in h hn
  have h3 : 0 ≤ (12 : Int).tdiv (likO f n) ∧ (12 : Int).tdiv (likO f n) ≤ 12 := by
    rcases (show likO f n = 1 ∨ likO f n = 2 ∨ likO f n = 3 ∨ likO f n = 4 by omega) with e | e | e | e <;> rw [e] <;> decide
  have h4 : -8400 ≤ gaiF fee n f w pays p n.toNat ∧ gaiF fee n f w pays p n.toNat ≤ 8400 := by omega
  have h5 := mul_bd (a := gaiF fee n f w pays p n.toNat) (b := (12 : Int).tdiv (likO f n)) (A := 8400) (B := 12) h4 (by omega)
  unfold gaiB
  omega
theorem mosF_in {g : Int → Int} {B : Int} (hB : 0 ≤ B ∧ B ≤ 1000000) (h : ∀ v : Int, 0 ≤ v → v ≤ 5 → -B ≤ g v ∧ g v ≤ B) : ∀ i : Nat, i ≤ 6 → -1000000 ≤ mosF g i ∧ mosF g i ≤ B
  | 0, _ => ⟨by simp [mosF], by simp [mosF]; omega⟩
  | i + 1, hi => by
    have ih := mosF_in hB h i (by omega)
    have h1 := h i (by omega) (by omega)
    simp only [mosF]
    split <;> omega
theorem besF_in {g : Int → Int} : ∀ i : Nat, 0 ≤ besF g i ∧ besF g i ≤ i
  | 0 => ⟨by simp [besF], by simp [besF]⟩
  | i + 1 => by
    have ih := besF_in (g := g) i
    simp only [besF]
    split <;> omega
theorem besF_lt {g : Int → Int} : ∀ i : Nat, besF g (i + 1) ≤ i
  | 0 => by simp [besF]
  | i + 1 => by
    have ih := besF_lt (g := g) i
    have e : besF g (i + 1 + 1) = if mosF g (i + 1) < g ((i + 1 : Nat) : Int) then ((i + 1 : Nat) : Int) else besF g (i + 1) := rfl
    rw [e]
    split <;> omega
theorem besB_in {fee n pays p w : Int} {f : Int → Int} : 0 ≤ besB fee n f w pays p ∧ besB fee n f w pays p ≤ 5 := ⟨(besF_in 6).1, besF_lt 5⟩
theorem ru_in {f : Int → Int} {n p v : Int} (h : SW n f) (hv : 0 ≤ v ∧ v ≤ 5) : SW n (ru f p v) := by
  intro q h0 h1
  unfold ru
  split
  · exact hv
  · exact h q h0 h1
theorem resF_01 (T f : Int → Int) (pays t : Int) : ∀ i : Nat, resF T f pays t i = 0 ∨ resF T f pays t i = 1
  | 0 => Or.inr rfl
  | i + 1 => by
    simp only [resF]
    split
    · exact Or.inr rfl
    · exact Or.inl rfl
theorem resF_0 {T f : Int → Int} {pays t : Int} {i : Nat} (h : resF T f pays t i = 0) : ∀ j : Nat, i ≤ j → resF T f pays t j = 0 := by
  intro j hj
  induction j with
  | zero => rw [show (0 : Nat) = i by omega]; exact h
  | succ j ih =>
    by_cases e : j + 1 = i
    · rw [e]; exact h
    · have := ih (by omega)
      simp only [resF]
      rw [if_neg (fun z => by omega)]
theorem lefF_in {f : Int → Int} {v l0 : Int} : ∀ i : Nat, l0 - i ≤ lefF f v l0 i ∧ lefF f v l0 i ≤ l0
  | 0 => by simp [lefF]
  | i + 1 => by
    have ih := lefF_in (f := f) (v := v) (l0 := l0) i
    simp only [lefF]
    split <;> omega
theorem fbF_in {g : Int → Int} : ∀ i : Nat, 0 ≤ fbF g i ∧ fbF g i ≤ i
  | 0 => by simp [fbF]
  | i + 1 => by
    have ih := fbF_in (g := g) i
    simp only [fbF]
    (repeat' split) <;> omega
/-- the first place that is no saying stays -/
theorem fbF_stay {g : Int → Int} {i : Nat} (h : fbF g i ≠ i) : ∀ j : Nat, i ≤ j → fbF g j = fbF g i := by
  intro j hj
  induction j with
  | zero => rw [show (0 : Nat) = i by omega]
  | succ j ih =>
    by_cases e : j + 1 = i
    · rw [e]
    · have h1 := ih (by omega)
      have h2 := fbF_in (g := g) i
      simp only [fbF]
      rw [if_neg (by omega)]
      exact h1
theorem extF_in {T : Int → Int} {t s : Int} : ∀ i : Nat, 0 ≤ extF T t s i ∧ extF T t s i ≤ i
  | 0 => by simp [extF]
  | i + 1 => by
    have ih := extF_in (T := T) (t := t) (s := s) i
    simp only [extF]
    split <;> omega
theorem thoF_in {T : Int → Int} {p : Int} : ∀ i : Nat, 0 ≤ thoF T p i ∧ thoF T p i ≤ i
  | 0 => by simp [thoF]
  | i + 1 => by
    have ih := thoF_in (T := T) (p := p) i
    simp only [thoF]
    split <;> omega
/-- what always holds of a town's row: B bounds how often a thing was worn -/
def TW (T : Int → Int) : Prop := (0 ≤ T 0 ∧ T 0 ≤ 3) ∧ (0 ≤ T 1 ∧ T 1 ≤ 20) ∧ (0 ≤ T 2 ∧ T 2 ≤ 4) ∧ (0 ≤ T 3 ∧ T 3 ≤ 5) ∧ (∀ p : Int, 0 ≤ p → p < 4 → 0 ≤ T (4 + p) ∧ T (4 + p) ≤ 5) ∧ (∀ t p : Int, 0 ≤ t → t < 5 → 0 ≤ p → p < 4 → 0 ≤ T (12 + 6 * t + p) ∧ T (12 + 6 * t + p) ≤ 60) ∧ (∀ t : Int, 0 ≤ t → t < 5 → -1000000 ≤ T (12 + 6 * t + 4) ∧ T (12 + 6 * t + 4) ≤ 3) ∧ (∀ t : Int, 0 ≤ t → t < 5 → 0 ≤ T (12 + 6 * t + 5) ∧ T (12 + 6 * t + 5) ≤ 600)
theorem woF_in {T : Int → Int} (h : TW T) {t p : Int} (ht : 0 ≤ t ∧ t < 5) (hp : 0 ≤ p ∧ p < 4) : -1230 ≤ woF T t p ∧ woF T t p ≤ 30 := by
  have h1 := h.2.2.2.2.2.1 t p ht.1 ht.2 hp.1 hp.2
  have h2 := h.2.2.2.2.2.2.2 t ht.1 ht.2
  unfold woF
  omega
theorem clF_in (x : Int) : 0 ≤ clF x ∧ clF x ≤ 5 := by unfold clF; (repeat' split) <;> omega
theorem owF_in (T : Int → Int) (t p : Int) : 0 ≤ owF T t p ∧ owF T t p ≤ 5 := by
  have := clF_in ((30 + woF T t p).tdiv 10)
  unfold owF
  (repeat' split) <;> omega
theorem oL2I_s {a : Int} (h : R3 a) : oL2I a = a := by
  unfold oL2I
  rw [Int64.toInt_toInt32, lI_toInt ⟨by omega, by omega⟩]
  exact Int.bmod_eq_of_le (by omega) (by omega)

theorem ru_ru (f : Int → Int) (j v w : Int) : ru (ru f j v) j w = ru f j w := by
  funext x
  unfold ru
  split <;> rfl
def barR (σ : Mem) (r : Int) : Int := if σ 1 r < 0 then -1000011 else if σ 2 r < σ 4 2 then -1000012 else if fbF (fun p => σ 3 (40 * r + p)) (σ 4 2).toNat = σ 4 2 then 0 else -1000001
def barM (σ : Mem) (r : Int) : Mem := if σ 1 r < 0 then mu σ 0 1 1 else if σ 2 r < σ 4 2 then mu σ 0 1 2 else if fbF (fun p => σ 3 (40 * r + p)) (σ 4 2).toNat = σ 4 2 then mu (mr σ 8 (over (σ 8) (fun p => σ 3 (40 * r + p)) 0 (σ 4 2))) 0 1 0 else mr σ 8 (over (σ 8) (fun p => σ 3 (40 * r + p)) 0 (fbF (fun p => σ 3 (40 * r + p)) (σ 4 2).toNat))
abbrev okB (σ : Mem) (r : Int) : Prop := 0 ≤ σ 1 r ∧ σ 4 2 ≤ σ 2 r ∧ fbF (fun p => σ 3 (40 * r + p)) (σ 4 2).toNat = σ 4 2
theorem barR_ok {σ : Mem} {r : Int} (h : okB σ r) : barR σ r = 0 := by
  unfold barR
  rw [if_neg (by have := h.1; omega), if_neg (by have := h.2.1; omega), if_pos h.2.2]
theorem barM_ok {σ : Mem} {r : Int} (h : okB σ r) : barM σ r = mu (mr σ 8 (over (σ 8) (fun p => σ 3 (40 * r + p)) 0 (σ 4 2))) 0 1 0 := by
  unfold barM
  rw [if_neg (by have := h.1; omega), if_neg (by have := h.2.1; omega), if_pos h.2.2]
theorem barR_no {σ : Mem} {r : Int} (h : ¬ okB σ r) : barR σ r < 0 ∧ -1000020 ≤ barR σ r := by
  unfold barR
  (repeat' split) <;> first | omega | (exfalso; exact h ⟨by omega, by omega, by omega⟩)
theorem fbF_all {g : Int → Int} : ∀ i : Nat, fbF g i = i → ∀ p : Int, 0 ≤ p → p < i → 0 ≤ g p ∧ g p ≤ 5
  | 0, _, p, h0, h1 => by omega
  | i + 1, h, p, h0, h1 => by
    have hin := fbF_in (g := g) i
    have e : fbF g (i + 1) = if fbF g i = i then (if 0 ≤ g i ∧ g i ≤ 5 then (i : Int) + 1 else i) else fbF g i := rfl
    rw [e] at h
    by_cases h2 : fbF g i = i
    · rw [if_pos h2] at h
      by_cases h3 : 0 ≤ g i ∧ g i ≤ 5
      · by_cases h4 : p = i
        · rw [h4]; exact h3
        · exact fbF_all i h2 p h0 (by omega)
      · rw [if_neg h3] at h; omega
    · rw [if_neg h2] at h; omega
theorem barSW {σ : Mem} {r : Int} (hp : 0 ≤ σ 4 2) (h : okB σ r) : SW (σ 4 2) (over (σ 8) (fun p => σ 3 (40 * r + p)) 0 (σ 4 2)) := by
  intro p h0 h1
  rw [over_in h0 h1]
  exact fbF_all (σ 4 2).toNat (by rw [h.2.2]; omega) p h0 (by omega)
theorem fbF_bad {g : Int → Int} {i N : Nat} (h : fbF g i = i) (hb : ¬ (0 ≤ g i ∧ g i ≤ 5)) (hN : i < N) : fbF g N = i := by
  have e : fbF g (i + 1) = i := by
    simp only [fbF]
    rw [if_pos h, if_neg hb]
  rw [fbF_stay (i := i + 1) (by omega) N (by omega), e]

def kepF (σ : Mem) : Int → Int := if σ 0 8 = 24 then over (over (σ 6) (fun k => σ 6 (k + 42)) 0 966) (fun k => σ 4 (k - 42 * (σ 0 8 - 1))) (42 * (σ 0 8 - 1)) (42 * (σ 0 8 - 1) + 42) else over (σ 6) (fun k => σ 4 (k - 42 * σ 0 8)) (42 * σ 0 8) (42 * σ 0 8 + 42)
def kepN (σ : Mem) : Int := if σ 0 8 = 24 then σ 0 8 - 1 + 1 else σ 0 8 + 1
theorem mr_mu_c {σ : Mem} {k k' j v : Int} {f : Int → Int} (h : k ≠ k') : mr (mu σ k j v) k' f = mu (mr σ k' f) k j v := by
  funext a b
  simp only [mu_app, mr_app]
  by_cases h1 : a = k' <;> by_cases h2 : a = k ∧ b = j <;> simp [h1, h2] <;> (intro h3; omega)
def sedF (seed k : Int) : Int := ((seed * 16807).tmod 2147483647).tmod k
theorem sed_in {seed : Int} (h : 1 ≤ seed) : 0 ≤ (seed * 16807).tmod 2147483647 ∧ (seed * 16807).tmod 2147483647 < 2147483647 := ⟨Int.tmod_nonneg _ (by omega), Int.tmod_lt_of_pos _ (by omega)⟩
theorem sedF_in {seed k : Int} (h : 1 ≤ seed) (hk : 1 ≤ k) : 0 ≤ sedF seed k ∧ sedF seed k < k := ⟨Int.tmod_nonneg _ (sed_in h).1, Int.tmod_lt_of_pos _ (by omega)⟩
theorem toF_in {f : Int → Int} {v l0 : Int} : ∀ i : Nat, -1000000 ≤ toF f v l0 i ∧ toF f v l0 i ≤ i
  | 0 => by simp [toF]
  | i + 1 => by
    have ih := toF_in (f := f) (v := v) (l0 := l0) i
    simp only [toF]
    split <;> omega
def toR (f : Int → Int) (n seed : Int) : Int := toF f (leaB f n (-1000000)) (sedF seed (likO f n)) n.toNat
def rndM (σ : Mem) (t seed : Int) : Mem := mu (mr (mu (mr σ 6 (kepF σ)) 0 8 (kepN σ)) 4 (over (σ 4) (fun x => σ 4 x + coiB (σ 4 1) (σ 4 2) (σ 8) (σ 4 0) (x - 8) (toR (σ 8) (σ 4 2) seed)) 8 (8 + σ 4 2))) 4 (12 + 6 * t + 4) (toR (σ 8) (σ 4 2) seed)
def tolB (tw what : Int) : Int := (if what = 0 then tw else 12).tdiv (Int.gcd tw 12)
theorem gcd_step {x y : Int} (hx : 0 ≤ x) (hy : 0 < y) : Int.gcd y (x.tmod y) = Int.gcd x y := by
  rw [Int.tmod_eq_emod_of_nonneg hx]
  have e : (x % y).natAbs = x.natAbs % y.natAbs := by
    have h1 : ((x % y).natAbs : Int) = ((x.natAbs % y.natAbs : Nat) : Int) := by
      rw [Int.natAbs_of_nonneg (Int.emod_nonneg _ (by omega)), Int.natCast_emod, Int.natAbs_of_nonneg hx, Int.natAbs_of_nonneg (by omega)]
    exact Int.ofNat.inj h1
  unfold Int.gcd
  rw [e, Nat.gcd_comm y.natAbs, ← Nat.gcd_rec, Nat.gcd_comm]
theorem gcd_pos12 (a : Int) : 0 < Int.gcd a 12 ∧ Int.gcd a 12 ≤ 12 := ⟨Int.gcd_pos_of_ne_zero_right _ (by decide), Nat.le_of_dvd (by decide) (Int.gcd_dvd_natAbs_right a 12)⟩
def digF (row : Int) : Nat → Int
  | 0 => row
  | i + 1 => (digF row i).tdiv 6
theorem digF_in {row : Int} (h : 0 ≤ row ∧ row < 1296) : ∀ i : Nat, 0 ≤ digF row i ∧ digF row i < 1296
  | 0 => h
  | i + 1 => by
    have ih := digF_in h i
    simp only [digF]
    rw [Int.tdiv_eq_ediv_of_nonneg ih.1]
    omega
theorem over_stepD {σ : Mem} {k lo hi lo' a v : Int} {f g : Int → Int} (h : lo ≤ hi) (ha : a = lo - 1) (h' : lo' = lo - 1) (hv : v = g a) : mu (mr σ k (over f g lo hi)) k a v = mr σ k (over f g lo' hi) := by
  rw [mu_mr]
  congr 1
  funext x
  unfold ru over
  subst h' hv ha
  by_cases e : x = lo - 1
  · subst e; rw [if_pos rfl, if_pos ⟨by omega, by omega⟩]
  · rw [if_neg e]
    by_cases e2 : lo ≤ x ∧ x < hi
    · rw [if_pos e2, if_pos ⟨by omega, e2.2⟩]
    · rw [if_neg e2, if_neg (fun z => e2 ⟨by omega, z.2⟩)]
def digG (row n : Int) : Int → Int := fun p => (digF row (n - 1 - p).toNat).tmod 6
theorem digG_in {row n : Int} (h : 0 ≤ row ∧ row < 1296) (p : Int) : 0 ≤ digG row n p ∧ digG row n p ≤ 5 := by
  have h1 := digF_in h (n - 1 - p).toNat
  unfold digG
  rw [Int.tmod_eq_emod_of_nonneg h1.1]
  omega
/-- bits: those places where b is 1 -/
def orcF (b : Int → Int) : Nat → Int
  | 0 => 0
  | i + 1 => oOr (orcF b i) (if b i = 1 then oShl 1 i else 0)

/-! the calls' helpers -/
def crC (σ : Mem) : Nat → Int
  | 0 => 0
  | i + 1 => if σ (44 + i) 1 = 0 then crC σ i + 1 else crC σ i
def ofC (a b : Int) : Nat → Int
  | 0 => 1
  | i + 1 => if 2 ≤ i then (if a.tmod i = 0 then (if b.tmod i = 0 then i else ofC a b i) else ofC a b i) else 1
theorem ofC_in {a b : Int} : ∀ i : Nat, 1 ≤ ofC a b i ∧ ofC a b i ≤ i + 1 := by
  intro i
  induction i with
  | zero => unfold ofC; omega
  | succ i ih => unfold ofC; (repeat' split) <;> omega
def frR (a b w : Int) : Int := if w = 0 then a.tdiv (ofC a b (b + 1).toNat) else b.tdiv (ofC a b (b + 1).toNat)
theorem tmod_R3 {a b : Int} (ha : R3 a) (hb : 0 < b) : R3 (a.tmod b) := by
  have h2 : (a.tmod b).natAbs ≤ a.natAbs := by rw [Int.natAbs_tmod]; exact Nat.mod_le _ _
  have h5 : 0 ≤ a → 0 ≤ a.tmod b := fun h => Int.tmod_nonneg b h
  have h6 : a ≤ 0 → 0 ≤ (-a).tmod b := fun h => Int.tmod_nonneg b (by omega)
  rw [Int.neg_tmod] at h6
  obtain ⟨h3, h4⟩ := ha
  constructor <;> omega

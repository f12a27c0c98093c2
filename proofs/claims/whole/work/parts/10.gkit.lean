/-! THE SMALL MACHINE G: one fixed world of cells (numbered by whole numbers, at addresses 'ad'), ints and longs as whole numbers. A row an instruction, over the kit's rows. -/
abbrev Mem : Type := Int → Int → Int
def iI (a : Int) : Int32 := Int32.ofInt a
def lI (a : Int) : Int64 := Int64.ofInt a
abbrev R3 (a : Int) : Prop := -2147483648 ≤ a ∧ a < 2147483648
abbrev R6 (a : Int) : Prop := -9223372036854775808 ≤ a ∧ a < 9223372036854775808
theorem iI_add (a b : Int) : iI a + iI b = iI (a + b) := by simp [iI, Int32.ofInt_add]
theorem iI_sub (a b : Int) : iI a - iI b = iI (a - b) := by simp [iI, Int32.ofInt_sub]
theorem iI_mul (a b : Int) : iI a * iI b = iI (a * b) := by simp [iI, Int32.ofInt_mul]
theorem iI_neg (a : Int) : -iI a = iI (-a) := by simp [iI, Int32.ofInt_neg]
theorem lI_add (a b : Int) : lI a + lI b = lI (a + b) := by simp [lI, Int64.ofInt_add]
theorem lI_sub (a b : Int) : lI a - lI b = lI (a - b) := by simp [lI, Int64.ofInt_sub]
theorem lI_mul (a b : Int) : lI a * lI b = lI (a * b) := by simp [lI, Int64.ofInt_mul]
theorem iI_toInt {a : Int} (h : R3 a) : (iI a).toInt = a := by
  unfold iI
  rw [Int32.toInt_ofInt]
  exact Int.bmod_eq_of_le (by obtain ⟨h1, h2⟩ := h; simp [Int32.size]; omega) (by obtain ⟨h1, h2⟩ := h; simp [Int32.size]; omega)
theorem lI_toInt {a : Int} (h : R6 a) : (lI a).toInt = a := by
  unfold lI
  rw [Int64.toInt_ofInt]
  exact Int.bmod_eq_of_le (by obtain ⟨h1, h2⟩ := h; simp [Int64.size]; omega) (by obtain ⟨h1, h2⟩ := h; simp [Int64.size]; omega)
theorem iI_of (x : Int32) : iI x.toInt = x := by simp [iI]
theorem lI_of (x : Int64) : lI x.toInt = x := by simp [lI]
theorem iI_rng (x : Int32) : R3 x.toInt := ⟨by have := Int32.le_toInt x; simpa using this, by have := Int32.toInt_lt x; simpa using this⟩
theorem lI_rng (x : Int64) : R6 x.toInt := ⟨by have := Int64.le_toInt x; simpa using this, by have := Int64.toInt_lt x; simpa using this⟩
theorem iI_lt {a b : Int} (ha : R3 a) (hb : R3 b) : iI a < iI b ↔ a < b := by rw [Int32.lt_iff_toInt_lt, iI_toInt ha, iI_toInt hb]
theorem iI_le {a b : Int} (ha : R3 a) (hb : R3 b) : iI a ≤ iI b ↔ a ≤ b := by rw [Int32.le_iff_toInt_le, iI_toInt ha, iI_toInt hb]
theorem iI_eq {a b : Int} (ha : R3 a) (hb : R3 b) : iI a = iI b ↔ a = b := ⟨fun h => by rw [← iI_toInt ha, ← iI_toInt hb, h], fun h => by rw [h]⟩
theorem lI_lt {a b : Int} (ha : R6 a) (hb : R6 b) : lI a < lI b ↔ a < b := by rw [Int64.lt_iff_toInt_lt, lI_toInt ha, lI_toInt hb]
theorem lI_eq {a b : Int} (ha : R6 a) (hb : R6 b) : lI a = lI b ↔ a = b := ⟨fun h => by rw [← lI_toInt ha, ← lI_toInt hb, h], fun h => by rw [h]⟩
theorem iI_cl {a : Int} (ha : R3 a) : (iI a).toNatClampNeg = a.toNat := by
  show (iI a).toInt.toNat = a.toNat
  rw [iI_toInt ha]
theorem iI_in {a : Int} {n : Nat} (h0 : 0 ≤ a) (h1 : a < n) (hn : R3 a) : vp_in (iI a) n := by
  rw [vp_in_iff, iI_toInt hn]
  exact ⟨h0, h1⟩
theorem iI_l {a : Int} (h : R3 a) : (iI a).toInt64 = lI a := by
  rw [← Int64.toInt_inj, Int32.toInt_toInt64, iI_toInt h, lI_toInt ⟨by omega, by omega⟩]
theorem r3_0 : R3 0 := ⟨by omega, by omega⟩
theorem iI_0 : iI 0 = 0 := rfl
theorem iI_lt0 {a : Int} (ha : R3 a) : iI a < 0 ↔ a < 0 := iI_lt ha r3_0
theorem iI_eq0 {a : Int} (ha : R3 a) : iI a = 0 ↔ a = 0 := iI_eq ha r3_0
theorem iI_0lt {a : Int} (ha : R3 a) : 0 < iI a ↔ 0 < a := iI_lt r3_0 ha
theorem iI_0le {a : Int} (ha : R3 a) : 0 ≤ iI a ↔ 0 ≤ a := iI_le r3_0 ha
theorem iI_le0 {a : Int} (ha : R3 a) : iI a ≤ 0 ↔ a ≤ 0 := iI_le ha r3_0
theorem iI_div {a b : Int} (ha : R3 a) (hb : R3 b) (h : b ≠ 0) (h2 : R3 (a.tdiv b)) : iI a / iI b = iI (a.tdiv b) := by
  rw [← Int32.toInt_inj, Int32.toInt_div, iI_toInt ha, iI_toInt hb, iI_toInt h2]
  exact Int.bmod_eq_of_le (by obtain ⟨h1, h2⟩ := h2; omega) (by obtain ⟨h1, h2⟩ := h2; omega)
theorem lI_div {a b : Int} (ha : R6 a) (hb : R6 b) (h : b ≠ 0) (h2 : R6 (a.tdiv b)) : lI a / lI b = lI (a.tdiv b) := by
  rw [← Int64.toInt_inj, Int64.toInt_div, lI_toInt ha, lI_toInt hb, lI_toInt h2]
  exact Int.bmod_eq_of_le (by obtain ⟨h1, h2⟩ := h2; omega) (by obtain ⟨h1, h2⟩ := h2; omega)
/-! memory: a cell's places; one place anew, one cell anew -/
def mr (σ : Mem) (k : Int) (f : Int → Int) : Mem := fun k' => if k' = k then f else σ k'
def ru (f : Int → Int) (j v : Int) : Int → Int := fun j' => if j' = j then v else f j'
def mu (σ : Mem) (k j v : Int) : Mem := mr σ k (ru (σ k) j v)
theorem mu_app (σ : Mem) (k j v k' j' : Int) : mu σ k j v k' j' = if k' = k ∧ j' = j then v else σ k' j' := by
  unfold mu mr ru
  by_cases h : k' = k
  · subst h; by_cases h2 : j' = j
    · simp [h2]
    · simp [h2]
  · simp [h]
theorem mu_s (σ : Mem) (k j v : Int) : mu σ k j v k j = v := by simp [mu_app]
theorem mu_k {σ : Mem} {k j v k' j' : Int} (h : k' ≠ k) : mu σ k j v k' j' = σ k' j' := by simp [mu_app, h]
theorem mu_j {σ : Mem} {k j v k' j' : Int} (h : j' ≠ j) : mu σ k j v k' j' = σ k' j' := by simp [mu_app, h]
theorem mr_app (σ : Mem) (k : Int) (f : Int → Int) (k' j' : Int) : mr σ k f k' j' = if k' = k then f j' else σ k' j' := by
  unfold mr
  by_cases h : k' = k <;> simp [h]
/-- a row copied into another: places sp .. of f to places dp .. of g -/
def cpy (f g : Int → Int) (sp dp n : Int) : Int → Int := fun j => if dp ≤ j ∧ j < dp + n then f (sp + (j - dp)) else g j
/-! the world -/
def wd (ad : Int → Nat) (NC : Nat) (cf : Int → (Int → Int) → va_E) (σ : Mem) : va_W := (List.range NC).map (fun k : Nat => (ad (k : Int), cf (k : Int) (σ (k : Int))))
section WD
variable {ad : Int → Nat} {NC : Nat} {cf : Int → (Int → Int) → va_E} {σ : Mem}
theorem wd_at {k : Int} (h0 : 0 ≤ k) (h1 : k < (NC : Int)) : (wd ad NC cf σ)[k.toNat]? = some (ad k, cf k (σ k)) := by
  have hk : ((k.toNat : Nat) : Int) = k := Int.toNat_of_nonneg h0
  have hl : k.toNat < NC := by omega
  unfold wd
  rw [List.getElem?_map, List.getElem?_range hl]
  simp only [Option.map_some]
  rw [hk]
theorem wd_in {j : Nat} {q : Nat × va_E} (h : (wd ad NC cf σ)[j]? = some q) : j < NC ∧ q = (ad (j : Int), cf (j : Int) (σ (j : Int))) := by
  unfold wd at h
  rw [List.getElem?_map] at h
  cases hj : (List.range NC)[j]? with
  | none => rw [hj] at h; cases h
  | some i =>
    rw [hj] at h
    obtain ⟨hl, he⟩ := List.getElem?_eq_some_iff.mp hj
    simp at hl he
    subst he
    simp at h
    exact ⟨hl, h.symm⟩
theorem wd_set {k : Int} (h0 : 0 ≤ k) (h1 : k < (NC : Int)) (f : Int → Int) : (wd ad NC cf σ).set k.toNat (ad k, cf k f) = wd ad NC cf (mr σ k f) := by
  have hk : ((k.toNat : Nat) : Int) = k := Int.toNat_of_nonneg h0
  apply List.ext_getElem?
  intro j
  by_cases hj : j < NC
  · have hj1 : (wd ad NC cf (mr σ k f))[j]? = some (ad (j : Int), cf (j : Int) (mr σ k f (j : Int))) := by
      have := wd_at (ad := ad) (NC := NC) (cf := cf) (σ := mr σ k f) (k := (j : Int)) (by omega) (by omega)
      simpa using this
    have hj0 : (wd ad NC cf σ)[j]? = some (ad (j : Int), cf (j : Int) (σ (j : Int))) := by
      have := wd_at (ad := ad) (NC := NC) (cf := cf) (σ := σ) (k := (j : Int)) (by omega) (by omega)
      simpa using this
    rw [hj1]
    by_cases he : j = k.toNat
    · subst he
      rw [List.getElem?_set_self (by simp [wd]; omega), hk]
      simp [mr]
    · rw [List.getElem?_set_ne (Ne.symm he), hj0]
      have hne : (j : Int) ≠ k := by omega
      simp [mr, hne]
  · have e1 : (wd ad NC cf (mr σ k f))[j]? = none := by simp [wd]; omega
    have e2 : ((wd ad NC cf σ).set k.toNat (ad k, cf k f))[j]? = none := by simp [wd]; omega
    rw [e1, e2]
def Apart (ad : Int → Nat) (NC : Nat) : Prop := ∀ i j : Int, 0 ≤ i → i < (NC : Int) → 0 ≤ j → j < (NC : Int) → ad i = ad j → i = j
/-- the cells of the world, and what is made from sz on -/
def gA (ad : Int → Nat) (NC : Nat) (sz : Nat) : Nat → Prop := fun q => (∃ k : Int, 0 ≤ k ∧ k < (NC : Int) ∧ q = ad k) ∨ sz ≤ q
theorem wd_D {A : Nat → Prop} (h : Apart ad NC) (hA : ∀ k : Int, 0 ≤ k → k < (NC : Int) → A (ad k)) : va_D A (wd ad NC cf σ) := by
  refine ⟨fun i j p q hi hj he => ?_, fun k q hk => ?_⟩
  · obtain ⟨h1, rfl⟩ := wd_in hi
    obtain ⟨h2, rfl⟩ := wd_in hj
    have := h (i : Int) (j : Int) (by omega) (by omega) (by omega) (by omega) he
    omega
  · obtain ⟨h1, rfl⟩ := wd_in hk
    exact hA _ (by omega) (by omega)
end WD
/-! the machine's part of a method's walk, in one bundle -/
abbrev GM : Type := (Program × Launch × Env × Room) × (State × MethodId × Array Value × List Frame) × (Method × Code × Nat) × ((State → Prop) × va_G × (Nat → Prop))
def gtys (K : Nat → ClassId) : List (ClassId × FieldType) := [(K 0, .int), (K 1, .boolean), (K 2, .object "LeastWants$Row"), (K 3, .object "LeastWants$Town")]
def rmd (d : Nat) : Room := { frames := d, cells := 0, slots := 0, locals := 40 * d }
def gw (y : MethodName) (bytes : ByteArray) (maxL : Nat) (ret : Option FieldType) : List Cond := Cond.code y bytes maxL ret :: gWs
def gEnv : Type := (Nat → Prop) → State → Heap → Prop
/-- what a method's surroundings must be to stay: read-only cells outside the world -/
def gEok (E : gEnv) : Prop := (∀ (A : Nat → Prop) (u U : State) (H : Heap), U.vm = u.vm → E A u H → E A U H) ∧ (∀ (A : Nat → Prop) (U : State) (H H1 : Heap), E A U H → (∀ a : Nat, a < H.size → ¬ A a → H1[a]? = H[a]?) → E A U H1) ∧ (∀ (A B : Nat → Prop) (U : State) (H : Heap), E A U H → (∀ q, B q → A q) → E B U H) ∧ (∀ (A : Nat → Prop) (s U : State) (H : Heap), s.WarmedH U.vm → E A s H → E A U H)
def Good (l : Launch) (K : Nat → ClassId) (D : va_G) (ad : Int → Nat) (NC : Nat) (E : gEnv) (d : Nat) (cc : ByteArray) (own : String) (M : GM) : Prop :=
  M.1.1.tables.exec = Jvm.exec ∧ M.2.2.1.2.1.code = cc ∧ M.2.2.1.2.1.maxLocals = M.2.2.1.2.2 ∧ M.2.1.1.vm.findClass own = some M.2.1.2.1.cls ∧ (∀ w ∈ gWs, w.before M.2.1.2.2.1 M.2.1.1 = true) ∧ va_K D vwCl (gtys K) M.2.1.1 ∧ Apart ad NC ∧ (∀ k : Int, 0 ≤ k → k < (NC : Int) → M.2.2.2.2.2 (ad k)) ∧ (∀ q, M.2.1.1.heap.size ≤ q → M.2.2.2.2.2 q) ∧ E M.2.2.2.2.2 M.2.1.1 M.2.1.1.heap ∧ M.1.2.2.2 = rmd d ∧ M.1.2.1 = l ∧ M.2.2.2.2.1 = D ∧ gEok E
def G (M : GM) (ad : Int → Nat) (NC : Nat) (cf : Int → (Int → Int) → va_E) (pc : Nat) (lv : List (Nat × Value)) (st : List Value) (σ : Mem) : Prop :=
  ∀ (H : Heap) (locs : List Loc) (ls : Array Slot), va_P M.2.2.2.2.1 vwCl (wd ad NC cf σ) H → va_S M.2.2.2.2.2 M.2.1.1.heap H locs → lv_has ls M.2.2.1.2.2 lv → W M.1.1 M.1.2.1 M.1.2.2.1 M.1.2.2.2 M.2.1.1 M.2.1.2.1 M.2.1.2.2.1 M.2.1.2.2.2 M.2.2.1.1 M.2.2.1.2.1 H locs 0 0 M.2.2.2.1 (F0 M.2.1.2.1 pc ls st)
theorem g_c8 (n : Int) (h : -128 ≤ n ∧ n < 128) : (Int8.ofInt n).toInt32 = iI n := by
  rw [← Int32.toInt_inj, Int8.toInt_toInt32, iI_toInt ⟨by omega, by omega⟩, Int8.toInt_ofInt]
  exact Int.bmod_eq_of_le (by simp [Int8.size]; omega) (by simp [Int8.size]; omega)
theorem g_c16 (n : Int) (h : -32768 ≤ n ∧ n < 32768) : (Int16.ofInt n).toInt32 = iI n := by
  rw [← Int32.toInt_inj, Int16.toInt_toInt32, iI_toInt ⟨by omega, by omega⟩, Int16.toInt_ofInt]
  exact Int.bmod_eq_of_le (by simp [Int16.size]; omega) (by simp [Int16.size]; omega)

section NM2
variable {l : Launch} {K : Nat → ClassId} {D : va_G} {cc : ByteArray} {own : String} {R : Room} {M : GM} {ws ws' : va_W} {kc ks pc : Nat} {lv : List (Nat × Value)} {st : List Value}
theorem n_iinc (C : NGood l K D cc own R M) {i p : Nat} {n : Int} {a v : Int32} {lv' : List (Nat × Value)} (hd : decode cc pc = .ok (.iinc i n, 3)) (hi : i < M.2.2.1.2.2) (hv : lv[p]? = some (i, .int a)) (ha : a + Int32.ofInt n = v) (hl' : (i, Value.int v) :: lv.filter (fun q => !(q.1 == i) && !(q.1 + 1 == i && q.2.category == 2)) = lv') (k : N M ws kc ks (pc + 3) lv' st) : N M ws kc ks pc lv st := fun H locs ls hP hD hS hl => lv_iinc (nd_x C) (nd_b C) hd hl hv ha hi hl' (fun ls' h => k H locs ls' hP hD hS h)
theorem n_geT (C : NGood l K D cc own R M) {a b : Int32} {off : Int} {tgt : Nat} (hd : decode cc pc = .ok (.if_icmp .ge off, 3)) (ht : (pc : Int) + off = (tgt : Int)) (h : b ≤ a) (k : N M ws kc ks tgt lv st) : N M ws kc ks pc lv (.int b :: .int a :: st) := fun H locs ls hP hD hS hl => lv_icmp_ge (nd_x C) (nd_b C) hd ht (fun _ => k H locs ls hP hD hS hl) (fun z => absurd h z)
theorem n_geF (C : NGood l K D cc own R M) {a b : Int32} {off : Int} {tgt : Nat} (hd : decode cc pc = .ok (.if_icmp .ge off, 3)) (ht : (pc : Int) + off = (tgt : Int)) (h : ¬ b ≤ a) (k : N M ws kc ks (pc + 3) lv st) : N M ws kc ks pc lv (.int b :: .int a :: st) := fun H locs ls hP hD hS hl => lv_icmp_ge (nd_x C) (nd_b C) hd ht (fun z => absurd z h) (fun _ => k H locs ls hP hD hS hl)
theorem n_assoc {a b c : va_W} (k : N M (a ++ (b ++ c)) kc ks pc lv st) : N M ((a ++ b) ++ c) kc ks pc lv st := by rw [List.append_assoc]; exact k
end NM2
/-- two cells of the same content -/
def EqE (e e' : va_E) : Prop := e = e' ∨ (∃ (c : ClassId) (n : Nat) (f f' : Nat → Int32), e = .inl (c, n, .inl f) ∧ e' = .inl (c, n, .inl f') ∧ ∀ j, j < n → f j = f' j) ∨ ∃ (c : ClassId) (n : Nat) (f f' : Nat → Option Nat), e = .inl (c, n, .inr (.inr (.inr (.inr f)))) ∧ e' = .inl (c, n, .inr (.inr (.inr (.inr f')))) ∧ ∀ j, j < n → f j = f' j
theorem arrV_ext {c : ClassId} {n : Nat} {f f' : Nat → Value} (h : ∀ j, j < n → f j = f' j) : arrV c n f = arrV c n f' := by
  unfold arrV
  congr 1
  congr 1
  funext j
  exact h j.val j.isLt
theorem va_at_eq {D : va_G} {cl : List vw_C} {a : Nat} {e e' : va_E} {H : Heap} (h : va_at D cl (a, e) H) (he : EqE e e') : va_at D cl (a, e') H := by
  rcases he with rfl | ⟨c, n, f, f', rfl, rfl, hf⟩ | ⟨c, n, f, f', rfl, rfl, hf⟩
  · exact h
  · have h1 : H[a]? = some (vp_cell c (n, .inl f)) := h
    show H[a]? = some (vp_cell c (n, .inl f'))
    rw [h1, vp_cell_i, vp_cell_i, arrV_ext (fun j hj => by rw [hf j hj])]
  · have h1 : H[a]? = some (vp_cell c (n, .inr (.inr (.inr (.inr f))))) := h
    show H[a]? = some (vp_cell c (n, .inr (.inr (.inr (.inr f')))))
    rw [h1, vp_cell_q, vp_cell_q, arrV_ext (fun j hj => by rw [hf j hj])]
theorem conv {D : va_G} {cl : List vw_C} {ws : va_W} {H : Heap} {A : Nat → Prop} {ad : Int → Nat} {NC : Nat} {cf : Int → (Int → Int) → va_E} {σ : Mem} (hP : va_P D cl ws H) (hD : va_D A ws) (g : Nat → Nat) (hg : ∀ k : Nat, k < NC → ∃ e : va_E, ws[g k]? = some (ad (k : Int), e) ∧ EqE e (cf (k : Int) (σ (k : Int)))) (hi : ∀ i, i < NC → ∀ j, j < NC → g i = g j → i = j) : va_P D cl (wd ad NC cf σ) H ∧ Apart ad NC ∧ ∀ k : Int, 0 ≤ k → k < (NC : Int) → A (ad k) := by
  refine ⟨fun j q hq => ?_, fun i j i0 i1 j0 j1 he => ?_, fun k k0 k1 => ?_⟩
  · obtain ⟨h1, rfl⟩ := wd_in hq
    obtain ⟨e, e1, e2⟩ := hg j h1
    exact va_at_eq (hP _ _ e1) e2
  · obtain ⟨e, e1, -⟩ := hg i.toNat (by omega)
    obtain ⟨f, f1, -⟩ := hg j.toNat (by omega)
    rw [show ((i.toNat : Nat) : Int) = i by omega] at e1
    rw [show ((j.toNat : Nat) : Int) = j by omega] at f1
    have := hi i.toNat (by omega) j.toNat (by omega) (hD.1 _ _ _ _ e1 f1 he)
    omega
  · obtain ⟨e, e1, -⟩ := hg k.toNat (by omega)
    rw [show ((k.toNat : Nat) : Int) = k by omega] at e1
    exact hD.2 _ _ e1
def mem0M : Mem := fun k _ => if k = 1 then -1 else 0
def mem0C : Mem := fun k j => if k = 0 then (if j = 8 then 22 else if j = 9 then 23 else 0) else if 44 ≤ k ∧ k < 52 then (if j = 1 then 1 else 0) else 0

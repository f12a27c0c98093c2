/-! what the start gives: classes, arrays, nest mates, tables, strings -/
def fgN : Cond := Jvm.Cond.and given_1 narrow_1
def tmS (i : Nat) : Term := .string "LeastWants$Reader" (ixS.getD i 0)
def vaS (i : Nat) : Term := .field (tmS i) "java/lang/String" "value" "[B"
theorem fx_ex : ∀ i, i < 8 → Cond.exactly (tmS i) "java/lang/String" ∈ flatC fgN := by decide +kernel
theorem fx_co : ∀ i, i < 8 → Cond.eq (.field (tmS i) "java/lang/String" "coder" "B") (.int 0) ∈ flatC fgN := by decide +kernel
theorem fx_ar : ∀ i, i < 8 → Cond.arrayOf (vaS i) .byte ∈ flatC fgN := by decide +kernel
theorem fx_le : ∀ i, i < 8 → Cond.eq (.length (vaS i)) (.int (Int32.ofNat (lenS.getD i 0))) ∈ flatC fgN := by decide +kernel
theorem fx_el : ∀ i, i < 8 → ∀ j, j < lenS.getD i 0 → Cond.eq (.elem (vaS i) (.int (Int32.ofNat j))) (.int ((bytS.getD i []).getD j 0)) ∈ flatC fgN := by decide +kernel
theorem fx_ne : ∀ i, i < 8 → ∀ j, j < 8 → i ≠ j → Cond.not (Cond.eq (tmS i) (tmS j)) ∈ flatC fgN ∨ Cond.not (Cond.eq (tmS j) (tmS i)) ∈ flatC fgN := by decide +kernel
def tnS (k : Nat) : String := ["NEAREST", "SIZE_BODIES", "MARK_BODIES"].getD k ""
def tlS (k : Nat) : List Int := [nearL, sizeL, markL].getD k []
def tbS (k : Nat) : Term := .static "LeastWants$Asking" (tnS k) "[I"
theorem ft_ar : ∀ k, k < 3 → Cond.arrayOf (tbS k) .int ∈ flatC fgN := by decide +kernel
theorem ft_le : ∀ k, k < 3 → Cond.eq (.length (tbS k)) (.int (Int32.ofNat 6)) ∈ flatC fgN := by decide +kernel
theorem ft_el : ∀ k, k < 3 → ∀ j, j < 6 → Cond.eq (.elem (tbS k) (.int (Int32.ofNat j))) (.int (iI ((tlS k).getD j 0))) ∈ flatC fgN := by decide +kernel
theorem ft_cs : Cond.eq (.static "java/lang/String" "COMPACT_STRINGS" "Z") (.int 1) ∈ flatC fgN := by decide +kernel
theorem ft_sf : Cond.isRef (.static "jdk/internal/util/Preconditions" "SIOOBE_FORMATTER" "Ljava/util/function/BiFunction;") ∈ flatC fgN := by decide +kernel
theorem ft_ls : ∀ k, k < 3 → Cond.laysStatic "LeastWants$Asking" (tnS k) "[I" ∈ lw_tbl := by decide +kernel
theorem ft_l1 : Cond.laysStatic "java/lang/String" "COMPACT_STRINGS" "Z" ∈ lw_tbl := by decide +kernel
theorem ft_l2 : Cond.laysStatic "jdk/internal/util/Preconditions" "SIOOBE_FORMATTER" "Ljava/util/function/BiFunction;" ∈ lw_tbl := by decide +kernel
theorem ft_sr : ∀ i, i < 8 → Cond.stringRef "LeastWants$Reader" (ixS.getD i 0) (txS.getD i "") ∈ lw_tbl := by decide +kernel
theorem lenS_s : ∀ i, i < 8 → lenS.getD i 0 < 2 ^ 31 := by decide +kernel
theorem env_start {args : Array Value} {s : State} (hg : fgN.before args s = true) (hts : ∀ w ∈ lw_tbl, w.before args s = true) : ∃ P : cP, cE P (fun q => s.heap.size ≤ q) s s.heap := by
  have hs := flat_of_before _ hg
  have hA : ∀ a : Nat, a < s.heap.size → ¬ (fun q => s.heap.size ≤ q) a := fun a h z => absurd h (Nat.not_lt.mpr z)
  have ht : ∀ k, k < 3 → ∃ t : Nat, va_Z "LeastWants$Asking" (tnS k) "[I" (.ref t) (fun q => s.heap.size ≤ q) s s.heap ∧ va_T .int t 6 (tabV (tlS k)) (fun q => s.heap.size ≤ q) s s.heap := by
    intro k hk
    obtain ⟨t, e, hT⟩ := va_Tof (f := tabV (tlS k)) (A := fun q => s.heap.size ≤ q) (by decide) (hs _ (ft_ar k hk)) (va_eqt (hs _ (ft_le k hk))) (fun j hj => va_eqt (hs _ (ft_el k hk j hj))) hA
    exact ⟨t, va_Zof (hts _ (ft_ls k hk)) (hts _ (gWs_tbl _ wi_X1)) e hA, hT⟩
  obtain ⟨t0, z0, a0⟩ := ht 0 (by decide)
  obtain ⟨t1, z1, a1⟩ := ht 1 (by decide)
  obtain ⟨t2, z2, a2⟩ := ht 2 (by decide)
  have zc := va_Zof (A := fun q => s.heap.size ≤ q) (hts _ ft_l1) (hts _ (gWs_tbl _ wi_J0)) (va_eqt (hs _ ft_cs)) hA
  obtain ⟨v, ev, hv⟩ := Cond.isRef_spec (hs _ ft_sf)
  have zf := va_Zof (A := fun q => s.heap.size ≤ q) (hts _ ft_l2) (hts _ (gWs_tbl _ wi_J3)) ev hA
  obtain ⟨n, hn⟩ : ∃ n : Nat, v = sfV n := by
    cases v with
    | ref a => exact ⟨a + 1, by unfold sfV; rw [if_neg (by omega), Nat.add_sub_cancel]⟩
    | null => exact ⟨0, rfl⟩
    | _ => simp [Value.isRef] at hv
  rw [hn] at zf
  obtain ⟨adK, adV, hS, hK⟩ := vk_Sof (args := args) (s := s) (N := 8) (tm := tmS) (len := lenS) (byt := bytS) (A := fun q => s.heap.size ≤ q) lenS_s (fun i hi => hs _ (fx_ex i hi)) (fun i hi => hs _ (fx_co i hi)) (fun i hi => hs _ (fx_ar i hi)) (fun i hi => hs _ (fx_le i hi)) (fun i hi j hj => hs _ (fx_el i hi j hj)) (fun i j hi hj hij => (fx_ne i hi j hj hij).imp (fun h => hs _ h) (fun h => hs _ h)) hA
  exact ⟨((t0, t1, t2, n), adK, adV), ⟨⟨z0, a0⟩, ⟨z1, a1⟩, z2, a2⟩, ⟨zc, zf, hS⟩, fun i hi => vk_R.of (hts _ (ft_sr i hi)) (hK i hi)⟩
theorem K_start {args : Array Value} {s : State} (hts : ∀ w ∈ lw_tbl, w.before args s = true) : ∃ (K : Nat → ClassId) (D : va_G), va_K D vwCl (gtys K) s ∧ NW s := by
  have hg : ∀ w ∈ gWs, w.before args s = true := fun w h => hts w (gWs_tbl w h)
  have hc : ∀ c : Nat, ∃ p : ClassId × (Nat → Nat), ∀ q : vw_C, vwCl[c]? = some q → u_Kn s q.1 q.2.1 q.2.2 p.1 p.2 := by
    intro c
    have key : ∀ {C : String} {T : u_T} {Nf n : Nat}, (∀ w ∈ u_ws C T Nf, w ∈ gWs) → Cond.instantiable C n ∈ gWs → vwCl[c]? = some (C, T, Nf) → ∃ p : ClassId × (Nat → Nat), ∀ q : vw_C, vwCl[c]? = some q → u_Kn s q.1 q.2.1 q.2.2 p.1 p.2 := by
      intro C T Nf n h1 h2 h3
      obtain ⟨cC, iS, hK⟩ := u_known (ws := gWs) hg h1 (hg _ h2)
      refine ⟨(cC, iS), fun q hq => ?_⟩
      rw [h3] at hq
      cases hq
      exact hK
    by_cases hl : c < 10
    · rcases (show c = 0 ∨ c = 1 ∨ c = 2 ∨ c = 3 ∨ c = 4 ∨ c = 5 ∨ c = 6 ∨ c = 7 ∨ c = 8 ∨ c = 9 by omega) with rfl | rfl | rfl | rfl | rfl | rfl | rfl | rfl | rfl | rfl
      · exact key inX0 wn_X0 rfl
      · exact key inX1 wn_X1 rfl
      · exact key inX2 wn_X2 rfl
      · exact key inX3 wn_X3 rfl
      · exact key inX4 wn_X4 rfl
      · exact key inX5 wn_X5 rfl
      · exact key inX6 wn_X6 rfl
      · exact key inX7 wn_X7 rfl
      · exact key inX8 wn_X8 rfl
      · exact key inX9 wn_X9 rfl
    · refine ⟨(0, fun _ => 0), fun q hq => ?_⟩
      have := (List.getElem?_eq_some_iff.mp hq).1
      exact absurd this hl
  obtain ⟨d, hd⟩ := Classical.axiomOfChoice hc
  obtain ⟨c0, k0, p0, a1, a2, a3⟩ := Cond.arrayClass_spec (hg _ wa_I)
  obtain ⟨c1, k1, p1, b1, b2, b3⟩ := Cond.arrayClass_spec (hg _ wa_Z)
  obtain ⟨p2, c2, k2, d1, d2, d3, d4, d5⟩ := Cond.arrayOver_spec (hts _ wa_R)
  obtain ⟨p3, c3, k3, e1, e2, e3, e4, e5⟩ := Cond.arrayOver_spec (hts _ wa_T)
  refine ⟨fun i => [c0, c1, c2, c3].getD i c0, (fun c => (d c).1, fun c => (d c).2), ⟨fun c q hq => hd c q hq, fun k q hk => ?_⟩, ?_⟩
  · have hl : k < 4 := (List.getElem?_eq_some_iff.mp hk).1
    rcases (show k = 0 ∨ k = 1 ∨ k = 2 ∨ k = 3 by omega) with rfl | rfl | rfl | rfl <;> cases hk
    · exact ⟨fun n z => ⟨(fun k h => by cases h), k0, a2, p0, a3⟩, a1⟩
    · exact ⟨fun n z => ⟨(fun k h => by cases h), k1, b2, p1, b3⟩, b1⟩
    · exact ⟨fun n z => ⟨(fun k h => by cases h), k2, d3, p2, d4⟩, k2, p2, d3, d4, d1, d5⟩
    · exact ⟨fun n z => ⟨(fun k h => by cases h), k3, e3, p3, e4⟩, k3, p3, e3, e4, e1, e5⟩
  · have nw : ∀ {a : String} {i : Nat} {x : MethodName} {h : String}, Cond.methodLinkNest a i x h ∈ lw_tbl → va_Nw (.methodLinkNest a i x h) s := fun h => va_Nw.of rfl (hts _ h)
    exact ⟨⟨nw wn_X8_15, nw wn_X8_22, nw wn_X8_25, nw wn_X8_32, nw wn_X8_39⟩, ⟨nw wn_X8_46, nw wn_X8_53, nw wn_X8_60, nw wn_X2_19, nw wn_X2_26⟩, va_AO.of (hts _ wa_R), va_AO.of (hts _ wa_T)⟩

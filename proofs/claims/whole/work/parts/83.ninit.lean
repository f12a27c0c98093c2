def oX5 (K : Nat → ClassId) (h0 : Nat) (q : Nat → Nat) : va_W := [(h0, .inr (5, [.ref (q 0), .int 1, .int 0, .int 0])), (q 0, .inl (K 0, 40, .inl (fun _ => 0)))]
set_option maxRecDepth 100000 in
theorem kN_X5 (l : Launch) (K : Nat → ClassId) (D : va_G) : CtN l K D yX5_init cX5_init 1 ({ frames := 1, cells := 1, slots := 40, locals := 40 } : Room) 5 [.null, .int 0, .int 0, .int 0] (Nat → Nat) (fun h0 A u t => va_P D vwCl (oX5 K h0 u) t.heap ∧ va_D A (oX5 K h0 u)) := by
  refine n_start (by decide) rfl (by decide) (fun h0 M C hn hini hret => ?_)
  have C : NGood l K D cX5_init RX5 ({ frames := 1, cells := 1, slots := 40, locals := 40 } : Room) M := C
  refine n_aload_n C dX5_init_0 (p := 0) rfl rfl ?_
  refine n_objinit C wl_X5_1 ⟨by decide, by decide⟩ (by decide) dX5_init_1 ?_
  refine n_aload_n C dX5_init_4 (p := 0) rfl rfl ?_
  refine n_bipush C (v := 40) dX5_init_5 (by decide) ?_
  refine n_newa C (ty := .int) (t := 0) (N' := 40) wa_I rfl rfl (fun _ _ h => h) (fun _ => rfl) (by decide) (by decide) (by decide) ⟨by decide, by decide⟩ dX5_init_7 (fun q1 => ?_)
  refine n_eq (ws' := [(h0, .inr (5, [.null, .int 0, .int 0, .int 0])), (q1, .inl (K 0, 40, .inl (fun _ => 0)))]) rfl ?_
  refine n_putF C (q0 := 0) dX5_init_9 hini rfl rfl inX5 tyX5_ok nmX5 (j := 0) (ty := (.array .int)) (by decide) wf_X5_9 rfl rfl rfl (by decide +kernel) rfl rfl (Nat.le_of_ble_eq_true rfl) ?_
  refine n_eq (ws' := [(h0, .inr (5, [.ref q1, .int 0, .int 0, .int 0])), (q1, .inl (K 0, 40, .inl (fun _ => 0)))]) rfl ?_
  refine n_aload_n C dX5_init_12 (p := 0) rfl rfl ?_
  refine n_iconst C (v := 1) dX5_init_13 (by decide) ?_
  refine n_put C (q0 := 0) dX5_init_14 rfl rfl inX5 tyX5_ok nmX5 (j := 1) (ty := .boolean) (by decide) wf_X5_13 rfl rfl (by decide +kernel) rfl rfl (Nat.le_of_ble_eq_true rfl) ?_
  refine n_eq (ws' := [(h0, .inr (5, [.ref q1, .int 1, .int 0, .int 0])), (q1, .inl (K 0, 40, .inl (fun _ => 0)))]) rfl ?_
  exact hret _ _ _ (fun k => [q1].getD k 0) dX5_init_17 (fun t hP hD => ⟨hP, hD⟩)
def oX7 (K : Nat → ClassId) (h0 : Nat) (q : Nat → Nat) : va_W := [(h0, .inr (7, [.int 0, .int 0, .int 0, .int 0, .ref (q 0), .ref (q 1), .ref (q 2), .ref (q 3), .ref (q 4)])), (q 0, .inl (K 0, 4, .inl (fun _ => 0))), (q 1, .inl (K 0, 4, .inl (fun _ => 0))), (q 2, .inl (K 0, 20, .inl (fun _ => 0))), (q 3, .inl (K 0, 5, .inl (fun _ => 0))), (q 4, .inl (K 0, 5, .inl (fun _ => 0)))]
set_option maxRecDepth 100000 in
theorem kN_X7 (l : Launch) (K : Nat → ClassId) (D : va_G) : CtN l K D yX7_init cX7_init 1 ({ frames := 1, cells := 5, slots := 38, locals := 40 } : Room) 7 [.int 0, .int 0, .int 0, .int 0, .null, .null, .null, .null, .null] (Nat → Nat) (fun h0 A u t => va_P D vwCl (oX7 K h0 u) t.heap ∧ va_D A (oX7 K h0 u)) := by
  refine n_start (by decide) rfl (by decide) (fun h0 M C hn hini hret => ?_)
  have C : NGood l K D cX7_init RX7 ({ frames := 1, cells := 5, slots := 38, locals := 40 } : Room) M := C
  refine n_aload_n C dX7_init_0 (p := 0) rfl rfl ?_
  refine n_objinit C wl_X7_3 ⟨by decide, by decide⟩ (by decide) dX7_init_1 ?_
  refine n_aload_n C dX7_init_4 (p := 0) rfl rfl ?_
  refine n_iconst C (v := 4) dX7_init_5 (by decide) ?_
  refine n_newa C (ty := .int) (t := 0) (N' := 4) wa_I rfl rfl (fun _ _ h => h) (fun _ => rfl) (by decide) (by decide) (by decide) ⟨by decide, by decide⟩ dX7_init_6 (fun q1 => ?_)
  refine n_eq (ws' := [(h0, .inr (7, [.int 0, .int 0, .int 0, .int 0, .null, .null, .null, .null, .null])), (q1, .inl (K 0, 4, .inl (fun _ => 0)))]) rfl ?_
  refine n_putF C (q0 := 0) dX7_init_8 hini rfl rfl inX7 tyX7_ok nmX7 (j := 4) (ty := (.array .int)) (by decide) wf_X7_11 rfl rfl rfl (by decide +kernel) rfl rfl (Nat.le_of_ble_eq_true rfl) ?_
  refine n_eq (ws' := [(h0, .inr (7, [.int 0, .int 0, .int 0, .int 0, .ref q1, .null, .null, .null, .null])), (q1, .inl (K 0, 4, .inl (fun _ => 0)))]) rfl ?_
  refine n_aload_n C dX7_init_11 (p := 0) rfl rfl ?_
  refine n_iconst C (v := 4) dX7_init_12 (by decide) ?_
  refine n_newa C (ty := .int) (t := 0) (N' := 4) wa_I rfl rfl (fun _ _ h => h) (fun _ => rfl) (by decide) (by decide) (by decide) ⟨by decide, by decide⟩ dX7_init_13 (fun q2 => ?_)
  refine n_eq (ws' := [(h0, .inr (7, [.int 0, .int 0, .int 0, .int 0, .ref q1, .null, .null, .null, .null])), (q1, .inl (K 0, 4, .inl (fun _ => 0))), (q2, .inl (K 0, 4, .inl (fun _ => 0)))]) rfl ?_
  refine n_putF C (q0 := 0) dX7_init_15 hini rfl rfl inX7 tyX7_ok nmX7 (j := 5) (ty := (.array .int)) (by decide) wf_X7_15 rfl rfl rfl (by decide +kernel) rfl rfl (Nat.le_of_ble_eq_true rfl) ?_
  refine n_eq (ws' := [(h0, .inr (7, [.int 0, .int 0, .int 0, .int 0, .ref q1, .ref q2, .null, .null, .null])), (q1, .inl (K 0, 4, .inl (fun _ => 0))), (q2, .inl (K 0, 4, .inl (fun _ => 0)))]) rfl ?_
  refine n_aload_n C dX7_init_18 (p := 0) rfl rfl ?_
  refine n_bipush C (v := 20) dX7_init_19 (by decide) ?_
  refine n_newa C (ty := .int) (t := 0) (N' := 20) wa_I rfl rfl (fun _ _ h => h) (fun _ => rfl) (by decide) (by decide) (by decide) ⟨by decide, by decide⟩ dX7_init_21 (fun q3 => ?_)
  refine n_eq (ws' := [(h0, .inr (7, [.int 0, .int 0, .int 0, .int 0, .ref q1, .ref q2, .null, .null, .null])), (q1, .inl (K 0, 4, .inl (fun _ => 0))), (q2, .inl (K 0, 4, .inl (fun _ => 0))), (q3, .inl (K 0, 20, .inl (fun _ => 0)))]) rfl ?_
  refine n_putF C (q0 := 0) dX7_init_23 hini rfl rfl inX7 tyX7_ok nmX7 (j := 6) (ty := (.array .int)) (by decide) wf_X7_18 rfl rfl rfl (by decide +kernel) rfl rfl (Nat.le_of_ble_eq_true rfl) ?_
  refine n_eq (ws' := [(h0, .inr (7, [.int 0, .int 0, .int 0, .int 0, .ref q1, .ref q2, .ref q3, .null, .null])), (q1, .inl (K 0, 4, .inl (fun _ => 0))), (q2, .inl (K 0, 4, .inl (fun _ => 0))), (q3, .inl (K 0, 20, .inl (fun _ => 0)))]) rfl ?_
  refine n_aload_n C dX7_init_26 (p := 0) rfl rfl ?_
  refine n_iconst C (v := 5) dX7_init_27 (by decide) ?_
  refine n_newa C (ty := .int) (t := 0) (N' := 5) wa_I rfl rfl (fun _ _ h => h) (fun _ => rfl) (by decide) (by decide) (by decide) ⟨by decide, by decide⟩ dX7_init_28 (fun q4 => ?_)
  refine n_eq (ws' := [(h0, .inr (7, [.int 0, .int 0, .int 0, .int 0, .ref q1, .ref q2, .ref q3, .null, .null])), (q1, .inl (K 0, 4, .inl (fun _ => 0))), (q2, .inl (K 0, 4, .inl (fun _ => 0))), (q3, .inl (K 0, 20, .inl (fun _ => 0))), (q4, .inl (K 0, 5, .inl (fun _ => 0)))]) rfl ?_
  refine n_putF C (q0 := 0) dX7_init_30 hini rfl rfl inX7 tyX7_ok nmX7 (j := 7) (ty := (.array .int)) (by decide) wf_X7_21 rfl rfl rfl (by decide +kernel) rfl rfl (Nat.le_of_ble_eq_true rfl) ?_
  refine n_eq (ws' := [(h0, .inr (7, [.int 0, .int 0, .int 0, .int 0, .ref q1, .ref q2, .ref q3, .ref q4, .null])), (q1, .inl (K 0, 4, .inl (fun _ => 0))), (q2, .inl (K 0, 4, .inl (fun _ => 0))), (q3, .inl (K 0, 20, .inl (fun _ => 0))), (q4, .inl (K 0, 5, .inl (fun _ => 0)))]) rfl ?_
  refine n_aload_n C dX7_init_33 (p := 0) rfl rfl ?_
  refine n_iconst C (v := 5) dX7_init_34 (by decide) ?_
  refine n_newa C (ty := .int) (t := 0) (N' := 5) wa_I rfl rfl (fun _ _ h => h) (fun _ => rfl) (by decide) (by decide) (by decide) ⟨by decide, by decide⟩ dX7_init_35 (fun q5 => ?_)
  refine n_eq (ws' := [(h0, .inr (7, [.int 0, .int 0, .int 0, .int 0, .ref q1, .ref q2, .ref q3, .ref q4, .null])), (q1, .inl (K 0, 4, .inl (fun _ => 0))), (q2, .inl (K 0, 4, .inl (fun _ => 0))), (q3, .inl (K 0, 20, .inl (fun _ => 0))), (q4, .inl (K 0, 5, .inl (fun _ => 0))), (q5, .inl (K 0, 5, .inl (fun _ => 0)))]) rfl ?_
  refine n_putF C (q0 := 0) dX7_init_37 hini rfl rfl inX7 tyX7_ok nmX7 (j := 8) (ty := (.array .int)) (by decide) wf_X7_24 rfl rfl rfl (by decide +kernel) rfl rfl (Nat.le_of_ble_eq_true rfl) ?_
  refine n_eq (ws' := [(h0, .inr (7, [.int 0, .int 0, .int 0, .int 0, .ref q1, .ref q2, .ref q3, .ref q4, .ref q5])), (q1, .inl (K 0, 4, .inl (fun _ => 0))), (q2, .inl (K 0, 4, .inl (fun _ => 0))), (q3, .inl (K 0, 20, .inl (fun _ => 0))), (q4, .inl (K 0, 5, .inl (fun _ => 0))), (q5, .inl (K 0, 5, .inl (fun _ => 0)))]) rfl ?_
  exact hret _ _ _ (fun k => [q1, q2, q3, q4, q5].getD k 0) dX7_init_40 (fun t hP hD => ⟨hP, hD⟩)
def oX6 (K : Nat → ClassId) (h0 : Nat) (q : Nat → Nat) : va_W := [(h0, .inr (6, [.int 0, .ref (q 0)])), (q 0, .inl (K 0, 4, .inl (fun _ => 0)))]
set_option maxRecDepth 100000 in
theorem kN_X6 (l : Launch) (K : Nat → ClassId) (D : va_G) : CtN l K D yX6_init cX6_init 1 ({ frames := 1, cells := 1, slots := 4, locals := 40 } : Room) 6 [.int 0, .null] (Nat → Nat) (fun h0 A u t => va_P D vwCl (oX6 K h0 u) t.heap ∧ va_D A (oX6 K h0 u)) := by
  refine n_start (by decide) rfl (by decide) (fun h0 M C hn hini hret => ?_)
  have C : NGood l K D cX6_init RX6 ({ frames := 1, cells := 1, slots := 4, locals := 40 } : Room) M := C
  refine n_aload_n C dX6_init_0 (p := 0) rfl rfl ?_
  refine n_objinit C wl_X6_1 ⟨by decide, by decide⟩ (by decide) dX6_init_1 ?_
  refine n_aload_n C dX6_init_4 (p := 0) rfl rfl ?_
  refine n_iconst C (v := 4) dX6_init_5 (by decide) ?_
  refine n_newa C (ty := .int) (t := 0) (N' := 4) wa_I rfl rfl (fun _ _ h => h) (fun _ => rfl) (by decide) (by decide) (by decide) ⟨by decide, by decide⟩ dX6_init_6 (fun q1 => ?_)
  refine n_eq (ws' := [(h0, .inr (6, [.int 0, .null])), (q1, .inl (K 0, 4, .inl (fun _ => 0)))]) rfl ?_
  refine n_putF C (q0 := 0) dX6_init_8 hini rfl rfl inX6 tyX6_ok nmX6 (j := 1) (ty := (.array .int)) (by decide) wf_X6_9 rfl rfl rfl (by decide +kernel) rfl rfl (Nat.le_of_ble_eq_true rfl) ?_
  refine n_eq (ws' := [(h0, .inr (6, [.int 0, .ref q1])), (q1, .inl (K 0, 4, .inl (fun _ => 0)))]) rfl ?_
  exact hret _ _ _ (fun k => [q1].getD k 0) dX6_init_11 (fun t hP hD => ⟨hP, hD⟩)
def oX3 (K : Nat → ClassId) (h0 : Nat) (q : Nat → Nat) : va_W := [(h0, .inr (3, [.int 0, .int 0, .int 0, .int 0, .int 0]))]
set_option maxRecDepth 100000 in
theorem kN_X3 (l : Launch) (K : Nat → ClassId) (D : va_G) : CtN l K D yX3_init cX3_init 1 ({ frames := 1, cells := 0, slots := 0, locals := 40 } : Room) 3 [.int 0, .int 0, .int 0, .int 0, .int 0] (Nat → Nat) (fun h0 A u t => va_P D vwCl (oX3 K h0 u) t.heap ∧ va_D A (oX3 K h0 u)) := by
  refine n_start (by decide) rfl (by decide) (fun h0 M C hn hini hret => ?_)
  have C : NGood l K D cX3_init RX3 ({ frames := 1, cells := 0, slots := 0, locals := 40 } : Room) M := C
  refine n_aload_n C dX3_init_0 (p := 0) rfl rfl ?_
  refine n_objinit C wl_X3_1 ⟨by decide, by decide⟩ (by decide) dX3_init_1 ?_
  exact hret _ _ _ (fun k => [].getD k 0) dX3_init_4 (fun t hP hD => ⟨hP, hD⟩)
def oX1 (K : Nat → ClassId) (h0 : Nat) (q : Nat → Nat) : va_W := [(h0, .inr (1, [.int 0, .ref (q 0), .int 0, .int 0, .int 0, .int 0])), (q 0, .inl (K 0, 16, .inl (fun _ => 0)))]
set_option maxRecDepth 100000 in
theorem kN_X1 (l : Launch) (K : Nat → ClassId) (D : va_G) : CtN l K D yX1_init cX1_init 1 ({ frames := 1, cells := 1, slots := 16, locals := 40 } : Room) 1 [.int 0, .null, .int 0, .int 0, .int 0, .int 0] (Nat → Nat) (fun h0 A u t => va_P D vwCl (oX1 K h0 u) t.heap ∧ va_D A (oX1 K h0 u)) := by
  refine n_start (by decide) rfl (by decide) (fun h0 M C hn hini hret => ?_)
  have C : NGood l K D cX1_init RX1 ({ frames := 1, cells := 1, slots := 16, locals := 40 } : Room) M := C
  refine n_aload_n C dX1_init_0 (p := 0) rfl rfl ?_
  refine n_objinit C wl_X1_1 ⟨by decide, by decide⟩ (by decide) dX1_init_1 ?_
  refine n_aload_n C dX1_init_4 (p := 0) rfl rfl ?_
  refine n_bipush C (v := 16) dX1_init_5 (by decide) ?_
  refine n_newa C (ty := .int) (t := 0) (N' := 16) wa_I rfl rfl (fun _ _ h => h) (fun _ => rfl) (by decide) (by decide) (by decide) ⟨by decide, by decide⟩ dX1_init_7 (fun q1 => ?_)
  refine n_eq (ws' := [(h0, .inr (1, [.int 0, .null, .int 0, .int 0, .int 0, .int 0])), (q1, .inl (K 0, 16, .inl (fun _ => 0)))]) rfl ?_
  refine n_putF C (q0 := 0) dX1_init_9 hini rfl rfl inX1 tyX1_ok nmX1 (j := 1) (ty := (.array .int)) (by decide) wf_X1_9 rfl rfl rfl (by decide +kernel) rfl rfl (Nat.le_of_ble_eq_true rfl) ?_
  refine n_eq (ws' := [(h0, .inr (1, [.int 0, .ref q1, .int 0, .int 0, .int 0, .int 0])), (q1, .inl (K 0, 16, .inl (fun _ => 0)))]) rfl ?_
  exact hret _ _ _ (fun k => [q1].getD k 0) dX1_init_12 (fun t hP hD => ⟨hP, hD⟩)
def oX0 (K : Nat → ClassId) (h0 : Nat) (q : Nat → Nat) : va_W := [(h0, .inr (0, [.int 0, .int 0, .ref (q 0), .ref (q 1), .ref (q 2), .ref (q 3)])), (q 0, .inl (K 0, 24, .inl (fun _ => 0))), (q 1, .inl (K 0, 24, .inl (fun _ => 0))), (q 2, .inl (K 0, 24, .inl (fun _ => 0))), (q 3, .inl (K 0, 96, .inl (fun _ => 0)))]
set_option maxRecDepth 100000 in
theorem kN_X0 (l : Launch) (K : Nat → ClassId) (D : va_G) : CtN l K D yX0_init cX0_init 1 ({ frames := 1, cells := 4, slots := 168, locals := 40 } : Room) 0 [.int 0, .int 0, .null, .null, .null, .null] (Nat → Nat) (fun h0 A u t => va_P D vwCl (oX0 K h0 u) t.heap ∧ va_D A (oX0 K h0 u)) := by
  refine n_start (by decide) rfl (by decide) (fun h0 M C hn hini hret => ?_)
  have C : NGood l K D cX0_init RX0 ({ frames := 1, cells := 4, slots := 168, locals := 40 } : Room) M := C
  refine n_aload_n C dX0_init_0 (p := 0) rfl rfl ?_
  refine n_objinit C wl_X0_1 ⟨by decide, by decide⟩ (by decide) dX0_init_1 ?_
  refine n_aload_n C dX0_init_4 (p := 0) rfl rfl ?_
  refine n_bipush C (v := 24) dX0_init_5 (by decide) ?_
  refine n_newa C (ty := .int) (t := 0) (N' := 24) wa_I rfl rfl (fun _ _ h => h) (fun _ => rfl) (by decide) (by decide) (by decide) ⟨by decide, by decide⟩ dX0_init_7 (fun q1 => ?_)
  refine n_eq (ws' := [(h0, .inr (0, [.int 0, .int 0, .null, .null, .null, .null])), (q1, .inl (K 0, 24, .inl (fun _ => 0)))]) rfl ?_
  refine n_putF C (q0 := 0) dX0_init_9 hini rfl rfl inX0 tyX0_ok nmX0 (j := 2) (ty := (.array .int)) (by decide) wf_X0_9 rfl rfl rfl (by decide +kernel) rfl rfl (Nat.le_of_ble_eq_true rfl) ?_
  refine n_eq (ws' := [(h0, .inr (0, [.int 0, .int 0, .ref q1, .null, .null, .null])), (q1, .inl (K 0, 24, .inl (fun _ => 0)))]) rfl ?_
  refine n_aload_n C dX0_init_12 (p := 0) rfl rfl ?_
  refine n_bipush C (v := 24) dX0_init_13 (by decide) ?_
  refine n_newa C (ty := .int) (t := 0) (N' := 24) wa_I rfl rfl (fun _ _ h => h) (fun _ => rfl) (by decide) (by decide) (by decide) ⟨by decide, by decide⟩ dX0_init_15 (fun q2 => ?_)
  refine n_eq (ws' := [(h0, .inr (0, [.int 0, .int 0, .ref q1, .null, .null, .null])), (q1, .inl (K 0, 24, .inl (fun _ => 0))), (q2, .inl (K 0, 24, .inl (fun _ => 0)))]) rfl ?_
  refine n_putF C (q0 := 0) dX0_init_17 hini rfl rfl inX0 tyX0_ok nmX0 (j := 3) (ty := (.array .int)) (by decide) wf_X0_13 rfl rfl rfl (by decide +kernel) rfl rfl (Nat.le_of_ble_eq_true rfl) ?_
  refine n_eq (ws' := [(h0, .inr (0, [.int 0, .int 0, .ref q1, .ref q2, .null, .null])), (q1, .inl (K 0, 24, .inl (fun _ => 0))), (q2, .inl (K 0, 24, .inl (fun _ => 0)))]) rfl ?_
  refine n_aload_n C dX0_init_20 (p := 0) rfl rfl ?_
  refine n_bipush C (v := 24) dX0_init_21 (by decide) ?_
  refine n_newa C (ty := .int) (t := 0) (N' := 24) wa_I rfl rfl (fun _ _ h => h) (fun _ => rfl) (by decide) (by decide) (by decide) ⟨by decide, by decide⟩ dX0_init_23 (fun q3 => ?_)
  refine n_eq (ws' := [(h0, .inr (0, [.int 0, .int 0, .ref q1, .ref q2, .null, .null])), (q1, .inl (K 0, 24, .inl (fun _ => 0))), (q2, .inl (K 0, 24, .inl (fun _ => 0))), (q3, .inl (K 0, 24, .inl (fun _ => 0)))]) rfl ?_
  refine n_putF C (q0 := 0) dX0_init_25 hini rfl rfl inX0 tyX0_ok nmX0 (j := 4) (ty := (.array .int)) (by decide) wf_X0_16 rfl rfl rfl (by decide +kernel) rfl rfl (Nat.le_of_ble_eq_true rfl) ?_
  refine n_eq (ws' := [(h0, .inr (0, [.int 0, .int 0, .ref q1, .ref q2, .ref q3, .null])), (q1, .inl (K 0, 24, .inl (fun _ => 0))), (q2, .inl (K 0, 24, .inl (fun _ => 0))), (q3, .inl (K 0, 24, .inl (fun _ => 0)))]) rfl ?_
  refine n_aload_n C dX0_init_28 (p := 0) rfl rfl ?_
  refine n_bipush C (v := 96) dX0_init_29 (by decide) ?_
  refine n_newa C (ty := .int) (t := 0) (N' := 96) wa_I rfl rfl (fun _ _ h => h) (fun _ => rfl) (by decide) (by decide) (by decide) ⟨by decide, by decide⟩ dX0_init_31 (fun q4 => ?_)
  refine n_eq (ws' := [(h0, .inr (0, [.int 0, .int 0, .ref q1, .ref q2, .ref q3, .null])), (q1, .inl (K 0, 24, .inl (fun _ => 0))), (q2, .inl (K 0, 24, .inl (fun _ => 0))), (q3, .inl (K 0, 24, .inl (fun _ => 0))), (q4, .inl (K 0, 96, .inl (fun _ => 0)))]) rfl ?_
  refine n_putF C (q0 := 0) dX0_init_33 hini rfl rfl inX0 tyX0_ok nmX0 (j := 5) (ty := (.array .int)) (by decide) wf_X0_21 rfl rfl rfl (by decide +kernel) rfl rfl (Nat.le_of_ble_eq_true rfl) ?_
  refine n_eq (ws' := [(h0, .inr (0, [.int 0, .int 0, .ref q1, .ref q2, .ref q3, .ref q4])), (q1, .inl (K 0, 24, .inl (fun _ => 0))), (q2, .inl (K 0, 24, .inl (fun _ => 0))), (q3, .inl (K 0, 24, .inl (fun _ => 0))), (q4, .inl (K 0, 96, .inl (fun _ => 0)))]) rfl ?_
  exact hret _ _ _ (fun k => [q1, q2, q3, q4].getD k 0) dX0_init_36 (fun t hP hD => ⟨hP, hD⟩)
def oX4 (K : Nat → ClassId) (h0 : Nat) (q : Nat → Nat) : va_W := [(h0, .inr (4, [.ref (q 0), .int 0, .int 0, .int 0, .int 0, .int 0, .int 0])), (q 0, .inl (K 0, 400, .inl (fun _ => 0)))]
set_option maxRecDepth 100000 in
theorem kN_X4 (l : Launch) (K : Nat → ClassId) (D : va_G) : CtN l K D yX4_init cX4_init 1 ({ frames := 1, cells := 1, slots := 400, locals := 40 } : Room) 4 [.null, .int 0, .int 0, .int 0, .int 0, .int 0, .int 0] (Nat → Nat) (fun h0 A u t => va_P D vwCl (oX4 K h0 u) t.heap ∧ va_D A (oX4 K h0 u)) := by
  refine n_start (by decide) rfl (by decide) (fun h0 M C hn hini hret => ?_)
  have C : NGood l K D cX4_init RX4 ({ frames := 1, cells := 1, slots := 400, locals := 40 } : Room) M := C
  refine n_aload_n C dX4_init_0 (p := 0) rfl rfl ?_
  refine n_objinit C wl_X4_3 ⟨by decide, by decide⟩ (by decide) dX4_init_1 ?_
  refine n_aload_n C dX4_init_4 (p := 0) rfl rfl ?_
  refine n_sipush C (v := 400) dX4_init_5 (by decide) ?_
  refine n_newa C (ty := .int) (t := 0) (N' := 400) wa_I rfl rfl (fun _ _ h => h) (fun _ => rfl) (by decide) (by decide) (by decide) ⟨by decide, by decide⟩ dX4_init_8 (fun q1 => ?_)
  refine n_eq (ws' := [(h0, .inr (4, [.null, .int 0, .int 0, .int 0, .int 0, .int 0, .int 0])), (q1, .inl (K 0, 400, .inl (fun _ => 0)))]) rfl ?_
  refine n_putF C (q0 := 0) dX4_init_10 hini rfl rfl inX4 tyX4_ok nmX4 (j := 0) (ty := (.array .int)) (by decide) wf_X4_11 rfl rfl rfl (by decide +kernel) rfl rfl (Nat.le_of_ble_eq_true rfl) ?_
  refine n_eq (ws' := [(h0, .inr (4, [.ref q1, .int 0, .int 0, .int 0, .int 0, .int 0, .int 0])), (q1, .inl (K 0, 400, .inl (fun _ => 0)))]) rfl ?_
  exact hret _ _ _ (fun k => [q1].getD k 0) dX4_init_13 (fun t hP hD => ⟨hP, hD⟩)
def oX2 (K : Nat → ClassId) (h0 : Nat) (q : Nat → Nat) : va_W := [(h0, .inr (2, [.int 0, .ref (q 0), .ref (q 1), .ref (q 3)])), (q 0, .inl (K 0, 4, .inl (fun _ => 0))), (q 1, .inr (6, [.int 0, .ref (q 2)])), (q 2, .inl (K 0, 4, .inl (fun _ => 0))), (q 3, .inr (3, [.int 0, .int 0, .int 0, .int 0, .int 0]))]
set_option maxRecDepth 100000 in
theorem kN_X2 (l : Launch) (K : Nat → ClassId) (D : va_G) : CtN l K D yX2_init cX2_init 1 ({ frames := 2, cells := 4, slots := 15, locals := 80 } : Room) 2 [.int 0, .null, .null, .null] (Nat → Nat) (fun h0 A u t => va_P D vwCl (oX2 K h0 u) t.heap ∧ va_D A (oX2 K h0 u)) := by
  refine n_start (by decide) rfl (by decide) (fun h0 M C hn hini hret => ?_)
  have C : NGood l K D cX2_init RX2 ({ frames := 2, cells := 4, slots := 15, locals := 80 } : Room) M := C
  refine n_aload_n C dX2_init_0 (p := 0) rfl rfl ?_
  refine n_objinit C wl_X2_3 ⟨by decide, by decide⟩ (by decide) dX2_init_1 ?_
  refine n_aload_n C dX2_init_4 (p := 0) rfl rfl ?_
  refine n_iconst C (v := 4) dX2_init_5 (by decide) ?_
  refine n_newa C (ty := .int) (t := 0) (N' := 4) wa_I rfl rfl (fun _ _ h => h) (fun _ => rfl) (by decide) (by decide) (by decide) ⟨by decide, by decide⟩ dX2_init_6 (fun q1 => ?_)
  refine n_eq (ws' := [(h0, .inr (2, [.int 0, .null, .null, .null])), (q1, .inl (K 0, 4, .inl (fun _ => 0)))]) rfl ?_
  refine n_putF C (q0 := 0) dX2_init_8 hini rfl rfl inX2 tyX2_ok nmX2 (j := 1) (ty := (.array .int)) (by decide) wf_X2_11 rfl rfl rfl (by decide +kernel) rfl rfl (Nat.le_of_ble_eq_true rfl) ?_
  refine n_eq (ws' := [(h0, .inr (2, [.int 0, .ref q1, .null, .null])), (q1, .inl (K 0, 4, .inl (fun _ => 0)))]) rfl ?_
  refine n_aload_n C dX2_init_11 (p := 0) rfl rfl ?_
  refine n_make C (kN_X6 l K D) (fun _ _ _ _ h => h) mi_X6 dX2_init_12 dX2_init_15 dX2_init_16 (T := TX6) rfl inX6 tyX6_ok wq_X2_17 wn_X6 wi_X6 (fun j hj => by rcases (show j = 0 ∨ j = 1 from by omega) with rfl | rfl <;> rfl) RX8 (nd_W C).2.1.2.2.2.1 ⟨by decide, by decide⟩ ⟨by decide, by decide⟩ (by simp [Value.category]) (fun q2 u2 => ?_)
  refine n_eq (ws' := [(h0, .inr (2, [.int 0, .ref q1, .null, .null])), (q1, .inl (K 0, 4, .inl (fun _ => 0))), (q2, .inr (6, [.int 0, .ref (u2 0)])), (u2 0, .inl (K 0, 4, .inl (fun _ => 0)))]) rfl ?_
  refine n_putF C (q0 := 0) dX2_init_19 hini rfl rfl inX2 tyX2_ok nmX2 (j := 2) (ty := (.object "LeastWants$Sayings")) (by decide) wf_X2_20 rfl rfl rfl (by decide +kernel) rfl rfl (Nat.le_of_ble_eq_true rfl) ?_
  refine n_eq (ws' := [(h0, .inr (2, [.int 0, .ref q1, .ref q2, .null])), (q1, .inl (K 0, 4, .inl (fun _ => 0))), (q2, .inr (6, [.int 0, .ref (u2 0)])), (u2 0, .inl (K 0, 4, .inl (fun _ => 0)))]) rfl ?_
  refine n_aload_n C dX2_init_22 (p := 0) rfl rfl ?_
  refine n_make C (kN_X3 l K D) (fun _ _ _ _ h => h) mi_X3 dX2_init_23 dX2_init_26 dX2_init_27 (T := TX3) rfl inX3 tyX3_ok wq_X2_24 wn_X3 wi_X3 (fun j hj => by rcases (show j = 0 ∨ j = 1 ∨ j = 2 ∨ j = 3 ∨ j = 4 from by omega) with rfl | rfl | rfl | rfl | rfl <;> rfl) RX8 (nd_W C).2.1.2.2.2.2 ⟨by decide, by decide⟩ ⟨by decide, by decide⟩ (by simp [Value.category]) (fun q3 u3 => ?_)
  refine n_eq (ws' := [(h0, .inr (2, [.int 0, .ref q1, .ref q2, .null])), (q1, .inl (K 0, 4, .inl (fun _ => 0))), (q2, .inr (6, [.int 0, .ref (u2 0)])), (u2 0, .inl (K 0, 4, .inl (fun _ => 0))), (q3, .inr (3, [.int 0, .int 0, .int 0, .int 0, .int 0]))]) rfl ?_
  refine n_putF C (q0 := 0) dX2_init_30 hini rfl rfl inX2 tyX2_ok nmX2 (j := 3) (ty := (.object "LeastWants$Prospect")) (by decide) wf_X2_27 rfl rfl rfl (by decide +kernel) rfl rfl (Nat.le_of_ble_eq_true rfl) ?_
  refine n_eq (ws' := [(h0, .inr (2, [.int 0, .ref q1, .ref q2, .ref q3])), (q1, .inl (K 0, 4, .inl (fun _ => 0))), (q2, .inr (6, [.int 0, .ref (u2 0)])), (u2 0, .inl (K 0, 4, .inl (fun _ => 0))), (q3, .inr (3, [.int 0, .int 0, .int 0, .int 0, .int 0]))]) rfl ?_
  exact hret _ _ _ (fun k => [q1, q2, u2 0, q3].getD k 0) dX2_init_33 (fun t hP hD => ⟨hP, hD⟩)

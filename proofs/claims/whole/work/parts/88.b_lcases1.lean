section LC
variable {l : Launch} {K : Nat → ClassId} {D : va_G} {ad bd : Int → Nat} {P : cP} {b L : Nat} {xs : Nat → Int32} {M : GM} {kc ks : Nat} {σ τ : Mem}
theorem lc_undo {n i : Int} (C : LGood l K D ad bd P b L xs M) (h : RR n σ τ) (hR : kc ≤ 600000 ∧ ks ≤ 7302250) (h0 : 0 ≤ i) (h5 : i + 6 ≤ (L : Int)) (k : ∀ σ' τ' : Mem, RR (n + 1) σ' τ' → LG M K ad bd kc ks 1148 [(3, .int (iI i)), (2, .ref (bd 0)), (1, .ref (ad 0)), (0, .ref b)] [] σ' τ') : LG M K ad bd kc ks 528 [(3, .int (iI i)), (2, .ref (bd 0)), (1, .ref (ad 0)), (0, .ref b)] [] σ τ := by
  have ha := a_undo (σ := σ) (τ := τ) h
  refine l_aload_n C dL_law_528 (p := 2) rfl rfl ?_
  refine l_callC C dL_law_529 (kX8_undo (σ := σ)  C.2.1.1 (cEok P) (q_hH2 h) (q_hl h) (q_hm h) (q_hts h)) mw_X8_undo wl_L_61 hR (by decide) (by decide) rfl rfl (by simp [Value.category]) ?_
  refine l_aload_n C dL_law_532 (p := 1) rfl rfl ?_
  refine l_callM C dL_law_533 (kX9_undo (σ := τ)  C.2.1.2.1 (cEok P) (p_hac h)) mw_X9_undo wl_L_64 hR (by decide) (by decide) rfl rfl (by simp [Value.category]) ?_
  refine l_eq C (tgt := 1148) dL_law_536 (by decide) ha.1 ?_
  exact k _ _ ha.2
theorem lc_coin {n i : Int} (C : LGood l K D ad bd P b L xs M) (h : RR n σ τ) (hR : kc ≤ 600000 ∧ ks ≤ 7302250) (h0 : 0 ≤ i) (h5 : i + 6 ≤ (L : Int)) (k : ∀ σ' τ' : Mem, RR (n + 1) σ' τ' → LG M K ad bd kc ks 1148 [(3, .int (iI i)), (2, .ref (bd 0)), (1, .ref (ad 0)), (0, .ref b)] [] σ' τ') : LG M K ad bd kc ks 541 [(3, .int (iI i)), (2, .ref (bd 0)), (1, .ref (ad 0)), (0, .ref b)] [] σ τ := by
  have ha := a_coin (p := sx xs (i + 1)) (σ := σ) (τ := τ) h
  refine l_aload_n C dL_law_541 (p := 2) rfl rfl ?_
  refine l_arg C rfl dL_law_542 rfl dL_law_543 rfl dL_law_544 dL_law_545 dL_law_546 (by omega) (by omega) ?_
  refine l_callC C dL_law_547 (kX8_coin (σ := σ) (p := sx xs (i + 1)) C.2.1.1 (cEok P) (q_hH2 h) (q_h2 h) (sx_R _ _)) mw_X8_coin wl_L_65 hR (by decide) (by decide) rfl rfl (by simp [Value.category]) ?_
  refine l_aload_n C dL_law_550 (p := 1) rfl rfl ?_
  refine l_arg C rfl dL_law_551 rfl dL_law_552 rfl dL_law_553 dL_law_554 dL_law_555 (by omega) (by omega) ?_
  refine l_callM C dL_law_556 (kX9_coin (σ := τ) (p := sx xs (i + 1)) C.2.1.2.1 (cEok P) (p_hp h) (sx_R _ _)) mw_X9_coin wl_L_68 hR (by decide) (by decide) rfl rfl (by simp [Value.category]) ?_
  refine l_eq C (tgt := 1148) dL_law_559 (by decide) ha.1 ?_
  exact k _ _ ha.2
theorem lc_thing {n i : Int} (C : LGood l K D ad bd P b L xs M) (h : RR n σ τ) (hR : kc ≤ 600000 ∧ ks ≤ 7302250) (h0 : 0 ≤ i) (h5 : i + 6 ≤ (L : Int)) (k : ∀ σ' τ' : Mem, RR (n + 1) σ' τ' → LG M K ad bd kc ks 1148 [(3, .int (iI i)), (2, .ref (bd 0)), (1, .ref (ad 0)), (0, .ref b)] [] σ' τ') : LG M K ad bd kc ks 564 [(3, .int (iI i)), (2, .ref (bd 0)), (1, .ref (ad 0)), (0, .ref b)] [] σ τ := by
  have ha := a_thing (t := sx xs (i + 1)) (what := sx xs (i + 2)) (σ := σ) (τ := τ) h
  refine l_aload_n C dL_law_564 (p := 2) rfl rfl ?_
  refine l_arg C rfl dL_law_565 rfl dL_law_566 rfl dL_law_567 dL_law_568 dL_law_569 (by omega) (by omega) ?_
  refine l_arg C rfl dL_law_570 rfl dL_law_571 rfl dL_law_572 dL_law_573 dL_law_574 (by omega) (by omega) ?_
  refine l_callC C dL_law_575 (kX8_thing (σ := σ) (t := sx xs (i + 1)) (what := sx xs (i + 2)) C.2.1.1 (cEok P) (q_hH2 h) (q_h3 h) (sx_R _ _) (sx_R _ _)) mw_X8_thing wl_L_69 hR (by decide) (by decide) rfl rfl (by simp [Value.category]) ?_
  refine l_aload_n C dL_law_578 (p := 1) rfl rfl ?_
  refine l_arg C rfl dL_law_579 rfl dL_law_580 rfl dL_law_581 dL_law_582 dL_law_583 (by omega) (by omega) ?_
  refine l_arg C rfl dL_law_584 rfl dL_law_585 rfl dL_law_586 dL_law_587 dL_law_588 (by omega) (by omega) ?_
  refine l_callM C dL_law_589 (kX9_thing (σ := τ) (t := sx xs (i + 1)) (what := sx xs (i + 2)) C.2.1.2.1 (cEok P) (p_ht3 h) (sx_R _ _) (sx_R _ _)) mw_X9_thing wl_L_72 hR (by decide) (by decide) rfl rfl (by simp [Value.category]) ?_
  refine l_eq C (tgt := 1148) dL_law_592 (by decide) ha.1 ?_
  exact k _ _ ha.2
theorem lc_worth {n i : Int} (C : LGood l K D ad bd P b L xs M) (h : RR n σ τ) (hR : kc ≤ 600000 ∧ ks ≤ 7302250) (h0 : 0 ≤ i) (h5 : i + 6 ≤ (L : Int)) (k : ∀ σ' τ' : Mem, RR (n + 1) σ' τ' → LG M K ad bd kc ks 1148 [(3, .int (iI i)), (2, .ref (bd 0)), (1, .ref (ad 0)), (0, .ref b)] [] σ' τ') : LG M K ad bd kc ks 597 [(3, .int (iI i)), (2, .ref (bd 0)), (1, .ref (ad 0)), (0, .ref b)] [] σ τ := by
  have ha := a_worth (t := sx xs (i + 1)) (p := sx xs (i + 2)) (what := sx xs (i + 3)) (σ := σ) (τ := τ) h
  refine l_aload_n C dL_law_597 (p := 2) rfl rfl ?_
  refine l_arg C rfl dL_law_598 rfl dL_law_599 rfl dL_law_600 dL_law_601 dL_law_602 (by omega) (by omega) ?_
  refine l_arg C rfl dL_law_603 rfl dL_law_604 rfl dL_law_605 dL_law_606 dL_law_607 (by omega) (by omega) ?_
  refine l_arg C rfl dL_law_608 rfl dL_law_609 rfl dL_law_610 dL_law_611 dL_law_612 (by omega) (by omega) ?_
  refine l_callC C dL_law_613 (kX8_worth (σ := σ) (t := sx xs (i + 1)) (p := sx xs (i + 2)) (what := sx xs (i + 3)) C.2.1.1 (cEok P) (q_hH2 h) (q_hT h) (sx_R _ _) (sx_R _ _) (sx_R _ _)) mw_X8_worth wl_L_73 hR (by decide) (by decide) rfl rfl (by simp [Value.category]) ?_
  refine l_aload_n C dL_law_616 (p := 1) rfl rfl ?_
  refine l_arg C rfl dL_law_617 rfl dL_law_618 rfl dL_law_619 dL_law_620 dL_law_621 (by omega) (by omega) ?_
  refine l_arg C rfl dL_law_622 rfl dL_law_623 rfl dL_law_624 dL_law_625 dL_law_626 (by omega) (by omega) ?_
  refine l_arg C rfl dL_law_627 rfl dL_law_628 rfl dL_law_629 dL_law_630 dL_law_631 (by omega) (by omega) ?_
  refine l_callM C dL_law_632 (kX9_worth (σ := τ) (t := sx xs (i + 1)) (p := sx xs (i + 2)) (what := sx xs (i + 3)) C.2.1.2.1 (cEok P) (p_hT h) (sx_R _ _) (sx_R _ _) (sx_R _ _)) mw_X9_worth wl_L_76 hR (by decide) (by decide) rfl rfl (by simp [Value.category]) ?_
  refine l_eq C (tgt := 1148) dL_law_635 (by decide) ha.1 ?_
  exact k _ _ ha.2
theorem lc_gain {n i : Int} (C : LGood l K D ad bd P b L xs M) (h : RR n σ τ) (hR : kc ≤ 600000 ∧ ks ≤ 7302250) (h0 : 0 ≤ i) (h5 : i + 6 ≤ (L : Int)) (k : ∀ σ' τ' : Mem, RR (n + 1) σ' τ' → LG M K ad bd kc ks 1148 [(3, .int (iI i)), (2, .ref (bd 0)), (1, .ref (ad 0)), (0, .ref b)] [] σ' τ') : LG M K ad bd kc ks 640 [(3, .int (iI i)), (2, .ref (bd 0)), (1, .ref (ad 0)), (0, .ref b)] [] σ τ := by
  have ha := a_gain (t := sx xs (i + 1)) (r := sx xs (i + 2)) (p := sx xs (i + 3)) (what := sx xs (i + 4)) (σ := σ) (τ := τ) h
  refine l_aload_n C dL_law_640 (p := 2) rfl rfl ?_
  refine l_arg C rfl dL_law_641 rfl dL_law_642 rfl dL_law_643 dL_law_644 dL_law_645 (by omega) (by omega) ?_
  refine l_arg C rfl dL_law_646 rfl dL_law_647 rfl dL_law_648 dL_law_649 dL_law_650 (by omega) (by omega) ?_
  refine l_arg C rfl dL_law_651 rfl dL_law_652 rfl dL_law_653 dL_law_654 dL_law_655 (by omega) (by omega) ?_
  refine l_arg C rfl dL_law_656 rfl dL_law_657 rfl dL_law_658 dL_law_659 dL_law_660 (by omega) (by omega) ?_
  refine l_callC C dL_law_661 (kX8_gain (σ := σ) (t := sx xs (i + 1)) (r := sx xs (i + 2)) (p := sx xs (i + 3)) (what := sx xs (i + 4)) C.2.1.1 (cEok P) (q_hH2 h) (q_hT h) (q_hrw h) (q_hit h) (sx_R _ _) (sx_R _ _) (sx_R _ _) (sx_R _ _)) mw_X8_gain wl_L_77 hR (by decide) (by decide) rfl rfl (by simp [Value.category]) ?_
  refine l_aload_n C dL_law_664 (p := 1) rfl rfl ?_
  refine l_arg C rfl dL_law_665 rfl dL_law_666 rfl dL_law_667 dL_law_668 dL_law_669 (by omega) (by omega) ?_
  refine l_arg C rfl dL_law_670 rfl dL_law_671 rfl dL_law_672 dL_law_673 dL_law_674 (by omega) (by omega) ?_
  refine l_arg C rfl dL_law_675 rfl dL_law_676 rfl dL_law_677 dL_law_678 dL_law_679 (by omega) (by omega) ?_
  refine l_arg C rfl dL_law_680 rfl dL_law_681 rfl dL_law_682 dL_law_683 dL_law_684 (by omega) (by omega) ?_
  refine l_callM C dL_law_685 (kX9_gain (σ := τ) (t := sx xs (i + 1)) (r := sx xs (i + 2)) (p := sx xs (i + 3)) (what := sx xs (i + 4)) C.2.1.2.1 (cEok P) (p_hT h) (p_hpe h) (p_hm h) (p_hit h) (sx_R _ _) (sx_R _ _) (sx_R _ _) (sx_R _ _)) mw_X9_gain wl_L_81 hR (by decide) (by decide) rfl rfl (by simp [Value.category]) ?_
  refine l_eq C (tgt := 1148) dL_law_688 (by decide) ha.1 ?_
  exact k _ _ ha.2
theorem lc_best {n i : Int} (C : LGood l K D ad bd P b L xs M) (h : RR n σ τ) (hR : kc ≤ 600000 ∧ ks ≤ 7302250) (h0 : 0 ≤ i) (h5 : i + 6 ≤ (L : Int)) (k : ∀ σ' τ' : Mem, RR (n + 1) σ' τ' → LG M K ad bd kc ks 1148 [(3, .int (iI i)), (2, .ref (bd 0)), (1, .ref (ad 0)), (0, .ref b)] [] σ' τ') : LG M K ad bd kc ks 693 [(3, .int (iI i)), (2, .ref (bd 0)), (1, .ref (ad 0)), (0, .ref b)] [] σ τ := by
  have ha := a_best (t := sx xs (i + 1)) (r := sx xs (i + 2)) (p := sx xs (i + 3)) (σ := σ) (τ := τ) h
  refine l_aload_n C dL_law_693 (p := 2) rfl rfl ?_
  refine l_arg C rfl dL_law_694 rfl dL_law_695 rfl dL_law_696 dL_law_697 dL_law_698 (by omega) (by omega) ?_
  refine l_arg C rfl dL_law_699 rfl dL_law_700 rfl dL_law_701 dL_law_702 dL_law_703 (by omega) (by omega) ?_
  refine l_arg C rfl dL_law_704 rfl dL_law_705 rfl dL_law_706 dL_law_707 dL_law_708 (by omega) (by omega) ?_
  refine l_callC C dL_law_709 (kX8_best (σ := σ) (t := sx xs (i + 1)) (r := sx xs (i + 2)) (p := sx xs (i + 3)) C.2.1.1 (cEok P) (q_hH2 h) (q_hT h) (q_hrw h) (q_hit h) (sx_R _ _) (sx_R _ _) (sx_R _ _)) mw_X8_best wl_L_82 hR (by decide) (by decide) rfl rfl (by simp [Value.category]) ?_
  refine l_aload_n C dL_law_712 (p := 1) rfl rfl ?_
  refine l_arg C rfl dL_law_713 rfl dL_law_714 rfl dL_law_715 dL_law_716 dL_law_717 (by omega) (by omega) ?_
  refine l_arg C rfl dL_law_718 rfl dL_law_719 rfl dL_law_720 dL_law_721 dL_law_722 (by omega) (by omega) ?_
  refine l_arg C rfl dL_law_723 rfl dL_law_724 rfl dL_law_725 dL_law_726 dL_law_727 (by omega) (by omega) ?_
  refine l_callM C dL_law_728 (kX9_best (σ := τ) (t := sx xs (i + 1)) (r := sx xs (i + 2)) (p := sx xs (i + 3)) C.2.1.2.1 (cEok P) (p_hT h) (p_hpe h) (p_hm h) (p_hit h) (sx_R _ _) (sx_R _ _) (sx_R _ _)) mw_X9_best wl_L_85 hR (by decide) (by decide) rfl rfl (by simp [Value.category]) ?_
  refine l_eq C (tgt := 1148) dL_law_731 (by decide) ha.1 ?_
  exact k _ _ ha.2
theorem lc_rests {n i : Int} (C : LGood l K D ad bd P b L xs M) (h : RR n σ τ) (hR : kc ≤ 600000 ∧ ks ≤ 7302250) (h0 : 0 ≤ i) (h5 : i + 6 ≤ (L : Int)) (k : ∀ σ' τ' : Mem, RR (n + 1) σ' τ' → LG M K ad bd kc ks 1148 [(3, .int (iI i)), (2, .ref (bd 0)), (1, .ref (ad 0)), (0, .ref b)] [] σ' τ') : LG M K ad bd kc ks 736 [(3, .int (iI i)), (2, .ref (bd 0)), (1, .ref (ad 0)), (0, .ref b)] [] σ τ := by
  have ha := a_rests (t := sx xs (i + 1)) (k := sx xs (i + 2)) (σ := σ) (τ := τ) h
  refine l_aload_n C dL_law_736 (p := 2) rfl rfl ?_
  refine l_arg C rfl dL_law_737 rfl dL_law_738 rfl dL_law_739 dL_law_740 dL_law_741 (by omega) (by omega) ?_
  refine l_arg C rfl dL_law_742 rfl dL_law_743 rfl dL_law_744 dL_law_745 dL_law_746 (by omega) (by omega) ?_
  refine l_callC C dL_law_747 (kX8_rests (σ := σ) (t := sx xs (i + 1)) (k := sx xs (i + 2)) C.2.1.1 (cEok P) (q_hH2 h) (q_hT h) (sx_R _ _) (sx_R _ _)) mw_X8_rests wl_L_86 hR (by decide) (by decide) rfl rfl (by simp [Value.category]) ?_
  refine l_aload_n C dL_law_750 (p := 1) rfl rfl ?_
  refine l_arg C rfl dL_law_751 rfl dL_law_752 rfl dL_law_753 dL_law_754 dL_law_755 (by omega) (by omega) ?_
  refine l_arg C rfl dL_law_756 rfl dL_law_757 rfl dL_law_758 dL_law_759 dL_law_760 (by omega) (by omega) ?_
  refine l_callM C dL_law_761 (kX9_rests (σ := τ) (t := sx xs (i + 1)) (k := sx xs (i + 2)) C.2.1.2.1 (cEok P) (p_hT h) (p_hpe h) (sx_R _ _) (sx_R _ _)) mw_X9_rests wl_L_89 hR (by decide) (by decide) rfl rfl (by simp [Value.category]) ?_
  refine l_eq C (tgt := 1148) dL_law_764 (by decide) ha.1 ?_
  exact k _ _ ha.2
theorem lc_rounds {n i : Int} (C : LGood l K D ad bd P b L xs M) (h : RR n σ τ) (hR : kc ≤ 600000 ∧ ks ≤ 7302250) (h0 : 0 ≤ i) (h5 : i + 6 ≤ (L : Int)) (k : ∀ σ' τ' : Mem, RR (n + 1) σ' τ' → LG M K ad bd kc ks 1148 [(3, .int (iI i)), (2, .ref (bd 0)), (1, .ref (ad 0)), (0, .ref b)] [] σ' τ') : LG M K ad bd kc ks 769 [(3, .int (iI i)), (2, .ref (bd 0)), (1, .ref (ad 0)), (0, .ref b)] [] σ τ := by
  have ha := a_rounds (t := sx xs (i + 1)) (r := sx xs (i + 2)) (p := sx xs (i + 3)) (σ := σ) (τ := τ) h
  refine l_aload_n C dL_law_769 (p := 2) rfl rfl ?_
  refine l_arg C rfl dL_law_770 rfl dL_law_771 rfl dL_law_772 dL_law_773 dL_law_774 (by omega) (by omega) ?_
  refine l_arg C rfl dL_law_775 rfl dL_law_776 rfl dL_law_777 dL_law_778 dL_law_779 (by omega) (by omega) ?_
  refine l_arg C rfl dL_law_780 rfl dL_law_781 rfl dL_law_782 dL_law_783 dL_law_784 (by omega) (by omega) ?_
  refine l_callC C dL_law_785 (kX8_rounds (σ := σ) (t := sx xs (i + 1)) (r := sx xs (i + 2)) (p := sx xs (i + 3)) C.2.1.1 (cEok P) (q_hH2 h) (q_hT h) (q_hrw h) (q_hit h) (sx_R _ _) (sx_R _ _) (sx_R _ _)) mw_X8_rounds wl_L_90 hR (by decide) (by decide) rfl rfl (by simp [Value.category]) ?_
  refine l_aload_n C dL_law_788 (p := 1) rfl rfl ?_
  refine l_arg C rfl dL_law_789 rfl dL_law_790 rfl dL_law_791 dL_law_792 dL_law_793 (by omega) (by omega) ?_
  refine l_arg C rfl dL_law_794 rfl dL_law_795 rfl dL_law_796 dL_law_797 dL_law_798 (by omega) (by omega) ?_
  refine l_arg C rfl dL_law_799 rfl dL_law_800 rfl dL_law_801 dL_law_802 dL_law_803 (by omega) (by omega) ?_
  refine l_callM C dL_law_804 (kX9_rounds (σ := τ) (t := sx xs (i + 1)) (r := sx xs (i + 2)) (p := sx xs (i + 3)) C.2.1.2.1 (cEok P) (p_hT h) (p_hpe h) (p_hm h) (p_hit h) (sx_R _ _) (sx_R _ _) (sx_R _ _)) mw_X9_rounds wl_L_93 hR (by decide) (by decide) rfl rfl (by simp [Value.category]) ?_
  refine l_eq C (tgt := 1148) dL_law_807 (by decide) ha.1 ?_
  exact k _ _ ha.2
theorem lc_least {n i : Int} (C : LGood l K D ad bd P b L xs M) (h : RR n σ τ) (hR : kc ≤ 600000 ∧ ks ≤ 7302250) (h0 : 0 ≤ i) (h5 : i + 6 ≤ (L : Int)) (k : ∀ σ' τ' : Mem, RR (n + 1) σ' τ' → LG M K ad bd kc ks 1148 [(3, .int (iI i)), (2, .ref (bd 0)), (1, .ref (ad 0)), (0, .ref b)] [] σ' τ') : LG M K ad bd kc ks 812 [(3, .int (iI i)), (2, .ref (bd 0)), (1, .ref (ad 0)), (0, .ref b)] [] σ τ := by
  have ha := a_least (t := sx xs (i + 1)) (what := sx xs (i + 2)) (σ := σ) (τ := τ) h
  refine l_aload_n C dL_law_812 (p := 2) rfl rfl ?_
  refine l_arg C rfl dL_law_813 rfl dL_law_814 rfl dL_law_815 dL_law_816 dL_law_817 (by omega) (by omega) ?_
  refine l_arg C rfl dL_law_818 rfl dL_law_819 rfl dL_law_820 dL_law_821 dL_law_822 (by omega) (by omega) ?_
  refine l_callC C dL_law_823 (kX8_least (σ := σ) (t := sx xs (i + 1)) (what := sx xs (i + 2)) C.2.1.1 (cEok P) (q_hH2 h) (q_hT h) (q_hpe h) (sx_R _ _) (sx_R _ _)) mw_X8_least wl_L_94 hR (by decide) (by decide) rfl rfl (by simp [Value.category]) ?_
  refine l_aload_n C dL_law_826 (p := 1) rfl rfl ?_
  refine l_arg C rfl dL_law_827 rfl dL_law_828 rfl dL_law_829 dL_law_830 dL_law_831 (by omega) (by omega) ?_
  refine l_arg C rfl dL_law_832 rfl dL_law_833 rfl dL_law_834 dL_law_835 dL_law_836 (by omega) (by omega) ?_
  refine l_callM C dL_law_837 (kX9_least (σ := τ) (t := sx xs (i + 1)) (what := sx xs (i + 2)) C.2.1.2.1 (cEok P) (p_hT h) (p_hpe h) (sx_R _ _) (sx_R _ _)) mw_X9_least wl_L_97 hR (by decide) (by decide) rfl rfl (by simp [Value.category]) ?_
  refine l_eq C (tgt := 1148) dL_law_840 (by decide) ha.1 ?_
  exact k _ _ ha.2
theorem lc_lost {n i : Int} (C : LGood l K D ad bd P b L xs M) (h : RR n σ τ) (hR : kc ≤ 600000 ∧ ks ≤ 7302250) (h0 : 0 ≤ i) (h5 : i + 6 ≤ (L : Int)) (k : ∀ σ' τ' : Mem, RR (n + 1) σ' τ' → LG M K ad bd kc ks 1148 [(3, .int (iI i)), (2, .ref (bd 0)), (1, .ref (ad 0)), (0, .ref b)] [] σ' τ') : LG M K ad bd kc ks 845 [(3, .int (iI i)), (2, .ref (bd 0)), (1, .ref (ad 0)), (0, .ref b)] [] σ τ := by
  have ha := a_lost (t := sx xs (i + 1)) (r := sx xs (i + 2)) (what := sx xs (i + 3)) (σ := σ) (τ := τ) h
  refine l_aload_n C dL_law_845 (p := 2) rfl rfl ?_
  refine l_arg C rfl dL_law_846 rfl dL_law_847 rfl dL_law_848 dL_law_849 dL_law_850 (by omega) (by omega) ?_
  refine l_arg C rfl dL_law_851 rfl dL_law_852 rfl dL_law_853 dL_law_854 dL_law_855 (by omega) (by omega) ?_
  refine l_arg C rfl dL_law_856 rfl dL_law_857 rfl dL_law_858 dL_law_859 dL_law_860 (by omega) (by omega) ?_
  refine l_callC C dL_law_861 (kX8_lost (σ := σ) (t := sx xs (i + 1)) (r := sx xs (i + 2)) (what := sx xs (i + 3)) C.2.1.1 (cEok P) (q_hH2 h) (q_hT h) (q_hrw h) (q_hit h) (q_hpe h) (sx_R _ _) (sx_R _ _) (sx_R _ _)) mw_X8_lost wl_L_98 hR (by decide) (by decide) rfl rfl (by simp [Value.category]) ?_
  refine l_aload_n C dL_law_864 (p := 1) rfl rfl ?_
  refine l_arg C rfl dL_law_865 rfl dL_law_866 rfl dL_law_867 dL_law_868 dL_law_869 (by omega) (by omega) ?_
  refine l_arg C rfl dL_law_870 rfl dL_law_871 rfl dL_law_872 dL_law_873 dL_law_874 (by omega) (by omega) ?_
  refine l_arg C rfl dL_law_875 rfl dL_law_876 rfl dL_law_877 dL_law_878 dL_law_879 (by omega) (by omega) ?_
  refine l_callM C dL_law_880 (kX9_lost (σ := τ) (t := sx xs (i + 1)) (r := sx xs (i + 2)) (what := sx xs (i + 3)) C.2.1.2.1 (cEok P) (p_hT h) (p_hpe h) (p_hm h) (p_hit h) (sx_R _ _) (sx_R _ _) (sx_R _ _)) mw_X9_lost wl_L_101 hR (by decide) (by decide) rfl rfl (by simp [Value.category]) ?_
  refine l_eq C (tgt := 1148) dL_law_883 (by decide) ha.1 ?_
  exact k _ _ ha.2
end LC

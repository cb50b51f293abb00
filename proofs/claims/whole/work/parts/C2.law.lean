theorem dL_law_606 : decode cL_law 606 = .ok (.aload_n 1, 1) := by decide +kernel
theorem dL_law_607 : decode cL_law 607 = .ok (.aload_n 0, 1) := by decide +kernel
theorem dL_law_608 : decode cL_law 608 = .ok (.iload 4, 2) := by decide +kernel
theorem dL_law_610 : decode cL_law 610 = .ok (.iconst 1, 1) := by decide +kernel
theorem dL_law_611 : decode cL_law 611 = .ok (.iadd, 1) := by decide +kernel
theorem dL_law_612 : decode cL_law 612 = .ok (.iaload, 1) := by decide +kernel
theorem dL_law_613 : decode cL_law 613 = .ok (.aload_n 0, 1) := by decide +kernel
theorem dL_law_614 : decode cL_law 614 = .ok (.iload 4, 2) := by decide +kernel
theorem dL_law_616 : decode cL_law 616 = .ok (.iconst 2, 1) := by decide +kernel
theorem dL_law_617 : decode cL_law 617 = .ok (.iadd, 1) := by decide +kernel
theorem dL_law_618 : decode cL_law 618 = .ok (.iaload, 1) := by decide +kernel
theorem dL_law_619 : decode cL_law 619 = .ok (.invokevirtual 82, 3) := by decide +kernel
theorem dL_law_622 : decode cL_law 622 = .ok (.aload_n 2, 1) := by decide +kernel
theorem dL_law_623 : decode cL_law 623 = .ok (.aload_n 0, 1) := by decide +kernel
theorem dL_law_624 : decode cL_law 624 = .ok (.iload 4, 2) := by decide +kernel
theorem dL_law_626 : decode cL_law 626 = .ok (.iconst 1, 1) := by decide +kernel
theorem dL_law_627 : decode cL_law 627 = .ok (.iadd, 1) := by decide +kernel
theorem dL_law_628 : decode cL_law 628 = .ok (.iaload, 1) := by decide +kernel
theorem dL_law_629 : decode cL_law 629 = .ok (.aload_n 0, 1) := by decide +kernel
theorem dL_law_630 : decode cL_law 630 = .ok (.iload 4, 2) := by decide +kernel
theorem dL_law_632 : decode cL_law 632 = .ok (.iconst 2, 1) := by decide +kernel
theorem dL_law_633 : decode cL_law 633 = .ok (.iadd, 1) := by decide +kernel
theorem dL_law_634 : decode cL_law 634 = .ok (.iaload, 1) := by decide +kernel
theorem dL_law_635 : decode cL_law 635 = .ok (.invokevirtual 85, 3) := by decide +kernel
theorem dL_law_638 : decode cL_law 638 = .ok (.if_icmp .eq 802, 3) := by decide +kernel
theorem dL_law_641 : decode cL_law 641 = .ok (.iconst 0, 1) := by decide +kernel
theorem dL_law_642 : decode cL_law 642 = .ok (.ireturn, 1) := by decide +kernel
theorem law_c12 {Ln : Nat} {xs : Nat → Int32} {i bc bs : Nat} {B : Int} {σ : xW} {K : List xV → Nat → xW → Prop} (hLn : Ln ≤ 2560) (hi : 5 * i + 5 ≤ Ln) (hB : 0 ≤ B ∧ B ≤ 1000000) (h : XR B σ σ) (kk : xKK Ln xs i bc bs B K) : xZ (xGL Ln xs) 330 (bc + 100) (bs + 400) mL_law 606 [vT 100, vR 0, vR 121, vR 154, vI (5 * (i : Int)), vX, vX, vX] [] 155 σ K := by
  obtain ⟨r, σ1, τ1, hF, hM, hX⟩ := xstep (cf := F_X10_hauls (xs (5 * (i : Int) + 1).toNat).toInt (xs (5 * (i : Int) + 2).toNat).toInt) (mf := F_X11_hauls (xs (5 * (i : Int) + 1).toNat).toInt (xs (5 * (i : Int) + 2).toNat).toInt) (op_hauls (I32_toInt _) (I32_toInt _)) (fun σ q hq => hi_X10_hauls hq) (fun τ q hq => xfm_lo (fr_X11_hauls hq) (by decide +kernel)) hB h
  refine z_budget (bc' := bc + 0 + 0) (bs' := bs + 0 + 0) (by omega) (by omega) ?_
  refine z_aln dL_law_606 rfl rfl (by decide) ?_
  refine z_tln dL_law_607 rfl rfl (z_il dL_law_608 rfl (z_ic dL_law_610 (z_iadd dL_law_611 (z_sld dL_law_612 ⟨by omega, by omega⟩ hLn ?_))))
  refine z_tln dL_law_613 rfl rfl (z_il dL_law_614 rfl (z_ic dL_law_616 (z_iadd dL_law_617 (z_sld dL_law_618 ⟨by omega, by omega⟩ hLn ?_))))
  refine z_callV xGL_s (bc := bc + 0) (bs := bs + 0) (c := 0) (as := [vI (xs (5 * (i : Int) + 1).toNat).toInt, vI (xs (5 * (i : Int) + 2).toNat).toInt]) (S := []) dL_law_619 ml_L_82 rfl (s_X10_hauls hF) rfl (by decide) (by decide) (fun r' n' σ' _ hK => ?_)
  obtain ⟨rfl, rfl, rfl⟩ := hK
  refine z_aln dL_law_622 rfl rfl (by decide) ?_
  refine z_tln dL_law_623 rfl rfl (z_il dL_law_624 rfl (z_ic dL_law_626 (z_iadd dL_law_627 (z_sld dL_law_628 ⟨by omega, by omega⟩ hLn ?_))))
  refine z_tln dL_law_629 rfl rfl (z_il dL_law_630 rfl (z_ic dL_law_632 (z_iadd dL_law_633 (z_sld dL_law_634 ⟨by omega, by omega⟩ hLn ?_))))
  refine z_callV xGL_s (bc := bc) (bs := bs) (c := 121) (as := [vI (xs (5 * (i : Int) + 1).toNat).toInt, vI (xs (5 * (i : Int) + 2).toNat).toInt]) (S := [vI r]) dL_law_635 ml_L_85 rfl (s_X11_hauls hM) rfl (by decide) (Nat.le_of_ble_eq_true rfl) (fun r' n' σ' _ hK => ?_)
  obtain ⟨rfl, rfl, rfl⟩ := hK
  exact z_wr2 rfl rfl (z_ceq dL_law_638 (tgt := 1440) rfl (I32_xw _) (I32_xw _) (fun _ => kk _ hX) (fun hne => absurd rfl hne))
theorem dL_law_643 : decode cL_law 643 = .ok (.aload_n 1, 1) := by decide +kernel
theorem dL_law_644 : decode cL_law 644 = .ok (.aload_n 0, 1) := by decide +kernel
theorem dL_law_645 : decode cL_law 645 = .ok (.iload 4, 2) := by decide +kernel
theorem dL_law_647 : decode cL_law 647 = .ok (.iconst 1, 1) := by decide +kernel
theorem dL_law_648 : decode cL_law 648 = .ok (.iadd, 1) := by decide +kernel
theorem dL_law_649 : decode cL_law 649 = .ok (.iaload, 1) := by decide +kernel
theorem dL_law_650 : decode cL_law 650 = .ok (.aload_n 0, 1) := by decide +kernel
theorem dL_law_651 : decode cL_law 651 = .ok (.iload 4, 2) := by decide +kernel
theorem dL_law_653 : decode cL_law 653 = .ok (.iconst 2, 1) := by decide +kernel
theorem dL_law_654 : decode cL_law 654 = .ok (.iadd, 1) := by decide +kernel
theorem dL_law_655 : decode cL_law 655 = .ok (.iaload, 1) := by decide +kernel
theorem dL_law_656 : decode cL_law 656 = .ok (.aload_n 0, 1) := by decide +kernel
theorem dL_law_657 : decode cL_law 657 = .ok (.iload 4, 2) := by decide +kernel
theorem dL_law_659 : decode cL_law 659 = .ok (.iconst 3, 1) := by decide +kernel
theorem dL_law_660 : decode cL_law 660 = .ok (.iadd, 1) := by decide +kernel
theorem dL_law_661 : decode cL_law 661 = .ok (.iaload, 1) := by decide +kernel
theorem dL_law_662 : decode cL_law 662 = .ok (.invokevirtual 86, 3) := by decide +kernel
theorem dL_law_665 : decode cL_law 665 = .ok (.aload_n 2, 1) := by decide +kernel
theorem dL_law_666 : decode cL_law 666 = .ok (.aload_n 0, 1) := by decide +kernel
theorem dL_law_667 : decode cL_law 667 = .ok (.iload 4, 2) := by decide +kernel
theorem dL_law_669 : decode cL_law 669 = .ok (.iconst 1, 1) := by decide +kernel
theorem dL_law_670 : decode cL_law 670 = .ok (.iadd, 1) := by decide +kernel
theorem dL_law_671 : decode cL_law 671 = .ok (.iaload, 1) := by decide +kernel
theorem dL_law_672 : decode cL_law 672 = .ok (.aload_n 0, 1) := by decide +kernel
theorem dL_law_673 : decode cL_law 673 = .ok (.iload 4, 2) := by decide +kernel
theorem dL_law_675 : decode cL_law 675 = .ok (.iconst 2, 1) := by decide +kernel
theorem dL_law_676 : decode cL_law 676 = .ok (.iadd, 1) := by decide +kernel
theorem dL_law_677 : decode cL_law 677 = .ok (.iaload, 1) := by decide +kernel
theorem dL_law_678 : decode cL_law 678 = .ok (.aload_n 0, 1) := by decide +kernel
theorem dL_law_679 : decode cL_law 679 = .ok (.iload 4, 2) := by decide +kernel
theorem dL_law_681 : decode cL_law 681 = .ok (.iconst 3, 1) := by decide +kernel
theorem dL_law_682 : decode cL_law 682 = .ok (.iadd, 1) := by decide +kernel
theorem dL_law_683 : decode cL_law 683 = .ok (.iaload, 1) := by decide +kernel
theorem dL_law_684 : decode cL_law 684 = .ok (.invokevirtual 90, 3) := by decide +kernel
theorem dL_law_687 : decode cL_law 687 = .ok (.if_icmp .eq 753, 3) := by decide +kernel
theorem dL_law_690 : decode cL_law 690 = .ok (.iconst 0, 1) := by decide +kernel
theorem dL_law_691 : decode cL_law 691 = .ok (.ireturn, 1) := by decide +kernel
theorem law_c13 {Ln : Nat} {xs : Nat → Int32} {i bc bs : Nat} {B : Int} {σ : xW} {K : List xV → Nat → xW → Prop} (hLn : Ln ≤ 2560) (hi : 5 * i + 5 ≤ Ln) (hB : 0 ≤ B ∧ B ≤ 1000000) (h : XR B σ σ) (kk : xKK Ln xs i bc bs B K) : xZ (xGL Ln xs) 330 (bc + 100) (bs + 400) mL_law 643 [vT 100, vR 0, vR 121, vR 154, vI (5 * (i : Int)), vX, vX, vX] [] 155 σ K := by
  obtain ⟨r, σ1, τ1, hF, hM, hX⟩ := xstep (cf := F_X10_moves (xs (5 * (i : Int) + 1).toNat).toInt (xs (5 * (i : Int) + 2).toNat).toInt (xs (5 * (i : Int) + 3).toNat).toInt) (mf := F_X11_moves (xs (5 * (i : Int) + 1).toNat).toInt (xs (5 * (i : Int) + 2).toNat).toInt (xs (5 * (i : Int) + 3).toNat).toInt) (op_moves (I32_toInt _) (I32_toInt _) (I32_toInt _)) (fun σ q hq => hi_X10_moves hq) (fun τ q hq => xfm_lo (fr_X11_moves hq) (by decide +kernel)) hB h
  refine z_budget (bc' := bc + 0 + 0) (bs' := bs + 0 + 0) (by omega) (by omega) ?_
  refine z_aln dL_law_643 rfl rfl (by decide) ?_
  refine z_tln dL_law_644 rfl rfl (z_il dL_law_645 rfl (z_ic dL_law_647 (z_iadd dL_law_648 (z_sld dL_law_649 ⟨by omega, by omega⟩ hLn ?_))))
  refine z_tln dL_law_650 rfl rfl (z_il dL_law_651 rfl (z_ic dL_law_653 (z_iadd dL_law_654 (z_sld dL_law_655 ⟨by omega, by omega⟩ hLn ?_))))
  refine z_tln dL_law_656 rfl rfl (z_il dL_law_657 rfl (z_ic dL_law_659 (z_iadd dL_law_660 (z_sld dL_law_661 ⟨by omega, by omega⟩ hLn ?_))))
  refine z_callV xGL_s (bc := bc + 0) (bs := bs + 0) (c := 0) (as := [vI (xs (5 * (i : Int) + 1).toNat).toInt, vI (xs (5 * (i : Int) + 2).toNat).toInt, vI (xs (5 * (i : Int) + 3).toNat).toInt]) (S := []) dL_law_662 ml_L_86 rfl (s_X10_moves hF) rfl (by decide) (by decide) (fun r' n' σ' _ hK => ?_)
  obtain ⟨rfl, rfl, rfl⟩ := hK
  refine z_aln dL_law_665 rfl rfl (by decide) ?_
  refine z_tln dL_law_666 rfl rfl (z_il dL_law_667 rfl (z_ic dL_law_669 (z_iadd dL_law_670 (z_sld dL_law_671 ⟨by omega, by omega⟩ hLn ?_))))
  refine z_tln dL_law_672 rfl rfl (z_il dL_law_673 rfl (z_ic dL_law_675 (z_iadd dL_law_676 (z_sld dL_law_677 ⟨by omega, by omega⟩ hLn ?_))))
  refine z_tln dL_law_678 rfl rfl (z_il dL_law_679 rfl (z_ic dL_law_681 (z_iadd dL_law_682 (z_sld dL_law_683 ⟨by omega, by omega⟩ hLn ?_))))
  refine z_callV xGL_s (bc := bc) (bs := bs) (c := 121) (as := [vI (xs (5 * (i : Int) + 1).toNat).toInt, vI (xs (5 * (i : Int) + 2).toNat).toInt, vI (xs (5 * (i : Int) + 3).toNat).toInt]) (S := [vI r]) dL_law_684 ml_L_90 rfl (s_X11_moves hM) rfl (by decide) (Nat.le_of_ble_eq_true rfl) (fun r' n' σ' _ hK => ?_)
  obtain ⟨rfl, rfl, rfl⟩ := hK
  exact z_wr2 rfl rfl (z_ceq dL_law_687 (tgt := 1440) rfl (I32_xw _) (I32_xw _) (fun _ => kk _ hX) (fun hne => absurd rfl hne))
theorem dL_law_692 : decode cL_law 692 = .ok (.aload_n 1, 1) := by decide +kernel
theorem dL_law_693 : decode cL_law 693 = .ok (.aload_n 0, 1) := by decide +kernel
theorem dL_law_694 : decode cL_law 694 = .ok (.iload 4, 2) := by decide +kernel
theorem dL_law_696 : decode cL_law 696 = .ok (.iconst 1, 1) := by decide +kernel
theorem dL_law_697 : decode cL_law 697 = .ok (.iadd, 1) := by decide +kernel
theorem dL_law_698 : decode cL_law 698 = .ok (.iaload, 1) := by decide +kernel
theorem dL_law_699 : decode cL_law 699 = .ok (.aload_n 0, 1) := by decide +kernel
theorem dL_law_700 : decode cL_law 700 = .ok (.iload 4, 2) := by decide +kernel
theorem dL_law_702 : decode cL_law 702 = .ok (.iconst 2, 1) := by decide +kernel
theorem dL_law_703 : decode cL_law 703 = .ok (.iadd, 1) := by decide +kernel
theorem dL_law_704 : decode cL_law 704 = .ok (.iaload, 1) := by decide +kernel
theorem dL_law_705 : decode cL_law 705 = .ok (.invokevirtual 91, 3) := by decide +kernel
theorem dL_law_708 : decode cL_law 708 = .ok (.aload_n 2, 1) := by decide +kernel
theorem dL_law_709 : decode cL_law 709 = .ok (.aload_n 0, 1) := by decide +kernel
theorem dL_law_710 : decode cL_law 710 = .ok (.iload 4, 2) := by decide +kernel
theorem dL_law_712 : decode cL_law 712 = .ok (.iconst 1, 1) := by decide +kernel
theorem dL_law_713 : decode cL_law 713 = .ok (.iadd, 1) := by decide +kernel
theorem dL_law_714 : decode cL_law 714 = .ok (.iaload, 1) := by decide +kernel
theorem dL_law_715 : decode cL_law 715 = .ok (.aload_n 0, 1) := by decide +kernel
theorem dL_law_716 : decode cL_law 716 = .ok (.iload 4, 2) := by decide +kernel
theorem dL_law_718 : decode cL_law 718 = .ok (.iconst 2, 1) := by decide +kernel
theorem dL_law_719 : decode cL_law 719 = .ok (.iadd, 1) := by decide +kernel
theorem dL_law_720 : decode cL_law 720 = .ok (.iaload, 1) := by decide +kernel
theorem dL_law_721 : decode cL_law 721 = .ok (.invokevirtual 94, 3) := by decide +kernel
theorem dL_law_724 : decode cL_law 724 = .ok (.if_icmp .eq 716, 3) := by decide +kernel
theorem dL_law_727 : decode cL_law 727 = .ok (.iconst 0, 1) := by decide +kernel
theorem dL_law_728 : decode cL_law 728 = .ok (.ireturn, 1) := by decide +kernel
theorem law_c14 {Ln : Nat} {xs : Nat → Int32} {i bc bs : Nat} {B : Int} {σ : xW} {K : List xV → Nat → xW → Prop} (hLn : Ln ≤ 2560) (hi : 5 * i + 5 ≤ Ln) (hB : 0 ≤ B ∧ B ≤ 1000000) (h : XR B σ σ) (kk : xKK Ln xs i bc bs B K) : xZ (xGL Ln xs) 330 (bc + 100) (bs + 400) mL_law 692 [vT 100, vR 0, vR 121, vR 154, vI (5 * (i : Int)), vX, vX, vX] [] 155 σ K := by
  obtain ⟨r, σ1, τ1, hF, hM, hX⟩ := xstep (cf := F_X10_takes (xs (5 * (i : Int) + 1).toNat).toInt (xs (5 * (i : Int) + 2).toNat).toInt) (mf := F_X11_takes (xs (5 * (i : Int) + 1).toNat).toInt (xs (5 * (i : Int) + 2).toNat).toInt) (op_takes (I32_toInt _) (I32_toInt _)) (fun σ q hq => hi_X10_takes hq) (fun τ q hq => xfm_lo (fr_X11_takes hq) (by decide +kernel)) hB h
  refine z_budget (bc' := bc + 0 + 0) (bs' := bs + 0 + 0) (by omega) (by omega) ?_
  refine z_aln dL_law_692 rfl rfl (by decide) ?_
  refine z_tln dL_law_693 rfl rfl (z_il dL_law_694 rfl (z_ic dL_law_696 (z_iadd dL_law_697 (z_sld dL_law_698 ⟨by omega, by omega⟩ hLn ?_))))
  refine z_tln dL_law_699 rfl rfl (z_il dL_law_700 rfl (z_ic dL_law_702 (z_iadd dL_law_703 (z_sld dL_law_704 ⟨by omega, by omega⟩ hLn ?_))))
  refine z_callV xGL_s (bc := bc + 0) (bs := bs + 0) (c := 0) (as := [vI (xs (5 * (i : Int) + 1).toNat).toInt, vI (xs (5 * (i : Int) + 2).toNat).toInt]) (S := []) dL_law_705 ml_L_91 rfl (s_X10_takes hF) rfl (by decide) (by decide) (fun r' n' σ' _ hK => ?_)
  obtain ⟨rfl, rfl, rfl⟩ := hK
  refine z_aln dL_law_708 rfl rfl (by decide) ?_
  refine z_tln dL_law_709 rfl rfl (z_il dL_law_710 rfl (z_ic dL_law_712 (z_iadd dL_law_713 (z_sld dL_law_714 ⟨by omega, by omega⟩ hLn ?_))))
  refine z_tln dL_law_715 rfl rfl (z_il dL_law_716 rfl (z_ic dL_law_718 (z_iadd dL_law_719 (z_sld dL_law_720 ⟨by omega, by omega⟩ hLn ?_))))
  refine z_callV xGL_s (bc := bc) (bs := bs) (c := 121) (as := [vI (xs (5 * (i : Int) + 1).toNat).toInt, vI (xs (5 * (i : Int) + 2).toNat).toInt]) (S := [vI r]) dL_law_721 ml_L_94 rfl (s_X11_takes hM) rfl (by decide) (Nat.le_of_ble_eq_true rfl) (fun r' n' σ' _ hK => ?_)
  obtain ⟨rfl, rfl, rfl⟩ := hK
  exact z_wr2 rfl rfl (z_ceq dL_law_724 (tgt := 1440) rfl (I32_xw _) (I32_xw _) (fun _ => kk _ hX) (fun hne => absurd rfl hne))
theorem dL_law_729 : decode cL_law 729 = .ok (.aload_n 1, 1) := by decide +kernel
theorem dL_law_730 : decode cL_law 730 = .ok (.aload_n 0, 1) := by decide +kernel
theorem dL_law_731 : decode cL_law 731 = .ok (.iload 4, 2) := by decide +kernel
theorem dL_law_733 : decode cL_law 733 = .ok (.iconst 1, 1) := by decide +kernel
theorem dL_law_734 : decode cL_law 734 = .ok (.iadd, 1) := by decide +kernel
theorem dL_law_735 : decode cL_law 735 = .ok (.iaload, 1) := by decide +kernel
theorem dL_law_736 : decode cL_law 736 = .ok (.aload_n 0, 1) := by decide +kernel
theorem dL_law_737 : decode cL_law 737 = .ok (.iload 4, 2) := by decide +kernel
theorem dL_law_739 : decode cL_law 739 = .ok (.iconst 2, 1) := by decide +kernel
theorem dL_law_740 : decode cL_law 740 = .ok (.iadd, 1) := by decide +kernel
theorem dL_law_741 : decode cL_law 741 = .ok (.iaload, 1) := by decide +kernel
theorem dL_law_742 : decode cL_law 742 = .ok (.invokevirtual 95, 3) := by decide +kernel
theorem dL_law_745 : decode cL_law 745 = .ok (.aload_n 2, 1) := by decide +kernel
theorem dL_law_746 : decode cL_law 746 = .ok (.aload_n 0, 1) := by decide +kernel
theorem dL_law_747 : decode cL_law 747 = .ok (.iload 4, 2) := by decide +kernel
theorem dL_law_749 : decode cL_law 749 = .ok (.iconst 1, 1) := by decide +kernel
theorem dL_law_750 : decode cL_law 750 = .ok (.iadd, 1) := by decide +kernel
theorem dL_law_751 : decode cL_law 751 = .ok (.iaload, 1) := by decide +kernel
theorem dL_law_752 : decode cL_law 752 = .ok (.aload_n 0, 1) := by decide +kernel
theorem dL_law_753 : decode cL_law 753 = .ok (.iload 4, 2) := by decide +kernel
theorem dL_law_755 : decode cL_law 755 = .ok (.iconst 2, 1) := by decide +kernel
theorem dL_law_756 : decode cL_law 756 = .ok (.iadd, 1) := by decide +kernel
theorem dL_law_757 : decode cL_law 757 = .ok (.iaload, 1) := by decide +kernel
theorem dL_law_758 : decode cL_law 758 = .ok (.invokevirtual 98, 3) := by decide +kernel
theorem dL_law_761 : decode cL_law 761 = .ok (.if_icmp .eq 679, 3) := by decide +kernel
theorem dL_law_764 : decode cL_law 764 = .ok (.iconst 0, 1) := by decide +kernel
theorem dL_law_765 : decode cL_law 765 = .ok (.ireturn, 1) := by decide +kernel
theorem law_c15 {Ln : Nat} {xs : Nat → Int32} {i bc bs : Nat} {B : Int} {σ : xW} {K : List xV → Nat → xW → Prop} (hLn : Ln ≤ 2560) (hi : 5 * i + 5 ≤ Ln) (hB : 0 ≤ B ∧ B ≤ 1000000) (h : XR B σ σ) (kk : xKK Ln xs i bc bs B K) : xZ (xGL Ln xs) 330 (bc + 100) (bs + 400) mL_law 729 [vT 100, vR 0, vR 121, vR 154, vI (5 * (i : Int)), vX, vX, vX] [] 155 σ K := by
  obtain ⟨r, σ1, τ1, hF, hM, hX⟩ := xstep (cf := F_X10_hill (xs (5 * (i : Int) + 1).toNat).toInt (xs (5 * (i : Int) + 2).toNat).toInt) (mf := F_X11_hill (xs (5 * (i : Int) + 1).toNat).toInt (xs (5 * (i : Int) + 2).toNat).toInt) (op_hill (I32_toInt _) (I32_toInt _)) (fun σ q hq => hi_X10_hill hq) (fun τ q hq => xfm_lo (fr_X11_hill hq) (by decide +kernel)) hB h
  refine z_budget (bc' := bc + 0 + 0) (bs' := bs + 0 + 0) (by omega) (by omega) ?_
  refine z_aln dL_law_729 rfl rfl (by decide) ?_
  refine z_tln dL_law_730 rfl rfl (z_il dL_law_731 rfl (z_ic dL_law_733 (z_iadd dL_law_734 (z_sld dL_law_735 ⟨by omega, by omega⟩ hLn ?_))))
  refine z_tln dL_law_736 rfl rfl (z_il dL_law_737 rfl (z_ic dL_law_739 (z_iadd dL_law_740 (z_sld dL_law_741 ⟨by omega, by omega⟩ hLn ?_))))
  refine z_callV xGL_s (bc := bc + 0) (bs := bs + 0) (c := 0) (as := [vI (xs (5 * (i : Int) + 1).toNat).toInt, vI (xs (5 * (i : Int) + 2).toNat).toInt]) (S := []) dL_law_742 ml_L_95 rfl (s_X10_hill hF) rfl (by decide) (by decide) (fun r' n' σ' _ hK => ?_)
  obtain ⟨rfl, rfl, rfl⟩ := hK
  refine z_aln dL_law_745 rfl rfl (by decide) ?_
  refine z_tln dL_law_746 rfl rfl (z_il dL_law_747 rfl (z_ic dL_law_749 (z_iadd dL_law_750 (z_sld dL_law_751 ⟨by omega, by omega⟩ hLn ?_))))
  refine z_tln dL_law_752 rfl rfl (z_il dL_law_753 rfl (z_ic dL_law_755 (z_iadd dL_law_756 (z_sld dL_law_757 ⟨by omega, by omega⟩ hLn ?_))))
  refine z_callV xGL_s (bc := bc) (bs := bs) (c := 121) (as := [vI (xs (5 * (i : Int) + 1).toNat).toInt, vI (xs (5 * (i : Int) + 2).toNat).toInt]) (S := [vI r]) dL_law_758 ml_L_98 rfl (s_X11_hill hM) rfl (by decide) (Nat.le_of_ble_eq_true rfl) (fun r' n' σ' _ hK => ?_)
  obtain ⟨rfl, rfl, rfl⟩ := hK
  exact z_wr2 rfl rfl (z_ceq dL_law_761 (tgt := 1440) rfl (I32_xw _) (I32_xw _) (fun _ => kk _ hX) (fun hne => absurd rfl hne))
theorem dL_law_766 : decode cL_law 766 = .ok (.aload_n 1, 1) := by decide +kernel
theorem dL_law_767 : decode cL_law 767 = .ok (.invokevirtual 99, 3) := by decide +kernel
theorem dL_law_770 : decode cL_law 770 = .ok (.aload_n 2, 1) := by decide +kernel
theorem dL_law_771 : decode cL_law 771 = .ok (.invokevirtual 102, 3) := by decide +kernel
theorem dL_law_774 : decode cL_law 774 = .ok (.if_icmp .eq 666, 3) := by decide +kernel
theorem dL_law_777 : decode cL_law 777 = .ok (.iconst 0, 1) := by decide +kernel
theorem dL_law_778 : decode cL_law 778 = .ok (.ireturn, 1) := by decide +kernel
theorem law_c16 {Ln : Nat} {xs : Nat → Int32} {i bc bs : Nat} {B : Int} {σ : xW} {K : List xV → Nat → xW → Prop} (hLn : Ln ≤ 2560) (hi : 5 * i + 5 ≤ Ln) (hB : 0 ≤ B ∧ B ≤ 1000000) (h : XR B σ σ) (kk : xKK Ln xs i bc bs B K) : xZ (xGL Ln xs) 330 (bc + 100) (bs + 400) mL_law 766 [vT 100, vR 0, vR 121, vR 154, vI (5 * (i : Int)), vX, vX, vX] [] 155 σ K := by
  obtain ⟨r, σ1, τ1, hF, hM, hX⟩ := xstep (cf := F_X10_week ) (mf := F_X11_week ) op_week (fun σ q hq => hi_X10_week hq) (fun τ q hq => xfm_lo (fr_X11_week hq) (by decide +kernel)) hB h
  refine z_budget (bc' := bc + 0 + 0) (bs' := bs + 0 + 0) (by omega) (by omega) ?_
  refine z_aln dL_law_766 rfl rfl (by decide) ?_
  refine z_callV xGL_s (bc := bc + 0) (bs := bs + 0) (c := 0) (as := []) (S := []) dL_law_767 ml_L_99 rfl (s_X10_week hF) rfl (by decide) (by decide) (fun r' n' σ' _ hK => ?_)
  obtain ⟨rfl, rfl, rfl⟩ := hK
  refine z_aln dL_law_770 rfl rfl (by decide) ?_
  refine z_callV xGL_s (bc := bc) (bs := bs) (c := 121) (as := []) (S := [vI r]) dL_law_771 ml_L_102 rfl (s_X11_week hM) rfl (by decide) (Nat.le_of_ble_eq_true rfl) (fun r' n' σ' _ hK => ?_)
  obtain ⟨rfl, rfl, rfl⟩ := hK
  exact z_wr2 rfl rfl (z_ceq dL_law_774 (tgt := 1440) rfl (I32_xw _) (I32_xw _) (fun _ => kk _ hX) (fun hne => absurd rfl hne))
theorem dL_law_779 : decode cL_law 779 = .ok (.aload_n 1, 1) := by decide +kernel
theorem dL_law_780 : decode cL_law 780 = .ok (.invokevirtual 103, 3) := by decide +kernel
theorem dL_law_783 : decode cL_law 783 = .ok (.aload_n 2, 1) := by decide +kernel
theorem dL_law_784 : decode cL_law 784 = .ok (.invokevirtual 106, 3) := by decide +kernel
theorem dL_law_787 : decode cL_law 787 = .ok (.if_icmp .eq 653, 3) := by decide +kernel
theorem dL_law_790 : decode cL_law 790 = .ok (.iconst 0, 1) := by decide +kernel
theorem dL_law_791 : decode cL_law 791 = .ok (.ireturn, 1) := by decide +kernel
theorem law_c17 {Ln : Nat} {xs : Nat → Int32} {i bc bs : Nat} {B : Int} {σ : xW} {K : List xV → Nat → xW → Prop} (hLn : Ln ≤ 2560) (hi : 5 * i + 5 ≤ Ln) (hB : 0 ≤ B ∧ B ≤ 1000000) (h : XR B σ σ) (kk : xKK Ln xs i bc bs B K) : xZ (xGL Ln xs) 330 (bc + 100) (bs + 400) mL_law 779 [vT 100, vR 0, vR 121, vR 154, vI (5 * (i : Int)), vX, vX, vX] [] 155 σ K := by
  obtain ⟨r, σ1, τ1, hF, hM, hX⟩ := xstep (cf := F_X10_undo ) (mf := F_X11_undo ) op_undo (fun σ q hq => xfm_hi (fr_X10_undo hq) (by decide +kernel)) (fun τ q hq => xfm_lo (fr_X11_undo hq) (by decide +kernel)) hB h
  refine z_budget (bc' := bc + 0 + 0) (bs' := bs + 0 + 0) (by omega) (by omega) ?_
  refine z_aln dL_law_779 rfl rfl (by decide) ?_
  refine z_callV xGL_s (bc := bc + 0) (bs := bs + 0) (c := 0) (as := []) (S := []) dL_law_780 ml_L_103 rfl (s_X10_undo hF) rfl (by decide) (by decide) (fun r' n' σ' _ hK => ?_)
  obtain ⟨rfl, rfl, rfl⟩ := hK
  refine z_aln dL_law_783 rfl rfl (by decide) ?_
  refine z_callV xGL_s (bc := bc) (bs := bs) (c := 121) (as := []) (S := [vI r]) dL_law_784 ml_L_106 rfl (s_X11_undo hM) rfl (by decide) (Nat.le_of_ble_eq_true rfl) (fun r' n' σ' _ hK => ?_)
  obtain ⟨rfl, rfl, rfl⟩ := hK
  exact z_wr2 rfl rfl (z_ceq dL_law_787 (tgt := 1440) rfl (I32_xw _) (I32_xw _) (fun _ => kk _ hX) (fun hne => absurd rfl hne))
theorem dL_law_792 : decode cL_law 792 = .ok (.aload_n 1, 1) := by decide +kernel
theorem dL_law_793 : decode cL_law 793 = .ok (.invokevirtual 107, 3) := by decide +kernel
theorem dL_law_796 : decode cL_law 796 = .ok (.aload_n 2, 1) := by decide +kernel
theorem dL_law_797 : decode cL_law 797 = .ok (.invokevirtual 110, 3) := by decide +kernel
theorem dL_law_800 : decode cL_law 800 = .ok (.if_icmp .eq 640, 3) := by decide +kernel
theorem dL_law_803 : decode cL_law 803 = .ok (.iconst 0, 1) := by decide +kernel
theorem dL_law_804 : decode cL_law 804 = .ok (.ireturn, 1) := by decide +kernel
theorem law_c18 {Ln : Nat} {xs : Nat → Int32} {i bc bs : Nat} {B : Int} {σ : xW} {K : List xV → Nat → xW → Prop} (hLn : Ln ≤ 2560) (hi : 5 * i + 5 ≤ Ln) (hB : 0 ≤ B ∧ B ≤ 1000000) (h : XR B σ σ) (kk : xKK Ln xs i bc bs B K) : xZ (xGL Ln xs) 330 (bc + 100) (bs + 400) mL_law 792 [vT 100, vR 0, vR 121, vR 154, vI (5 * (i : Int)), vX, vX, vX] [] 155 σ K := by
  obtain ⟨r, σ1, τ1, hF, hM, hX⟩ := xstep (cf := F_X10_order ) (mf := F_X11_order ) op_order (fun σ q hq => xfm_hi (fr_X10_order hq) (by decide +kernel)) (fun τ q hq => xfm_lo (fr_X11_order hq) (by decide +kernel)) hB h
  refine z_budget (bc' := bc + 0 + 0) (bs' := bs + 0 + 0) (by omega) (by omega) ?_
  refine z_aln dL_law_792 rfl rfl (by decide) ?_
  refine z_callV xGL_s (bc := bc + 0) (bs := bs + 0) (c := 0) (as := []) (S := []) dL_law_793 ml_L_107 rfl (s_X10_order hF) rfl (by decide) (by decide) (fun r' n' σ' _ hK => ?_)
  obtain ⟨rfl, rfl, rfl⟩ := hK
  refine z_aln dL_law_796 rfl rfl (by decide) ?_
  refine z_callV xGL_s (bc := bc) (bs := bs) (c := 121) (as := []) (S := [vI r]) dL_law_797 ml_L_110 rfl (s_X11_order hM) rfl (by decide) (Nat.le_of_ble_eq_true rfl) (fun r' n' σ' _ hK => ?_)
  obtain ⟨rfl, rfl, rfl⟩ := hK
  exact z_wr2 rfl rfl (z_ceq dL_law_800 (tgt := 1440) rfl (I32_xw _) (I32_xw _) (fun _ => kk _ hX) (fun hne => absurd rfl hne))
theorem dL_law_805 : decode cL_law 805 = .ok (.aload_n 1, 1) := by decide +kernel
theorem dL_law_806 : decode cL_law 806 = .ok (.invokevirtual 111, 3) := by decide +kernel
theorem dL_law_809 : decode cL_law 809 = .ok (.aload_n 2, 1) := by decide +kernel
theorem dL_law_810 : decode cL_law 810 = .ok (.invokevirtual 114, 3) := by decide +kernel
theorem dL_law_813 : decode cL_law 813 = .ok (.if_icmp .eq 627, 3) := by decide +kernel
theorem dL_law_816 : decode cL_law 816 = .ok (.iconst 0, 1) := by decide +kernel
theorem dL_law_817 : decode cL_law 817 = .ok (.ireturn, 1) := by decide +kernel
theorem law_c19 {Ln : Nat} {xs : Nat → Int32} {i bc bs : Nat} {B : Int} {σ : xW} {K : List xV → Nat → xW → Prop} (hLn : Ln ≤ 2560) (hi : 5 * i + 5 ≤ Ln) (hB : 0 ≤ B ∧ B ≤ 1000000) (h : XR B σ σ) (kk : xKK Ln xs i bc bs B K) : xZ (xGL Ln xs) 330 (bc + 100) (bs + 400) mL_law 805 [vT 100, vR 0, vR 121, vR 154, vI (5 * (i : Int)), vX, vX, vX] [] 155 σ K := by
  obtain ⟨r, σ1, τ1, hF, hM, hX⟩ := xstep (cf := F_X10_clashes ) (mf := F_X11_clashes ) op_clashes (fun σ q hq => xfm_hi (fr_X10_clashes hq) (by decide +kernel)) (fun τ q hq => xfm_lo (fr_X11_clashes hq) (by decide +kernel)) hB h
  refine z_budget (bc' := bc + 0 + 0) (bs' := bs + 0 + 0) (by omega) (by omega) ?_
  refine z_aln dL_law_805 rfl rfl (by decide) ?_
  refine z_callV xGL_s (bc := bc + 0) (bs := bs + 0) (c := 0) (as := []) (S := []) dL_law_806 ml_L_111 rfl (s_X10_clashes hF) rfl (by decide) (by decide) (fun r' n' σ' _ hK => ?_)
  obtain ⟨rfl, rfl, rfl⟩ := hK
  refine z_aln dL_law_809 rfl rfl (by decide) ?_
  refine z_callV xGL_s (bc := bc) (bs := bs) (c := 121) (as := []) (S := [vI r]) dL_law_810 ml_L_114 rfl (s_X11_clashes hM) rfl (by decide) (Nat.le_of_ble_eq_true rfl) (fun r' n' σ' _ hK => ?_)
  obtain ⟨rfl, rfl, rfl⟩ := hK
  exact z_wr2 rfl rfl (z_ceq dL_law_813 (tgt := 1440) rfl (I32_xw _) (I32_xw _) (fun _ => kk _ hX) (fun hne => absurd rfl hne))
theorem dL_law_818 : decode cL_law 818 = .ok (.aload_n 1, 1) := by decide +kernel
theorem dL_law_819 : decode cL_law 819 = .ok (.invokevirtual 115, 3) := by decide +kernel
theorem dL_law_822 : decode cL_law 822 = .ok (.aload_n 2, 1) := by decide +kernel
theorem dL_law_823 : decode cL_law 823 = .ok (.invokevirtual 118, 3) := by decide +kernel
theorem dL_law_826 : decode cL_law 826 = .ok (.if_icmp .eq 614, 3) := by decide +kernel
theorem dL_law_829 : decode cL_law 829 = .ok (.iconst 0, 1) := by decide +kernel
theorem dL_law_830 : decode cL_law 830 = .ok (.ireturn, 1) := by decide +kernel
theorem law_c20 {Ln : Nat} {xs : Nat → Int32} {i bc bs : Nat} {B : Int} {σ : xW} {K : List xV → Nat → xW → Prop} (hLn : Ln ≤ 2560) (hi : 5 * i + 5 ≤ Ln) (hB : 0 ≤ B ∧ B ≤ 1000000) (h : XR B σ σ) (kk : xKK Ln xs i bc bs B K) : xZ (xGL Ln xs) 330 (bc + 100) (bs + 400) mL_law 818 [vT 100, vR 0, vR 121, vR 154, vI (5 * (i : Int)), vX, vX, vX] [] 155 σ K := by
  obtain ⟨r, σ1, τ1, hF, hM, hX⟩ := xstep (cf := F_X10_span ) (mf := F_X11_span ) op_span (fun σ q hq => xfm_hi (fr_X10_span hq) (by decide +kernel)) (fun τ q hq => xfm_lo (fr_X11_span hq) (by decide +kernel)) hB h
  refine z_budget (bc' := bc + 0 + 0) (bs' := bs + 0 + 0) (by omega) (by omega) ?_
  refine z_aln dL_law_818 rfl rfl (by decide) ?_
  refine z_callV xGL_s (bc := bc + 0) (bs := bs + 0) (c := 0) (as := []) (S := []) dL_law_819 ml_L_115 rfl (s_X10_span hF) rfl (by decide) (by decide) (fun r' n' σ' _ hK => ?_)
  obtain ⟨rfl, rfl, rfl⟩ := hK
  refine z_aln dL_law_822 rfl rfl (by decide) ?_
  refine z_callV xGL_s (bc := bc) (bs := bs) (c := 121) (as := []) (S := [vI r]) dL_law_823 ml_L_118 rfl (s_X11_span hM) rfl (by decide) (Nat.le_of_ble_eq_true rfl) (fun r' n' σ' _ hK => ?_)
  obtain ⟨rfl, rfl, rfl⟩ := hK
  exact z_wr2 rfl rfl (z_ceq dL_law_826 (tgt := 1440) rfl (I32_xw _) (I32_xw _) (fun _ => kk _ hX) (fun hne => absurd rfl hne))
theorem dL_law_831 : decode cL_law 831 = .ok (.aload_n 1, 1) := by decide +kernel
theorem dL_law_832 : decode cL_law 832 = .ok (.aload_n 0, 1) := by decide +kernel
theorem dL_law_833 : decode cL_law 833 = .ok (.iload 4, 2) := by decide +kernel
theorem dL_law_835 : decode cL_law 835 = .ok (.iconst 1, 1) := by decide +kernel
theorem dL_law_836 : decode cL_law 836 = .ok (.iadd, 1) := by decide +kernel
theorem dL_law_837 : decode cL_law 837 = .ok (.iaload, 1) := by decide +kernel
theorem dL_law_838 : decode cL_law 838 = .ok (.invokevirtual 119, 3) := by decide +kernel
theorem dL_law_841 : decode cL_law 841 = .ok (.aload_n 2, 1) := by decide +kernel
theorem dL_law_842 : decode cL_law 842 = .ok (.aload_n 0, 1) := by decide +kernel
theorem dL_law_843 : decode cL_law 843 = .ok (.iload 4, 2) := by decide +kernel
theorem dL_law_845 : decode cL_law 845 = .ok (.iconst 1, 1) := by decide +kernel
theorem dL_law_846 : decode cL_law 846 = .ok (.iadd, 1) := by decide +kernel
theorem dL_law_847 : decode cL_law 847 = .ok (.iaload, 1) := by decide +kernel
theorem dL_law_848 : decode cL_law 848 = .ok (.invokevirtual 122, 3) := by decide +kernel
theorem dL_law_851 : decode cL_law 851 = .ok (.if_icmp .eq 589, 3) := by decide +kernel
theorem dL_law_854 : decode cL_law 854 = .ok (.iconst 0, 1) := by decide +kernel
theorem dL_law_855 : decode cL_law 855 = .ok (.ireturn, 1) := by decide +kernel
theorem law_c21 {Ln : Nat} {xs : Nat → Int32} {i bc bs : Nat} {B : Int} {σ : xW} {K : List xV → Nat → xW → Prop} (hLn : Ln ≤ 2560) (hi : 5 * i + 5 ≤ Ln) (hB : 0 ≤ B ∧ B ≤ 1000000) (h : XR B σ σ) (kk : xKK Ln xs i bc bs B K) : xZ (xGL Ln xs) 330 (bc + 100) (bs + 400) mL_law 831 [vT 100, vR 0, vR 121, vR 154, vI (5 * (i : Int)), vX, vX, vX] [] 155 σ K := by
  obtain ⟨r, σ1, τ1, hF, hM, hX⟩ := xstep (cf := F_X10_lane (xs (5 * (i : Int) + 1).toNat).toInt) (mf := F_X11_lane (xs (5 * (i : Int) + 1).toNat).toInt) (op_lane (I32_toInt _)) (fun σ q hq => xfm_hi (fr_X10_lane hq) (by decide +kernel)) (fun τ q hq => xfm_lo (fr_X11_lane hq) (by decide +kernel)) hB h
  refine z_budget (bc' := bc + 0 + 0) (bs' := bs + 0 + 0) (by omega) (by omega) ?_
  refine z_aln dL_law_831 rfl rfl (by decide) ?_
  refine z_tln dL_law_832 rfl rfl (z_il dL_law_833 rfl (z_ic dL_law_835 (z_iadd dL_law_836 (z_sld dL_law_837 ⟨by omega, by omega⟩ hLn ?_))))
  refine z_callV xGL_s (bc := bc + 0) (bs := bs + 0) (c := 0) (as := [vI (xs (5 * (i : Int) + 1).toNat).toInt]) (S := []) dL_law_838 ml_L_119 rfl (s_X10_lane hF) rfl (by decide) (by decide) (fun r' n' σ' _ hK => ?_)
  obtain ⟨rfl, rfl, rfl⟩ := hK
  refine z_aln dL_law_841 rfl rfl (by decide) ?_
  refine z_tln dL_law_842 rfl rfl (z_il dL_law_843 rfl (z_ic dL_law_845 (z_iadd dL_law_846 (z_sld dL_law_847 ⟨by omega, by omega⟩ hLn ?_))))
  refine z_callV xGL_s (bc := bc) (bs := bs) (c := 121) (as := [vI (xs (5 * (i : Int) + 1).toNat).toInt]) (S := [vI r]) dL_law_848 ml_L_122 rfl (s_X11_lane hM) rfl (by decide) (Nat.le_of_ble_eq_true rfl) (fun r' n' σ' _ hK => ?_)
  obtain ⟨rfl, rfl, rfl⟩ := hK
  exact z_wr2 rfl rfl (z_ceq dL_law_851 (tgt := 1440) rfl (I32_xw _) (I32_xw _) (fun _ => kk _ hX) (fun hne => absurd rfl hne))
theorem dL_law_856 : decode cL_law 856 = .ok (.aload_n 1, 1) := by decide +kernel
theorem dL_law_857 : decode cL_law 857 = .ok (.aload_n 0, 1) := by decide +kernel
theorem dL_law_858 : decode cL_law 858 = .ok (.iload 4, 2) := by decide +kernel
theorem dL_law_860 : decode cL_law 860 = .ok (.iconst 1, 1) := by decide +kernel
theorem dL_law_861 : decode cL_law 861 = .ok (.iadd, 1) := by decide +kernel
theorem dL_law_862 : decode cL_law 862 = .ok (.iaload, 1) := by decide +kernel
theorem dL_law_863 : decode cL_law 863 = .ok (.invokevirtual 123, 3) := by decide +kernel
theorem dL_law_866 : decode cL_law 866 = .ok (.aload_n 2, 1) := by decide +kernel
theorem dL_law_867 : decode cL_law 867 = .ok (.aload_n 0, 1) := by decide +kernel
theorem dL_law_868 : decode cL_law 868 = .ok (.iload 4, 2) := by decide +kernel
theorem dL_law_870 : decode cL_law 870 = .ok (.iconst 1, 1) := by decide +kernel
theorem dL_law_871 : decode cL_law 871 = .ok (.iadd, 1) := by decide +kernel
theorem dL_law_872 : decode cL_law 872 = .ok (.iaload, 1) := by decide +kernel
theorem dL_law_873 : decode cL_law 873 = .ok (.invokevirtual 126, 3) := by decide +kernel
theorem dL_law_876 : decode cL_law 876 = .ok (.if_icmp .eq 564, 3) := by decide +kernel
theorem dL_law_879 : decode cL_law 879 = .ok (.iconst 0, 1) := by decide +kernel
theorem dL_law_880 : decode cL_law 880 = .ok (.ireturn, 1) := by decide +kernel
theorem law_c22 {Ln : Nat} {xs : Nat → Int32} {i bc bs : Nat} {B : Int} {σ : xW} {K : List xV → Nat → xW → Prop} (hLn : Ln ≤ 2560) (hi : 5 * i + 5 ≤ Ln) (hB : 0 ≤ B ∧ B ≤ 1000000) (h : XR B σ σ) (kk : xKK Ln xs i bc bs B K) : xZ (xGL Ln xs) 330 (bc + 100) (bs + 400) mL_law 856 [vT 100, vR 0, vR 121, vR 154, vI (5 * (i : Int)), vX, vX, vX] [] 155 σ K := by
  obtain ⟨r, σ1, τ1, hF, hM, hX⟩ := xstep (cf := F_X10_ahead (xs (5 * (i : Int) + 1).toNat).toInt) (mf := F_X11_ahead (xs (5 * (i : Int) + 1).toNat).toInt) (op_ahead (I32_toInt _)) (fun σ q hq => xfm_hi (fr_X10_ahead hq) (by decide +kernel)) (fun τ q hq => xfm_lo (fr_X11_ahead hq) (by decide +kernel)) hB h
  refine z_budget (bc' := bc + 0 + 0) (bs' := bs + 0 + 0) (by omega) (by omega) ?_
  refine z_aln dL_law_856 rfl rfl (by decide) ?_
  refine z_tln dL_law_857 rfl rfl (z_il dL_law_858 rfl (z_ic dL_law_860 (z_iadd dL_law_861 (z_sld dL_law_862 ⟨by omega, by omega⟩ hLn ?_))))
  refine z_callV xGL_s (bc := bc + 0) (bs := bs + 0) (c := 0) (as := [vI (xs (5 * (i : Int) + 1).toNat).toInt]) (S := []) dL_law_863 ml_L_123 rfl (s_X10_ahead hF) rfl (by decide) (by decide) (fun r' n' σ' _ hK => ?_)
  obtain ⟨rfl, rfl, rfl⟩ := hK
  refine z_aln dL_law_866 rfl rfl (by decide) ?_
  refine z_tln dL_law_867 rfl rfl (z_il dL_law_868 rfl (z_ic dL_law_870 (z_iadd dL_law_871 (z_sld dL_law_872 ⟨by omega, by omega⟩ hLn ?_))))
  refine z_callV xGL_s (bc := bc) (bs := bs) (c := 121) (as := [vI (xs (5 * (i : Int) + 1).toNat).toInt]) (S := [vI r]) dL_law_873 ml_L_126 rfl (s_X11_ahead hM) rfl (by decide) (Nat.le_of_ble_eq_true rfl) (fun r' n' σ' _ hK => ?_)
  obtain ⟨rfl, rfl, rfl⟩ := hK
  exact z_wr2 rfl rfl (z_ceq dL_law_876 (tgt := 1440) rfl (I32_xw _) (I32_xw _) (fun _ => kk _ hX) (fun hne => absurd rfl hne))
theorem dL_law_881 : decode cL_law 881 = .ok (.aload_n 1, 1) := by decide +kernel
theorem dL_law_882 : decode cL_law 882 = .ok (.invokevirtual 127, 3) := by decide +kernel
theorem dL_law_885 : decode cL_law 885 = .ok (.aload_n 2, 1) := by decide +kernel
theorem dL_law_886 : decode cL_law 886 = .ok (.invokevirtual 130, 3) := by decide +kernel
theorem dL_law_889 : decode cL_law 889 = .ok (.if_icmp .eq 551, 3) := by decide +kernel
theorem dL_law_892 : decode cL_law 892 = .ok (.iconst 0, 1) := by decide +kernel
theorem dL_law_893 : decode cL_law 893 = .ok (.ireturn, 1) := by decide +kernel
theorem law_c23 {Ln : Nat} {xs : Nat → Int32} {i bc bs : Nat} {B : Int} {σ : xW} {K : List xV → Nat → xW → Prop} (hLn : Ln ≤ 2560) (hi : 5 * i + 5 ≤ Ln) (hB : 0 ≤ B ∧ B ≤ 1000000) (h : XR B σ σ) (kk : xKK Ln xs i bc bs B K) : xZ (xGL Ln xs) 330 (bc + 100) (bs + 400) mL_law 881 [vT 100, vR 0, vR 121, vR 154, vI (5 * (i : Int)), vX, vX, vX] [] 155 σ K := by
  obtain ⟨r, σ1, τ1, hF, hM, hX⟩ := xstep (cf := F_X10_quiet ) (mf := F_X11_quiet ) op_quiet (fun σ q hq => xfm_hi (fr_X10_quiet hq) (by decide +kernel)) (fun τ q hq => xfm_lo (fr_X11_quiet hq) (by decide +kernel)) hB h
  refine z_budget (bc' := bc + 0 + 0) (bs' := bs + 0 + 0) (by omega) (by omega) ?_
  refine z_aln dL_law_881 rfl rfl (by decide) ?_
  refine z_callV xGL_s (bc := bc + 0) (bs := bs + 0) (c := 0) (as := []) (S := []) dL_law_882 ml_L_127 rfl (s_X10_quiet hF) rfl (by decide) (by decide) (fun r' n' σ' _ hK => ?_)
  obtain ⟨rfl, rfl, rfl⟩ := hK
  refine z_aln dL_law_885 rfl rfl (by decide) ?_
  refine z_callV xGL_s (bc := bc) (bs := bs) (c := 121) (as := []) (S := [vI r]) dL_law_886 ml_L_130 rfl (s_X11_quiet hM) rfl (by decide) (Nat.le_of_ble_eq_true rfl) (fun r' n' σ' _ hK => ?_)
  obtain ⟨rfl, rfl, rfl⟩ := hK
  exact z_wr2 rfl rfl (z_ceq dL_law_889 (tgt := 1440) rfl (I32_xw _) (I32_xw _) (fun _ => kk _ hX) (fun hne => absurd rfl hne))

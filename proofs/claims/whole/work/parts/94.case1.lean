theorem law_spoils : lK 733 := by
  intro p l e s m below meth c b L xs hL C0 D cI cZ cQ adK adV adx adm K σ τ h H locs G i hi ls hl Q kk
  have X := at_cx C0
  have hx := X.1
  have hb := X.2.1
  have hX := C0.2.2.2.2.2.2.1
  have hbl : b < s.heap.size := C0.2.2.2.2.2.2.2.1
  have hbA : ¬ s.heap.size ≤ b := Nat.not_le.mpr hbl
  obtain ⟨r, σ', τ', h1, h2, h3⟩ := op_spoils h (xs (i + 1).toNatClampNeg) (xs (i + 2).toNatClampNeg)
  refine lv_aload_n hx hb dL_law_733 rfl (lv_at hl 2 rfl) ?_
  refine lv_aload_n hx hb dL_law_734 rfl (lv_at hl 3 rfl) ?_
  refine lv_iload_n hx hb dL_law_735 rfl (lv_at hl 0 rfl) ?_
  refine lv_iconst (v := 1) hx hb dL_law_736 (by decide) ?_
  refine lv_iadd hx hb dL_law_737 ?_
  refine va_sld hx hb hX hbl hbA G.2.2 (lw_in hL hi 1 (by decide)) dL_law_738 ?_
  refine lv_aload_n hx hb dL_law_739 rfl (lv_at hl 3 rfl) ?_
  refine lv_iload_n hx hb dL_law_740 rfl (lv_at hl 0 rfl) ?_
  refine lv_iconst (v := 2) hx hb dL_law_741 (by decide) ?_
  refine lv_iadd hx hb dL_law_742 ?_
  refine va_sld hx hb hX hbl hbA G.2.2 (lw_in hL hi 2 (by decide)) dL_law_743 ?_
  refine lcX (As := [.int (xs (i + 1).toNatClampNeg), .int (xs (i + 2).toNatClampNeg)]) X K (fun _ h => h) G (fun A' => c_X6_spoils h1) q_625 my_X6_spoils ⟨rfl, rfl⟩ ⟨by decide, by decide⟩ ⟨by decide, by decide⟩ rfl hl.1 rfl (Nat.le_of_ble_eq_true rfl) dL_law_744 (fun H locs G => ?_)
  refine lv_aload_n hx hb dL_law_747 rfl (lv_at hl 1 rfl) ?_
  refine lv_aload_n hx hb dL_law_748 rfl (lv_at hl 3 rfl) ?_
  refine lv_iload_n hx hb dL_law_749 rfl (lv_at hl 0 rfl) ?_
  refine lv_iconst (v := 1) hx hb dL_law_750 (by decide) ?_
  refine lv_iadd hx hb dL_law_751 ?_
  refine va_sld hx hb hX hbl hbA G.2.2 (lw_in hL hi 1 (by decide)) dL_law_752 ?_
  refine lv_aload_n hx hb dL_law_753 rfl (lv_at hl 3 rfl) ?_
  refine lv_iload_n hx hb dL_law_754 rfl (lv_at hl 0 rfl) ?_
  refine lv_iconst (v := 2) hx hb dL_law_755 (by decide) ?_
  refine lv_iadd hx hb dL_law_756 ?_
  refine va_sld hx hb hX hbl hbA G.2.2 (lw_in hL hi 2 (by decide)) dL_law_757 ?_
  refine lcM (As := [.int (xs (i + 1).toNatClampNeg), .int (xs (i + 2).toNatClampNeg)]) X K (fun _ h => h) G (fun A' => c_X7_spoils h2) q_1187 my_X7_spoils ⟨rfl, rfl⟩ ⟨by decide, by decide⟩ ⟨by decide, by decide⟩ rfl hl.1 rfl (Nat.le_of_ble_eq_true rfl) dL_law_758 (fun H locs G => ?_)
  exact lv_icmp_eq (tgt := 1623) hx hb dL_law_761 (by decide) (fun _ => kk _ _ _ _ h3 G) (fun q => absurd rfl q)
theorem law_ready : lK 766 := by
  intro p l e s m below meth c b L xs hL C0 D cI cZ cQ adK adV adx adm K σ τ h H locs G i hi ls hl Q kk
  have X := at_cx C0
  have hx := X.1
  have hb := X.2.1
  have hX := C0.2.2.2.2.2.2.1
  have hbl : b < s.heap.size := C0.2.2.2.2.2.2.2.1
  have hbA : ¬ s.heap.size ≤ b := Nat.not_le.mpr hbl
  obtain ⟨r, σ', τ', h1, h2, h3⟩ := op_ready h (xs (i + 1).toNatClampNeg) (xs (i + 2).toNatClampNeg)
  refine lv_aload_n hx hb dL_law_766 rfl (lv_at hl 2 rfl) ?_
  refine lv_aload_n hx hb dL_law_767 rfl (lv_at hl 3 rfl) ?_
  refine lv_iload_n hx hb dL_law_768 rfl (lv_at hl 0 rfl) ?_
  refine lv_iconst (v := 1) hx hb dL_law_769 (by decide) ?_
  refine lv_iadd hx hb dL_law_770 ?_
  refine va_sld hx hb hX hbl hbA G.2.2 (lw_in hL hi 1 (by decide)) dL_law_771 ?_
  refine lv_aload_n hx hb dL_law_772 rfl (lv_at hl 3 rfl) ?_
  refine lv_iload_n hx hb dL_law_773 rfl (lv_at hl 0 rfl) ?_
  refine lv_iconst (v := 2) hx hb dL_law_774 (by decide) ?_
  refine lv_iadd hx hb dL_law_775 ?_
  refine va_sld hx hb hX hbl hbA G.2.2 (lw_in hL hi 2 (by decide)) dL_law_776 ?_
  refine lcX (As := [.int (xs (i + 1).toNatClampNeg), .int (xs (i + 2).toNatClampNeg)]) X K (fun _ h => h) G (fun A' => c_X6_ready h1) q_629 my_X6_ready ⟨rfl, rfl⟩ ⟨by decide, by decide⟩ ⟨by decide, by decide⟩ rfl hl.1 rfl (Nat.le_of_ble_eq_true rfl) dL_law_777 (fun H locs G => ?_)
  refine lv_aload_n hx hb dL_law_780 rfl (lv_at hl 1 rfl) ?_
  refine lv_aload_n hx hb dL_law_781 rfl (lv_at hl 3 rfl) ?_
  refine lv_iload_n hx hb dL_law_782 rfl (lv_at hl 0 rfl) ?_
  refine lv_iconst (v := 1) hx hb dL_law_783 (by decide) ?_
  refine lv_iadd hx hb dL_law_784 ?_
  refine va_sld hx hb hX hbl hbA G.2.2 (lw_in hL hi 1 (by decide)) dL_law_785 ?_
  refine lv_aload_n hx hb dL_law_786 rfl (lv_at hl 3 rfl) ?_
  refine lv_iload_n hx hb dL_law_787 rfl (lv_at hl 0 rfl) ?_
  refine lv_iconst (v := 2) hx hb dL_law_788 (by decide) ?_
  refine lv_iadd hx hb dL_law_789 ?_
  refine va_sld hx hb hX hbl hbA G.2.2 (lw_in hL hi 2 (by decide)) dL_law_790 ?_
  refine lcM (As := [.int (xs (i + 1).toNatClampNeg), .int (xs (i + 2).toNatClampNeg)]) X K (fun _ h => h) G (fun A' => c_X7_ready h2) q_1191 my_X7_ready ⟨rfl, rfl⟩ ⟨by decide, by decide⟩ ⟨by decide, by decide⟩ rfl hl.1 rfl (Nat.le_of_ble_eq_true rfl) dL_law_791 (fun H locs G => ?_)
  exact lv_icmp_eq (tgt := 1623) hx hb dL_law_794 (by decide) (fun _ => kk _ _ _ _ h3 G) (fun q => absurd rfl q)
theorem law_begun : lK 799 := by
  intro p l e s m below meth c b L xs hL C0 D cI cZ cQ adK adV adx adm K σ τ h H locs G i hi ls hl Q kk
  have X := at_cx C0
  have hx := X.1
  have hb := X.2.1
  have hX := C0.2.2.2.2.2.2.1
  have hbl : b < s.heap.size := C0.2.2.2.2.2.2.2.1
  have hbA : ¬ s.heap.size ≤ b := Nat.not_le.mpr hbl
  obtain ⟨r, σ', τ', h1, h2, h3⟩ := op_begun h (xs (i + 1).toNatClampNeg) (xs (i + 2).toNatClampNeg)
  refine lv_aload_n hx hb dL_law_799 rfl (lv_at hl 2 rfl) ?_
  refine lv_aload_n hx hb dL_law_800 rfl (lv_at hl 3 rfl) ?_
  refine lv_iload_n hx hb dL_law_801 rfl (lv_at hl 0 rfl) ?_
  refine lv_iconst (v := 1) hx hb dL_law_802 (by decide) ?_
  refine lv_iadd hx hb dL_law_803 ?_
  refine va_sld hx hb hX hbl hbA G.2.2 (lw_in hL hi 1 (by decide)) dL_law_804 ?_
  refine lv_aload_n hx hb dL_law_805 rfl (lv_at hl 3 rfl) ?_
  refine lv_iload_n hx hb dL_law_806 rfl (lv_at hl 0 rfl) ?_
  refine lv_iconst (v := 2) hx hb dL_law_807 (by decide) ?_
  refine lv_iadd hx hb dL_law_808 ?_
  refine va_sld hx hb hX hbl hbA G.2.2 (lw_in hL hi 2 (by decide)) dL_law_809 ?_
  refine lcX (As := [.int (xs (i + 1).toNatClampNeg), .int (xs (i + 2).toNatClampNeg)]) X K (fun _ h => h) G (fun A' => c_X6_begun h1) q_646 my_X6_begun ⟨rfl, rfl⟩ ⟨by decide, by decide⟩ ⟨by decide, by decide⟩ rfl hl.1 rfl (Nat.le_of_ble_eq_true rfl) dL_law_810 (fun H locs G => ?_)
  refine lv_aload_n hx hb dL_law_813 rfl (lv_at hl 1 rfl) ?_
  refine lv_aload_n hx hb dL_law_814 rfl (lv_at hl 3 rfl) ?_
  refine lv_iload_n hx hb dL_law_815 rfl (lv_at hl 0 rfl) ?_
  refine lv_iconst (v := 1) hx hb dL_law_816 (by decide) ?_
  refine lv_iadd hx hb dL_law_817 ?_
  refine va_sld hx hb hX hbl hbA G.2.2 (lw_in hL hi 1 (by decide)) dL_law_818 ?_
  refine lv_aload_n hx hb dL_law_819 rfl (lv_at hl 3 rfl) ?_
  refine lv_iload_n hx hb dL_law_820 rfl (lv_at hl 0 rfl) ?_
  refine lv_iconst (v := 2) hx hb dL_law_821 (by decide) ?_
  refine lv_iadd hx hb dL_law_822 ?_
  refine va_sld hx hb hX hbl hbA G.2.2 (lw_in hL hi 2 (by decide)) dL_law_823 ?_
  refine lcM (As := [.int (xs (i + 1).toNatClampNeg), .int (xs (i + 2).toNatClampNeg)]) X K (fun _ h => h) G (fun A' => c_X7_begun h2) q_1207 my_X7_begun ⟨rfl, rfl⟩ ⟨by decide, by decide⟩ ⟨by decide, by decide⟩ rfl hl.1 rfl (Nat.le_of_ble_eq_true rfl) dL_law_824 (fun H locs G => ?_)
  exact lv_icmp_eq (tgt := 1623) hx hb dL_law_827 (by decide) (fun _ => kk _ _ _ _ h3 G) (fun q => absurd rfl q)
theorem law_latest : lK 832 := by
  intro p l e s m below meth c b L xs hL C0 D cI cZ cQ adK adV adx adm K σ τ h H locs G i hi ls hl Q kk
  have X := at_cx C0
  have hx := X.1
  have hb := X.2.1
  have hX := C0.2.2.2.2.2.2.1
  have hbl : b < s.heap.size := C0.2.2.2.2.2.2.2.1
  have hbA : ¬ s.heap.size ≤ b := Nat.not_le.mpr hbl
  obtain ⟨r, σ', τ', h1, h2, h3⟩ := op_latest h (xs (i + 1).toNatClampNeg) (xs (i + 2).toNatClampNeg)
  refine lv_aload_n hx hb dL_law_832 rfl (lv_at hl 2 rfl) ?_
  refine lv_aload_n hx hb dL_law_833 rfl (lv_at hl 3 rfl) ?_
  refine lv_iload_n hx hb dL_law_834 rfl (lv_at hl 0 rfl) ?_
  refine lv_iconst (v := 1) hx hb dL_law_835 (by decide) ?_
  refine lv_iadd hx hb dL_law_836 ?_
  refine va_sld hx hb hX hbl hbA G.2.2 (lw_in hL hi 1 (by decide)) dL_law_837 ?_
  refine lv_aload_n hx hb dL_law_838 rfl (lv_at hl 3 rfl) ?_
  refine lv_iload_n hx hb dL_law_839 rfl (lv_at hl 0 rfl) ?_
  refine lv_iconst (v := 2) hx hb dL_law_840 (by decide) ?_
  refine lv_iadd hx hb dL_law_841 ?_
  refine va_sld hx hb hX hbl hbA G.2.2 (lw_in hL hi 2 (by decide)) dL_law_842 ?_
  refine lcX (As := [.int (xs (i + 1).toNatClampNeg), .int (xs (i + 2).toNatClampNeg)]) X K (fun _ h => h) G (fun A' => c_X6_latest h1) q_651 my_X6_latest ⟨rfl, rfl⟩ ⟨by decide, by decide⟩ ⟨by decide, by decide⟩ rfl hl.1 rfl (Nat.le_of_ble_eq_true rfl) dL_law_843 (fun H locs G => ?_)
  refine lv_aload_n hx hb dL_law_846 rfl (lv_at hl 1 rfl) ?_
  refine lv_aload_n hx hb dL_law_847 rfl (lv_at hl 3 rfl) ?_
  refine lv_iload_n hx hb dL_law_848 rfl (lv_at hl 0 rfl) ?_
  refine lv_iconst (v := 1) hx hb dL_law_849 (by decide) ?_
  refine lv_iadd hx hb dL_law_850 ?_
  refine va_sld hx hb hX hbl hbA G.2.2 (lw_in hL hi 1 (by decide)) dL_law_851 ?_
  refine lv_aload_n hx hb dL_law_852 rfl (lv_at hl 3 rfl) ?_
  refine lv_iload_n hx hb dL_law_853 rfl (lv_at hl 0 rfl) ?_
  refine lv_iconst (v := 2) hx hb dL_law_854 (by decide) ?_
  refine lv_iadd hx hb dL_law_855 ?_
  refine va_sld hx hb hX hbl hbA G.2.2 (lw_in hL hi 2 (by decide)) dL_law_856 ?_
  refine lcM (As := [.int (xs (i + 1).toNatClampNeg), .int (xs (i + 2).toNatClampNeg)]) X K (fun _ h => h) G (fun A' => c_X7_latest h2) q_1211 my_X7_latest ⟨rfl, rfl⟩ ⟨by decide, by decide⟩ ⟨by decide, by decide⟩ rfl hl.1 rfl (Nat.le_of_ble_eq_true rfl) dL_law_857 (fun H locs G => ?_)
  exact lv_icmp_eq (tgt := 1623) hx hb dL_law_860 (by decide) (fun _ => kk _ _ _ _ h3 G) (fun q => absurd rfl q)
theorem law_waits : lK 865 := by
  intro p l e s m below meth c b L xs hL C0 D cI cZ cQ adK adV adx adm K σ τ h H locs G i hi ls hl Q kk
  have X := at_cx C0
  have hx := X.1
  have hb := X.2.1
  have hX := C0.2.2.2.2.2.2.1
  have hbl : b < s.heap.size := C0.2.2.2.2.2.2.2.1
  have hbA : ¬ s.heap.size ≤ b := Nat.not_le.mpr hbl
  obtain ⟨r, σ', τ', h1, h2, h3⟩ := op_waits h (xs (i + 1).toNatClampNeg) (xs (i + 2).toNatClampNeg)
  refine lv_aload_n hx hb dL_law_865 rfl (lv_at hl 2 rfl) ?_
  refine lv_aload_n hx hb dL_law_866 rfl (lv_at hl 3 rfl) ?_
  refine lv_iload_n hx hb dL_law_867 rfl (lv_at hl 0 rfl) ?_
  refine lv_iconst (v := 1) hx hb dL_law_868 (by decide) ?_
  refine lv_iadd hx hb dL_law_869 ?_
  refine va_sld hx hb hX hbl hbA G.2.2 (lw_in hL hi 1 (by decide)) dL_law_870 ?_
  refine lv_aload_n hx hb dL_law_871 rfl (lv_at hl 3 rfl) ?_
  refine lv_iload_n hx hb dL_law_872 rfl (lv_at hl 0 rfl) ?_
  refine lv_iconst (v := 2) hx hb dL_law_873 (by decide) ?_
  refine lv_iadd hx hb dL_law_874 ?_
  refine va_sld hx hb hX hbl hbA G.2.2 (lw_in hL hi 2 (by decide)) dL_law_875 ?_
  refine lcX (As := [.int (xs (i + 1).toNatClampNeg), .int (xs (i + 2).toNatClampNeg)]) X K (fun _ h => h) G (fun A' => c_X6_waits h1) q_659 my_X6_waits ⟨rfl, rfl⟩ ⟨by decide, by decide⟩ ⟨by decide, by decide⟩ rfl hl.1 rfl (Nat.le_of_ble_eq_true rfl) dL_law_876 (fun H locs G => ?_)
  refine lv_aload_n hx hb dL_law_879 rfl (lv_at hl 1 rfl) ?_
  refine lv_aload_n hx hb dL_law_880 rfl (lv_at hl 3 rfl) ?_
  refine lv_iload_n hx hb dL_law_881 rfl (lv_at hl 0 rfl) ?_
  refine lv_iconst (v := 1) hx hb dL_law_882 (by decide) ?_
  refine lv_iadd hx hb dL_law_883 ?_
  refine va_sld hx hb hX hbl hbA G.2.2 (lw_in hL hi 1 (by decide)) dL_law_884 ?_
  refine lv_aload_n hx hb dL_law_885 rfl (lv_at hl 3 rfl) ?_
  refine lv_iload_n hx hb dL_law_886 rfl (lv_at hl 0 rfl) ?_
  refine lv_iconst (v := 2) hx hb dL_law_887 (by decide) ?_
  refine lv_iadd hx hb dL_law_888 ?_
  refine va_sld hx hb hX hbl hbA G.2.2 (lw_in hL hi 2 (by decide)) dL_law_889 ?_
  refine lcM (As := [.int (xs (i + 1).toNatClampNeg), .int (xs (i + 2).toNatClampNeg)]) X K (fun _ h => h) G (fun A' => c_X7_waits h2) q_1216 my_X7_waits ⟨rfl, rfl⟩ ⟨by decide, by decide⟩ ⟨by decide, by decide⟩ rfl hl.1 rfl (Nat.le_of_ble_eq_true rfl) dL_law_890 (fun H locs G => ?_)
  exact lv_icmp_eq (tgt := 1623) hx hb dL_law_893 (by decide) (fun _ => kk _ _ _ _ h3 G) (fun q => absurd rfl q)
theorem law_order : lK 898 := by
  intro p l e s m below meth c b L xs hL C0 D cI cZ cQ adK adV adx adm K σ τ h H locs G i hi ls hl Q kk
  have X := at_cx C0
  have hx := X.1
  have hb := X.2.1
  have hX := C0.2.2.2.2.2.2.1
  have hbl : b < s.heap.size := C0.2.2.2.2.2.2.2.1
  have hbA : ¬ s.heap.size ≤ b := Nat.not_le.mpr hbl
  obtain ⟨r, σ', τ', h1, h2, h3⟩ := op_order h (xs (i + 1).toNatClampNeg) (xs (i + 2).toNatClampNeg) (xs (i + 3).toNatClampNeg)
  refine lv_aload_n hx hb dL_law_898 rfl (lv_at hl 2 rfl) ?_
  refine lv_aload_n hx hb dL_law_899 rfl (lv_at hl 3 rfl) ?_
  refine lv_iload_n hx hb dL_law_900 rfl (lv_at hl 0 rfl) ?_
  refine lv_iconst (v := 1) hx hb dL_law_901 (by decide) ?_
  refine lv_iadd hx hb dL_law_902 ?_
  refine va_sld hx hb hX hbl hbA G.2.2 (lw_in hL hi 1 (by decide)) dL_law_903 ?_
  refine lv_aload_n hx hb dL_law_904 rfl (lv_at hl 3 rfl) ?_
  refine lv_iload_n hx hb dL_law_905 rfl (lv_at hl 0 rfl) ?_
  refine lv_iconst (v := 2) hx hb dL_law_906 (by decide) ?_
  refine lv_iadd hx hb dL_law_907 ?_
  refine va_sld hx hb hX hbl hbA G.2.2 (lw_in hL hi 2 (by decide)) dL_law_908 ?_
  refine lv_aload_n hx hb dL_law_909 rfl (lv_at hl 3 rfl) ?_
  refine lv_iload_n hx hb dL_law_910 rfl (lv_at hl 0 rfl) ?_
  refine lv_iconst (v := 3) hx hb dL_law_911 (by decide) ?_
  refine lv_iadd hx hb dL_law_912 ?_
  refine va_sld hx hb hX hbl hbA G.2.2 (lw_in hL hi 3 (by decide)) dL_law_913 ?_
  refine lcX (As := [.int (xs (i + 1).toNatClampNeg), .int (xs (i + 2).toNatClampNeg), .int (xs (i + 3).toNatClampNeg)]) X K (fun _ h => h) G (fun A' => c_X6_order h1) q_670 my_X6_order ⟨rfl, rfl⟩ ⟨by decide, by decide⟩ ⟨by decide, by decide⟩ rfl hl.1 rfl (Nat.le_of_ble_eq_true rfl) dL_law_914 (fun H locs G => ?_)
  refine lv_aload_n hx hb dL_law_917 rfl (lv_at hl 1 rfl) ?_
  refine lv_aload_n hx hb dL_law_918 rfl (lv_at hl 3 rfl) ?_
  refine lv_iload_n hx hb dL_law_919 rfl (lv_at hl 0 rfl) ?_
  refine lv_iconst (v := 1) hx hb dL_law_920 (by decide) ?_
  refine lv_iadd hx hb dL_law_921 ?_
  refine va_sld hx hb hX hbl hbA G.2.2 (lw_in hL hi 1 (by decide)) dL_law_922 ?_
  refine lv_aload_n hx hb dL_law_923 rfl (lv_at hl 3 rfl) ?_
  refine lv_iload_n hx hb dL_law_924 rfl (lv_at hl 0 rfl) ?_
  refine lv_iconst (v := 2) hx hb dL_law_925 (by decide) ?_
  refine lv_iadd hx hb dL_law_926 ?_
  refine va_sld hx hb hX hbl hbA G.2.2 (lw_in hL hi 2 (by decide)) dL_law_927 ?_
  refine lv_aload_n hx hb dL_law_928 rfl (lv_at hl 3 rfl) ?_
  refine lv_iload_n hx hb dL_law_929 rfl (lv_at hl 0 rfl) ?_
  refine lv_iconst (v := 3) hx hb dL_law_930 (by decide) ?_
  refine lv_iadd hx hb dL_law_931 ?_
  refine va_sld hx hb hX hbl hbA G.2.2 (lw_in hL hi 3 (by decide)) dL_law_932 ?_
  refine lcM (As := [.int (xs (i + 1).toNatClampNeg), .int (xs (i + 2).toNatClampNeg), .int (xs (i + 3).toNatClampNeg)]) X K (fun _ h => h) G (fun A' => c_X7_order h2) q_1220 my_X7_order ⟨rfl, rfl⟩ ⟨by decide, by decide⟩ ⟨by decide, by decide⟩ rfl hl.1 rfl (Nat.le_of_ble_eq_true rfl) dL_law_933 (fun H locs G => ?_)
  exact lv_icmp_eq (tgt := 1623) hx hb dL_law_936 (by decide) (fun _ => kk _ _ _ _ h3 G) (fun q => absurd rfl q)
theorem law_orderOf : lK 941 := by
  intro p l e s m below meth c b L xs hL C0 D cI cZ cQ adK adV adx adm K σ τ h H locs G i hi ls hl Q kk
  have X := at_cx C0
  have hx := X.1
  have hb := X.2.1
  have hX := C0.2.2.2.2.2.2.1
  have hbl : b < s.heap.size := C0.2.2.2.2.2.2.2.1
  have hbA : ¬ s.heap.size ≤ b := Nat.not_le.mpr hbl
  obtain ⟨r, σ', τ', h1, h2, h3⟩ := op_orderOf h (xs (i + 1).toNatClampNeg) (xs (i + 2).toNatClampNeg)
  refine lv_aload_n hx hb dL_law_941 rfl (lv_at hl 2 rfl) ?_
  refine lv_aload_n hx hb dL_law_942 rfl (lv_at hl 3 rfl) ?_
  refine lv_iload_n hx hb dL_law_943 rfl (lv_at hl 0 rfl) ?_
  refine lv_iconst (v := 1) hx hb dL_law_944 (by decide) ?_
  refine lv_iadd hx hb dL_law_945 ?_
  refine va_sld hx hb hX hbl hbA G.2.2 (lw_in hL hi 1 (by decide)) dL_law_946 ?_
  refine lv_aload_n hx hb dL_law_947 rfl (lv_at hl 3 rfl) ?_
  refine lv_iload_n hx hb dL_law_948 rfl (lv_at hl 0 rfl) ?_
  refine lv_iconst (v := 2) hx hb dL_law_949 (by decide) ?_
  refine lv_iadd hx hb dL_law_950 ?_
  refine va_sld hx hb hX hbl hbA G.2.2 (lw_in hL hi 2 (by decide)) dL_law_951 ?_
  refine lcX (As := [.int (xs (i + 1).toNatClampNeg), .int (xs (i + 2).toNatClampNeg)]) X K (fun _ h => h) G (fun A' => c_X6_orderOf h1) q_675 my_X6_orderOf ⟨rfl, rfl⟩ ⟨by decide, by decide⟩ ⟨by decide, by decide⟩ rfl hl.1 rfl (Nat.le_of_ble_eq_true rfl) dL_law_952 (fun H locs G => ?_)
  refine lv_aload_n hx hb dL_law_955 rfl (lv_at hl 1 rfl) ?_
  refine lv_aload_n hx hb dL_law_956 rfl (lv_at hl 3 rfl) ?_
  refine lv_iload_n hx hb dL_law_957 rfl (lv_at hl 0 rfl) ?_
  refine lv_iconst (v := 1) hx hb dL_law_958 (by decide) ?_
  refine lv_iadd hx hb dL_law_959 ?_
  refine va_sld hx hb hX hbl hbA G.2.2 (lw_in hL hi 1 (by decide)) dL_law_960 ?_
  refine lv_aload_n hx hb dL_law_961 rfl (lv_at hl 3 rfl) ?_
  refine lv_iload_n hx hb dL_law_962 rfl (lv_at hl 0 rfl) ?_
  refine lv_iconst (v := 2) hx hb dL_law_963 (by decide) ?_
  refine lv_iadd hx hb dL_law_964 ?_
  refine va_sld hx hb hX hbl hbA G.2.2 (lw_in hL hi 2 (by decide)) dL_law_965 ?_
  refine lcM (As := [.int (xs (i + 1).toNatClampNeg), .int (xs (i + 2).toNatClampNeg)]) X K (fun _ h => h) G (fun A' => c_X7_orderOf h2) q_1225 my_X7_orderOf ⟨rfl, rfl⟩ ⟨by decide, by decide⟩ ⟨by decide, by decide⟩ rfl hl.1 rfl (Nat.le_of_ble_eq_true rfl) dL_law_966 (fun H locs G => ?_)
  exact lv_icmp_eq (tgt := 1623) hx hb dL_law_969 (by decide) (fun _ => kk _ _ _ _ h3 G) (fun q => absurd rfl q)
theorem law_clear : lK 974 := by
  intro p l e s m below meth c b L xs hL C0 D cI cZ cQ adK adV adx adm K σ τ h H locs G i hi ls hl Q kk
  have X := at_cx C0
  have hx := X.1
  have hb := X.2.1
  have hX := C0.2.2.2.2.2.2.1
  have hbl : b < s.heap.size := C0.2.2.2.2.2.2.2.1
  have hbA : ¬ s.heap.size ≤ b := Nat.not_le.mpr hbl
  obtain ⟨r, σ', τ', h1, h2, h3⟩ := op_clear h 
  refine lv_aload_n hx hb dL_law_974 rfl (lv_at hl 2 rfl) ?_
  refine lcX (As := []) X K (fun _ h => h) G (fun A' => c_X6_clear h1) q_683 my_X6_clear ⟨rfl, rfl⟩ ⟨by decide, by decide⟩ ⟨by decide, by decide⟩ rfl hl.1 rfl (Nat.le_of_ble_eq_true rfl) dL_law_975 (fun H locs G => ?_)
  refine lv_aload_n hx hb dL_law_978 rfl (lv_at hl 1 rfl) ?_
  refine lcM (As := []) X K (fun _ h => h) G (fun A' => c_X7_clear h2) q_1229 my_X7_clear ⟨rfl, rfl⟩ ⟨by decide, by decide⟩ ⟨by decide, by decide⟩ rfl hl.1 rfl (Nat.le_of_ble_eq_true rfl) dL_law_979 (fun H locs G => ?_)
  exact lv_icmp_eq (tgt := 1623) hx hb dL_law_982 (by decide) (fun _ => kk _ _ _ _ h3 G) (fun q => absurd rfl q)
theorem law_taken : lK 987 := by
  intro p l e s m below meth c b L xs hL C0 D cI cZ cQ adK adV adx adm K σ τ h H locs G i hi ls hl Q kk
  have X := at_cx C0
  have hx := X.1
  have hb := X.2.1
  have hX := C0.2.2.2.2.2.2.1
  have hbl : b < s.heap.size := C0.2.2.2.2.2.2.2.1
  have hbA : ¬ s.heap.size ≤ b := Nat.not_le.mpr hbl
  obtain ⟨r, σ', τ', h1, h2, h3⟩ := op_taken h (xs (i + 1).toNatClampNeg) (xs (i + 2).toNatClampNeg) (xs (i + 3).toNatClampNeg)
  refine lv_aload_n hx hb dL_law_987 rfl (lv_at hl 2 rfl) ?_
  refine lv_aload_n hx hb dL_law_988 rfl (lv_at hl 3 rfl) ?_
  refine lv_iload_n hx hb dL_law_989 rfl (lv_at hl 0 rfl) ?_
  refine lv_iconst (v := 1) hx hb dL_law_990 (by decide) ?_
  refine lv_iadd hx hb dL_law_991 ?_
  refine va_sld hx hb hX hbl hbA G.2.2 (lw_in hL hi 1 (by decide)) dL_law_992 ?_
  refine lv_aload_n hx hb dL_law_993 rfl (lv_at hl 3 rfl) ?_
  refine lv_iload_n hx hb dL_law_994 rfl (lv_at hl 0 rfl) ?_
  refine lv_iconst (v := 2) hx hb dL_law_995 (by decide) ?_
  refine lv_iadd hx hb dL_law_996 ?_
  refine va_sld hx hb hX hbl hbA G.2.2 (lw_in hL hi 2 (by decide)) dL_law_997 ?_
  refine lv_aload_n hx hb dL_law_998 rfl (lv_at hl 3 rfl) ?_
  refine lv_iload_n hx hb dL_law_999 rfl (lv_at hl 0 rfl) ?_
  refine lv_iconst (v := 3) hx hb dL_law_1000 (by decide) ?_
  refine lv_iadd hx hb dL_law_1001 ?_
  refine va_sld hx hb hX hbl hbA G.2.2 (lw_in hL hi 3 (by decide)) dL_law_1002 ?_
  refine lcX (As := [.int (xs (i + 1).toNatClampNeg), .int (xs (i + 2).toNatClampNeg), .int (xs (i + 3).toNatClampNeg)]) X K (fun _ h => h) G (fun A' => c_X6_taken h1) q_687 my_X6_taken ⟨rfl, rfl⟩ ⟨by decide, by decide⟩ ⟨by decide, by decide⟩ rfl hl.1 rfl (Nat.le_of_ble_eq_true rfl) dL_law_1003 (fun H locs G => ?_)
  refine lv_aload_n hx hb dL_law_1006 rfl (lv_at hl 1 rfl) ?_
  refine lv_aload_n hx hb dL_law_1007 rfl (lv_at hl 3 rfl) ?_
  refine lv_iload_n hx hb dL_law_1008 rfl (lv_at hl 0 rfl) ?_
  refine lv_iconst (v := 1) hx hb dL_law_1009 (by decide) ?_
  refine lv_iadd hx hb dL_law_1010 ?_
  refine va_sld hx hb hX hbl hbA G.2.2 (lw_in hL hi 1 (by decide)) dL_law_1011 ?_
  refine lv_aload_n hx hb dL_law_1012 rfl (lv_at hl 3 rfl) ?_
  refine lv_iload_n hx hb dL_law_1013 rfl (lv_at hl 0 rfl) ?_
  refine lv_iconst (v := 2) hx hb dL_law_1014 (by decide) ?_
  refine lv_iadd hx hb dL_law_1015 ?_
  refine va_sld hx hb hX hbl hbA G.2.2 (lw_in hL hi 2 (by decide)) dL_law_1016 ?_
  refine lv_aload_n hx hb dL_law_1017 rfl (lv_at hl 3 rfl) ?_
  refine lv_iload_n hx hb dL_law_1018 rfl (lv_at hl 0 rfl) ?_
  refine lv_iconst (v := 3) hx hb dL_law_1019 (by decide) ?_
  refine lv_iadd hx hb dL_law_1020 ?_
  refine va_sld hx hb hX hbl hbA G.2.2 (lw_in hL hi 3 (by decide)) dL_law_1021 ?_
  refine lcM (As := [.int (xs (i + 1).toNatClampNeg), .int (xs (i + 2).toNatClampNeg), .int (xs (i + 3).toNatClampNeg)]) X K (fun _ h => h) G (fun A' => c_X7_taken h2) q_1233 my_X7_taken ⟨rfl, rfl⟩ ⟨by decide, by decide⟩ ⟨by decide, by decide⟩ rfl hl.1 rfl (Nat.le_of_ble_eq_true rfl) dL_law_1022 (fun H locs G => ?_)
  exact lv_icmp_eq (tgt := 1623) hx hb dL_law_1025 (by decide) (fun _ => kk _ _ _ _ h3 G) (fun q => absurd rfl q)
theorem law_best : lK 1030 := by
  intro p l e s m below meth c b L xs hL C0 D cI cZ cQ adK adV adx adm K σ τ h H locs G i hi ls hl Q kk
  have X := at_cx C0
  have hx := X.1
  have hb := X.2.1
  have hX := C0.2.2.2.2.2.2.1
  have hbl : b < s.heap.size := C0.2.2.2.2.2.2.2.1
  have hbA : ¬ s.heap.size ≤ b := Nat.not_le.mpr hbl
  obtain ⟨r, σ', τ', h1, h2, h3⟩ := op_best h (xs (i + 1).toNatClampNeg)
  refine lv_aload_n hx hb dL_law_1030 rfl (lv_at hl 2 rfl) ?_
  refine lv_aload_n hx hb dL_law_1031 rfl (lv_at hl 3 rfl) ?_
  refine lv_iload_n hx hb dL_law_1032 rfl (lv_at hl 0 rfl) ?_
  refine lv_iconst (v := 1) hx hb dL_law_1033 (by decide) ?_
  refine lv_iadd hx hb dL_law_1034 ?_
  refine va_sld hx hb hX hbl hbA G.2.2 (lw_in hL hi 1 (by decide)) dL_law_1035 ?_
  refine lcX (As := [.int (xs (i + 1).toNatClampNeg)]) X K (fun _ h => h) G (fun A' => c_X6_best h1) q_729 my_X6_best ⟨rfl, rfl⟩ ⟨by decide, by decide⟩ ⟨by decide, by decide⟩ rfl hl.1 rfl (Nat.le_of_ble_eq_true rfl) dL_law_1036 (fun H locs G => ?_)
  refine lv_aload_n hx hb dL_law_1039 rfl (lv_at hl 1 rfl) ?_
  refine lv_aload_n hx hb dL_law_1040 rfl (lv_at hl 3 rfl) ?_
  refine lv_iload_n hx hb dL_law_1041 rfl (lv_at hl 0 rfl) ?_
  refine lv_iconst (v := 1) hx hb dL_law_1042 (by decide) ?_
  refine lv_iadd hx hb dL_law_1043 ?_
  refine va_sld hx hb hX hbl hbA G.2.2 (lw_in hL hi 1 (by decide)) dL_law_1044 ?_
  refine lcM (As := [.int (xs (i + 1).toNatClampNeg)]) X K (fun _ h => h) G (fun A' => c_X7_best h2) q_1265 my_X7_best ⟨rfl, rfl⟩ ⟨by decide, by decide⟩ ⟨by decide, by decide⟩ rfl hl.1 rfl (Nat.le_of_ble_eq_true rfl) dL_law_1045 (fun H locs G => ?_)
  exact lv_icmp_eq (tgt := 1623) hx hb dL_law_1048 (by decide) (fun _ => kk _ _ _ _ h3 G) (fun q => absurd rfl q)
theorem law_most : lK 1053 := by
  intro p l e s m below meth c b L xs hL C0 D cI cZ cQ adK adV adx adm K σ τ h H locs G i hi ls hl Q kk
  have X := at_cx C0
  have hx := X.1
  have hb := X.2.1
  have hX := C0.2.2.2.2.2.2.1
  have hbl : b < s.heap.size := C0.2.2.2.2.2.2.2.1
  have hbA : ¬ s.heap.size ≤ b := Nat.not_le.mpr hbl
  obtain ⟨r, σ', τ', h1, h2, h3⟩ := op_most h (xs (i + 1).toNatClampNeg)
  refine lv_aload_n hx hb dL_law_1053 rfl (lv_at hl 2 rfl) ?_
  refine lv_aload_n hx hb dL_law_1054 rfl (lv_at hl 3 rfl) ?_
  refine lv_iload_n hx hb dL_law_1055 rfl (lv_at hl 0 rfl) ?_
  refine lv_iconst (v := 1) hx hb dL_law_1056 (by decide) ?_
  refine lv_iadd hx hb dL_law_1057 ?_
  refine va_sld hx hb hX hbl hbA G.2.2 (lw_in hL hi 1 (by decide)) dL_law_1058 ?_
  refine lcX (As := [.int (xs (i + 1).toNatClampNeg)]) X K (fun _ h => h) G (fun A' => c_X6_most h1) q_754 my_X6_most ⟨rfl, rfl⟩ ⟨by decide, by decide⟩ ⟨by decide, by decide⟩ rfl hl.1 rfl (Nat.le_of_ble_eq_true rfl) dL_law_1059 (fun H locs G => ?_)
  refine lv_aload_n hx hb dL_law_1062 rfl (lv_at hl 1 rfl) ?_
  refine lv_aload_n hx hb dL_law_1063 rfl (lv_at hl 3 rfl) ?_
  refine lv_iload_n hx hb dL_law_1064 rfl (lv_at hl 0 rfl) ?_
  refine lv_iconst (v := 1) hx hb dL_law_1065 (by decide) ?_
  refine lv_iadd hx hb dL_law_1066 ?_
  refine va_sld hx hb hX hbl hbA G.2.2 (lw_in hL hi 1 (by decide)) dL_law_1067 ?_
  refine lcM (As := [.int (xs (i + 1).toNatClampNeg)]) X K (fun _ h => h) G (fun A' => c_X7_most h2) q_1269 my_X7_most ⟨rfl, rfl⟩ ⟨by decide, by decide⟩ ⟨by decide, by decide⟩ rfl hl.1 rfl (Nat.le_of_ble_eq_true rfl) dL_law_1068 (fun H locs G => ?_)
  exact lv_icmp_eq (tgt := 1623) hx hb dL_law_1071 (by decide) (fun _ => kk _ _ _ _ h3 G) (fun q => absurd rfl q)
theorem law_chokes : lK 1076 := by
  intro p l e s m below meth c b L xs hL C0 D cI cZ cQ adK adV adx adm K σ τ h H locs G i hi ls hl Q kk
  have X := at_cx C0
  have hx := X.1
  have hb := X.2.1
  have hX := C0.2.2.2.2.2.2.1
  have hbl : b < s.heap.size := C0.2.2.2.2.2.2.2.1
  have hbA : ¬ s.heap.size ≤ b := Nat.not_le.mpr hbl
  obtain ⟨r, σ', τ', h1, h2, h3⟩ := op_chokes h (xs (i + 1).toNatClampNeg)
  refine lv_aload_n hx hb dL_law_1076 rfl (lv_at hl 2 rfl) ?_
  refine lv_aload_n hx hb dL_law_1077 rfl (lv_at hl 3 rfl) ?_
  refine lv_iload_n hx hb dL_law_1078 rfl (lv_at hl 0 rfl) ?_
  refine lv_iconst (v := 1) hx hb dL_law_1079 (by decide) ?_
  refine lv_iadd hx hb dL_law_1080 ?_
  refine va_sld hx hb hX hbl hbA G.2.2 (lw_in hL hi 1 (by decide)) dL_law_1081 ?_
  refine lcX (As := [.int (xs (i + 1).toNatClampNeg)]) X K (fun _ h => h) G (fun A' => c_X6_chokes h1) q_782 my_X6_chokes ⟨rfl, rfl⟩ ⟨by decide, by decide⟩ ⟨by decide, by decide⟩ rfl hl.1 rfl (Nat.le_of_ble_eq_true rfl) dL_law_1082 (fun H locs G => ?_)
  refine lv_aload_n hx hb dL_law_1085 rfl (lv_at hl 1 rfl) ?_
  refine lv_aload_n hx hb dL_law_1086 rfl (lv_at hl 3 rfl) ?_
  refine lv_iload_n hx hb dL_law_1087 rfl (lv_at hl 0 rfl) ?_
  refine lv_iconst (v := 1) hx hb dL_law_1088 (by decide) ?_
  refine lv_iadd hx hb dL_law_1089 ?_
  refine va_sld hx hb hX hbl hbA G.2.2 (lw_in hL hi 1 (by decide)) dL_law_1090 ?_
  refine lcM (As := [.int (xs (i + 1).toNatClampNeg)]) X K (fun _ h => h) G (fun A' => c_X7_chokes h2) q_1281 my_X7_chokes ⟨rfl, rfl⟩ ⟨by decide, by decide⟩ ⟨by decide, by decide⟩ rfl hl.1 rfl (Nat.le_of_ble_eq_true rfl) dL_law_1091 (fun H locs G => ?_)
  exact lv_icmp_eq (tgt := 1623) hx hb dL_law_1094 (by decide) (fun _ => kk _ _ _ _ h3 G) (fun q => absurd rfl q)
theorem law_idle : lK 1099 := by
  intro p l e s m below meth c b L xs hL C0 D cI cZ cQ adK adV adx adm K σ τ h H locs G i hi ls hl Q kk
  have X := at_cx C0
  have hx := X.1
  have hb := X.2.1
  have hX := C0.2.2.2.2.2.2.1
  have hbl : b < s.heap.size := C0.2.2.2.2.2.2.2.1
  have hbA : ¬ s.heap.size ≤ b := Nat.not_le.mpr hbl
  obtain ⟨r, σ', τ', h1, h2, h3⟩ := op_idle h (xs (i + 1).toNatClampNeg)
  refine lv_aload_n hx hb dL_law_1099 rfl (lv_at hl 2 rfl) ?_
  refine lv_aload_n hx hb dL_law_1100 rfl (lv_at hl 3 rfl) ?_
  refine lv_iload_n hx hb dL_law_1101 rfl (lv_at hl 0 rfl) ?_
  refine lv_iconst (v := 1) hx hb dL_law_1102 (by decide) ?_
  refine lv_iadd hx hb dL_law_1103 ?_
  refine va_sld hx hb hX hbl hbA G.2.2 (lw_in hL hi 1 (by decide)) dL_law_1104 ?_
  refine lcX (As := [.int (xs (i + 1).toNatClampNeg)]) X K (fun _ h => h) G (fun A' => c_X6_idle h1) q_786 my_X6_idle ⟨rfl, rfl⟩ ⟨by decide, by decide⟩ ⟨by decide, by decide⟩ rfl hl.1 rfl (Nat.le_of_ble_eq_true rfl) dL_law_1105 (fun H locs G => ?_)
  refine lv_aload_n hx hb dL_law_1108 rfl (lv_at hl 1 rfl) ?_
  refine lv_aload_n hx hb dL_law_1109 rfl (lv_at hl 3 rfl) ?_
  refine lv_iload_n hx hb dL_law_1110 rfl (lv_at hl 0 rfl) ?_
  refine lv_iconst (v := 1) hx hb dL_law_1111 (by decide) ?_
  refine lv_iadd hx hb dL_law_1112 ?_
  refine va_sld hx hb hX hbl hbA G.2.2 (lw_in hL hi 1 (by decide)) dL_law_1113 ?_
  refine lcM (As := [.int (xs (i + 1).toNatClampNeg)]) X K (fun _ h => h) G (fun A' => c_X7_idle h2) q_1285 my_X7_idle ⟨rfl, rfl⟩ ⟨by decide, by decide⟩ ⟨by decide, by decide⟩ rfl hl.1 rfl (Nat.le_of_ble_eq_true rfl) dL_law_1114 (fun H locs G => ?_)
  exact lv_icmp_eq (tgt := 1623) hx hb dL_law_1117 (by decide) (fun _ => kk _ _ _ _ h3 G) (fun q => absurd rfl q)
theorem law_turned : lK 1122 := by
  intro p l e s m below meth c b L xs hL C0 D cI cZ cQ adK adV adx adm K σ τ h H locs G i hi ls hl Q kk
  have X := at_cx C0
  have hx := X.1
  have hb := X.2.1
  have hX := C0.2.2.2.2.2.2.1
  have hbl : b < s.heap.size := C0.2.2.2.2.2.2.2.1
  have hbA : ¬ s.heap.size ≤ b := Nat.not_le.mpr hbl
  obtain ⟨r, σ', τ', h1, h2, h3⟩ := op_turned h (xs (i + 1).toNatClampNeg)
  refine lv_aload_n hx hb dL_law_1122 rfl (lv_at hl 2 rfl) ?_
  refine lv_aload_n hx hb dL_law_1123 rfl (lv_at hl 3 rfl) ?_
  refine lv_iload_n hx hb dL_law_1124 rfl (lv_at hl 0 rfl) ?_
  refine lv_iconst (v := 1) hx hb dL_law_1125 (by decide) ?_
  refine lv_iadd hx hb dL_law_1126 ?_
  refine va_sld hx hb hX hbl hbA G.2.2 (lw_in hL hi 1 (by decide)) dL_law_1127 ?_
  refine lcX (As := [.int (xs (i + 1).toNatClampNeg)]) X K (fun _ h => h) G (fun A' => c_X6_turned h1) q_791 my_X6_turned ⟨rfl, rfl⟩ ⟨by decide, by decide⟩ ⟨by decide, by decide⟩ rfl hl.1 rfl (Nat.le_of_ble_eq_true rfl) dL_law_1128 (fun H locs G => ?_)
  refine lv_aload_n hx hb dL_law_1131 rfl (lv_at hl 1 rfl) ?_
  refine lv_aload_n hx hb dL_law_1132 rfl (lv_at hl 3 rfl) ?_
  refine lv_iload_n hx hb dL_law_1133 rfl (lv_at hl 0 rfl) ?_
  refine lv_iconst (v := 1) hx hb dL_law_1134 (by decide) ?_
  refine lv_iadd hx hb dL_law_1135 ?_
  refine va_sld hx hb hX hbl hbA G.2.2 (lw_in hL hi 1 (by decide)) dL_law_1136 ?_
  refine lcM (As := [.int (xs (i + 1).toNatClampNeg)]) X K (fun _ h => h) G (fun A' => c_X7_turned h2) q_1289 my_X7_turned ⟨rfl, rfl⟩ ⟨by decide, by decide⟩ ⟨by decide, by decide⟩ rfl hl.1 rfl (Nat.le_of_ble_eq_true rfl) dL_law_1137 (fun H locs G => ?_)
  exact lv_icmp_eq (tgt := 1623) hx hb dL_law_1140 (by decide) (fun _ => kk _ _ _ _ h3 G) (fun q => absurd rfl q)
theorem law_roundFor : lK 1145 := by
  intro p l e s m below meth c b L xs hL C0 D cI cZ cQ adK adV adx adm K σ τ h H locs G i hi ls hl Q kk
  have X := at_cx C0
  have hx := X.1
  have hb := X.2.1
  have hX := C0.2.2.2.2.2.2.1
  have hbl : b < s.heap.size := C0.2.2.2.2.2.2.2.1
  have hbA : ¬ s.heap.size ≤ b := Nat.not_le.mpr hbl
  obtain ⟨r, σ', τ', h1, h2, h3⟩ := op_roundFor h (xs (i + 1).toNatClampNeg) (xs (i + 2).toNatClampNeg)
  refine lv_aload_n hx hb dL_law_1145 rfl (lv_at hl 2 rfl) ?_
  refine lv_aload_n hx hb dL_law_1146 rfl (lv_at hl 3 rfl) ?_
  refine lv_iload_n hx hb dL_law_1147 rfl (lv_at hl 0 rfl) ?_
  refine lv_iconst (v := 1) hx hb dL_law_1148 (by decide) ?_
  refine lv_iadd hx hb dL_law_1149 ?_
  refine va_sld hx hb hX hbl hbA G.2.2 (lw_in hL hi 1 (by decide)) dL_law_1150 ?_
  refine lv_aload_n hx hb dL_law_1151 rfl (lv_at hl 3 rfl) ?_
  refine lv_iload_n hx hb dL_law_1152 rfl (lv_at hl 0 rfl) ?_
  refine lv_iconst (v := 2) hx hb dL_law_1153 (by decide) ?_
  refine lv_iadd hx hb dL_law_1154 ?_
  refine va_sld hx hb hX hbl hbA G.2.2 (lw_in hL hi 2 (by decide)) dL_law_1155 ?_
  refine lcX (As := [.int (xs (i + 1).toNatClampNeg), .int (xs (i + 2).toNatClampNeg)]) X K (fun _ h => h) G (fun A' => c_X6_roundFor h1) q_801 my_X6_roundFor ⟨rfl, rfl⟩ ⟨by decide, by decide⟩ ⟨by decide, by decide⟩ rfl hl.1 rfl (Nat.le_of_ble_eq_true rfl) dL_law_1156 (fun H locs G => ?_)
  refine lv_aload_n hx hb dL_law_1159 rfl (lv_at hl 1 rfl) ?_
  refine lv_aload_n hx hb dL_law_1160 rfl (lv_at hl 3 rfl) ?_
  refine lv_iload_n hx hb dL_law_1161 rfl (lv_at hl 0 rfl) ?_
  refine lv_iconst (v := 1) hx hb dL_law_1162 (by decide) ?_
  refine lv_iadd hx hb dL_law_1163 ?_
  refine va_sld hx hb hX hbl hbA G.2.2 (lw_in hL hi 1 (by decide)) dL_law_1164 ?_
  refine lv_aload_n hx hb dL_law_1165 rfl (lv_at hl 3 rfl) ?_
  refine lv_iload_n hx hb dL_law_1166 rfl (lv_at hl 0 rfl) ?_
  refine lv_iconst (v := 2) hx hb dL_law_1167 (by decide) ?_
  refine lv_iadd hx hb dL_law_1168 ?_
  refine va_sld hx hb hX hbl hbA G.2.2 (lw_in hL hi 2 (by decide)) dL_law_1169 ?_
  refine lcM (As := [.int (xs (i + 1).toNatClampNeg), .int (xs (i + 2).toNatClampNeg)]) X K (fun _ h => h) G (fun A' => c_X7_roundFor h2) q_1297 my_X7_roundFor ⟨rfl, rfl⟩ ⟨by decide, by decide⟩ ⟨by decide, by decide⟩ rfl hl.1 rfl (Nat.le_of_ble_eq_true rfl) dL_law_1170 (fun H locs G => ?_)
  exact lv_icmp_eq (tgt := 1623) hx hb dL_law_1173 (by decide) (fun _ => kk _ _ _ _ h3 G) (fun q => absurd rfl q)

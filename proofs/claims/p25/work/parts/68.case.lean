/-! the calls of the law, one by one -/
theorem lw_c14 {p : Program} {l : Launch} {e : Env} {s : State} {m : MethodId} {args : Array Value} {below : List Frame} {meth : Method} {c : Code} {Q : State → Prop} {D : va_G} {ad : Nat → Nat} {cy : Nat → ClassId} {Z : State → Heap → Prop} (hAd : fm_Ad fm_tm ad) (hZ : fm_Zk (fm_A fm_tm ad) Z) (X : fm_X p s m args c code R_law D fm_cl fm_tm ad cy (lw_Aq s) fm_Ts 4) (Y : fm_Y s fm_nt Z fm_tm ad (lw_Aq s)) {b L n : Nat} {xs : Nat → Int32} (hX : va_X b L xs s s.heap) (hbl : b < s.heap.size) (hL : L ≤ 3072) {x3 : Int32} (hx3 : 0 ≤ x3.toInt ∧ x3.toInt + 6 ≤ L) {V : fm_V} (hI : lw_I n V) (hn : n < 512) {ls : Array Slot} (hl0 : ls[0]? = some (.val (.ref b))) (hl1 : ls[1]? = some (.val (.ref (ad 0)))) (hl2 : ls[2]? = some (.val (.ref (ad 80)))) (hl3 : ls[3]? = some (.val (.int x3))) (hs : ls.size = 4) (next : ∀ V1, lw_I (n + 1) V1 → lz_W p l e s m args below meth c Q D ad cy V1 1153 ls []) : lz_W p l e s m args below meth c Q D ad cy V 724 ls [] := by
  refine lz_aload_n X d_law_724 rfl hl1 ?_
  refine lz_arg X hX hbl hL hx3 hl0 hl3 (by decide) d_law_725 d_law_726 d_law_727 d_law_728 d_law_729 ?_
  refine lz_arg X hX hbl hL hx3 hl0 hl3 (by decide) d_law_730 d_law_731 d_law_732 d_law_733 d_law_734 ?_
  refine lz_call X Y d_law_735 (i := 0) (m_X7_carpet_0 hAd hZ fm_G_gd V [.ref (ad 0), .int (xs (x3 + Int32.ofInt 1).toNatClampNeg), .int (xs (x3 + Int32.ofInt 2).toNatClampNeg)] ⟨hI.1, hI.2.1, ⟨rv_okR' rfl rfl, rv_full_ok _, rv_full_ok _, trivial⟩, (fun f hf => absurd hf List.not_mem_nil)⟩) wl_L_76 wm_X7_carpet wy_X7_carpet (by decide) ⟨rfl, rfl⟩ (rest := []) rfl rfl hs (by simp [Value.category]) (fun r V1 hp => ?_)
  obtain ⟨y1, rfl, ya, yb, -, yc⟩ := hp.2.2.1
  replace hI := lw_x hI hp (by decide +kernel)
  clear hp yc
  refine lz_pop X d_law_738 rfl ?_
  refine lz_aload_n X d_law_739 rfl hl2 ?_
  refine lz_arg X hX hbl hL hx3 hl0 hl3 (by decide) d_law_740 d_law_741 d_law_742 d_law_743 d_law_744 ?_
  refine lz_arg X hX hbl hL hx3 hl0 hl3 (by decide) d_law_745 d_law_746 d_law_747 d_law_748 d_law_749 ?_
  refine lz_call X Y d_law_750 (i := 80) (m_X8_carpet_0 hAd hZ V1 [.ref (ad 80), .int (xs (x3 + Int32.ofInt 1).toNatClampNeg), .int (xs (x3 + Int32.ofInt 2).toNatClampNeg)] ⟨hI.1, hI.2.1, ⟨rv_okR' rfl rfl, rv_full_ok _, rv_full_ok _, trivial⟩, (fun f hf => by
      obtain rfl := List.mem_singleton.mp hf
      exact lw_hr hI hn (by decide))⟩) wl_L_79 wm_X8_carpet wy_X8_carpet (by decide) ⟨rfl, rfl⟩ (rest := []) rfl rfl hs (by simp [Value.category]) (fun r V2 hp => ?_)
  obtain ⟨y2, rfl, za, zb, -, zc⟩ := hp.2.2.1
  replace hI := lw_mh hI hp (by decide +kernel) (hi := 500000000) (d := 0) (List.mem_of_getElem? (i := 0) rfl) (by decide)
  refine lz_pop X d_law_753 rfl ?_
  refine lz_goto X 1153 d_law_754 (by decide) ?_
  exact next _ hI
theorem lw_c15 {p : Program} {l : Launch} {e : Env} {s : State} {m : MethodId} {args : Array Value} {below : List Frame} {meth : Method} {c : Code} {Q : State → Prop} {D : va_G} {ad : Nat → Nat} {cy : Nat → ClassId} {Z : State → Heap → Prop} (hAd : fm_Ad fm_tm ad) (hZ : fm_Zk (fm_A fm_tm ad) Z) (X : fm_X p s m args c code R_law D fm_cl fm_tm ad cy (lw_Aq s) fm_Ts 4) (Y : fm_Y s fm_nt Z fm_tm ad (lw_Aq s)) {b L n : Nat} {xs : Nat → Int32} (hX : va_X b L xs s s.heap) (hbl : b < s.heap.size) (hL : L ≤ 3072) {x3 : Int32} (hx3 : 0 ≤ x3.toInt ∧ x3.toInt + 6 ≤ L) {V : fm_V} (hI : lw_I n V) (hn : n < 512) {ls : Array Slot} (hl0 : ls[0]? = some (.val (.ref b))) (hl1 : ls[1]? = some (.val (.ref (ad 0)))) (hl2 : ls[2]? = some (.val (.ref (ad 80)))) (hl3 : ls[3]? = some (.val (.int x3))) (hs : ls.size = 4) (next : ∀ V1, lw_I (n + 1) V1 → lz_W p l e s m args below meth c Q D ad cy V1 1153 ls []) : lz_W p l e s m args below meth c Q D ad cy V 757 ls [] := by
  refine lz_aload_n X d_law_757 rfl hl1 ?_
  refine lz_arg X hX hbl hL hx3 hl0 hl3 (by decide) d_law_758 d_law_759 d_law_760 d_law_761 d_law_762 ?_
  refine lz_arg X hX hbl hL hx3 hl0 hl3 (by decide) d_law_763 d_law_764 d_law_765 d_law_766 d_law_767 ?_
  refine lz_arg X hX hbl hL hx3 hl0 hl3 (by decide) d_law_768 d_law_769 d_law_770 d_law_771 d_law_772 ?_
  refine lz_arg X hX hbl hL hx3 hl0 hl3 (by decide) d_law_773 d_law_774 d_law_775 d_law_776 d_law_777 ?_
  refine lz_call X Y d_law_778 (i := 0) (m_X7_gust_0 hAd hZ fm_G_gd V [.ref (ad 0), .int (xs (x3 + Int32.ofInt 1).toNatClampNeg), .int (xs (x3 + Int32.ofInt 2).toNatClampNeg), .int (xs (x3 + Int32.ofInt 3).toNatClampNeg), .int (xs (x3 + Int32.ofInt 4).toNatClampNeg)] ⟨hI.1, hI.2.1, ⟨rv_okR' rfl rfl, rv_full_ok _, rv_full_ok _, rv_full_ok _, rv_full_ok _, trivial⟩, (fun f hf => absurd hf List.not_mem_nil)⟩) wl_L_80 wm_X7_gust wy_X7_gust (by decide) ⟨rfl, rfl⟩ (rest := []) rfl rfl hs (by simp [Value.category]) (fun r V1 hp => ?_)
  obtain ⟨y1, rfl, ya, yb, -, yc⟩ := hp.2.2.1
  replace hI := lw_x hI hp (by decide +kernel)
  clear hp yc
  refine lz_pop X d_law_781 rfl ?_
  refine lz_aload_n X d_law_782 rfl hl2 ?_
  refine lz_arg X hX hbl hL hx3 hl0 hl3 (by decide) d_law_783 d_law_784 d_law_785 d_law_786 d_law_787 ?_
  refine lz_arg X hX hbl hL hx3 hl0 hl3 (by decide) d_law_788 d_law_789 d_law_790 d_law_791 d_law_792 ?_
  refine lz_arg X hX hbl hL hx3 hl0 hl3 (by decide) d_law_793 d_law_794 d_law_795 d_law_796 d_law_797 ?_
  refine lz_arg X hX hbl hL hx3 hl0 hl3 (by decide) d_law_798 d_law_799 d_law_800 d_law_801 d_law_802 ?_
  refine lz_call X Y d_law_803 (i := 80) (m_X8_gust_0 hAd hZ V1 [.ref (ad 80), .int (xs (x3 + Int32.ofInt 1).toNatClampNeg), .int (xs (x3 + Int32.ofInt 2).toNatClampNeg), .int (xs (x3 + Int32.ofInt 3).toNatClampNeg), .int (xs (x3 + Int32.ofInt 4).toNatClampNeg)] ⟨hI.1, hI.2.1, ⟨rv_okR' rfl rfl, rv_full_ok _, rv_full_ok _, rv_full_ok _, rv_full_ok _, trivial⟩, (fun f hf => by
      obtain rfl := List.mem_singleton.mp hf
      exact lw_hr hI hn (by decide))⟩) wl_L_84 wm_X8_gust wy_X8_gust (by decide) ⟨rfl, rfl⟩ (rest := []) rfl rfl hs (by simp [Value.category]) (fun r V2 hp => ?_)
  obtain ⟨y2, rfl, za, zb, -, zc⟩ := hp.2.2.1
  replace hI := lw_mh hI hp (by decide +kernel) (hi := 500000000) (d := 0) (List.mem_of_getElem? (i := 0) rfl) (by decide)
  refine lz_pop X d_law_806 rfl ?_
  refine lz_goto X 1153 d_law_807 (by decide) ?_
  exact next _ hI
theorem lw_c16 {p : Program} {l : Launch} {e : Env} {s : State} {m : MethodId} {args : Array Value} {below : List Frame} {meth : Method} {c : Code} {Q : State → Prop} {D : va_G} {ad : Nat → Nat} {cy : Nat → ClassId} {Z : State → Heap → Prop} (hAd : fm_Ad fm_tm ad) (hZ : fm_Zk (fm_A fm_tm ad) Z) (X : fm_X p s m args c code R_law D fm_cl fm_tm ad cy (lw_Aq s) fm_Ts 4) (Y : fm_Y s fm_nt Z fm_tm ad (lw_Aq s)) {b L n : Nat} {xs : Nat → Int32} (hX : va_X b L xs s s.heap) (hbl : b < s.heap.size) (hL : L ≤ 3072) {x3 : Int32} (hx3 : 0 ≤ x3.toInt ∧ x3.toInt + 6 ≤ L) {V : fm_V} (hI : lw_I n V) (hn : n < 512) {ls : Array Slot} (hl0 : ls[0]? = some (.val (.ref b))) (hl1 : ls[1]? = some (.val (.ref (ad 0)))) (hl2 : ls[2]? = some (.val (.ref (ad 80)))) (hl3 : ls[3]? = some (.val (.int x3))) (hs : ls.size = 4) (next : ∀ V1, lw_I (n + 1) V1 → lz_W p l e s m args below meth c Q D ad cy V1 1153 ls []) : lz_W p l e s m args below meth c Q D ad cy V 810 ls [] := by
  refine lz_aload_n X d_law_810 rfl hl1 ?_
  refine lz_arg X hX hbl hL hx3 hl0 hl3 (by decide) d_law_811 d_law_812 d_law_813 d_law_814 d_law_815 ?_
  refine lz_arg X hX hbl hL hx3 hl0 hl3 (by decide) d_law_816 d_law_817 d_law_818 d_law_819 d_law_820 ?_
  refine lz_arg X hX hbl hL hx3 hl0 hl3 (by decide) d_law_821 d_law_822 d_law_823 d_law_824 d_law_825 ?_
  refine lz_call X Y d_law_826 (i := 0) (m_X7_worth_0 hAd hZ fm_G_gd V [.ref (ad 0), .int (xs (x3 + Int32.ofInt 1).toNatClampNeg), .int (xs (x3 + Int32.ofInt 2).toNatClampNeg), .int (xs (x3 + Int32.ofInt 3).toNatClampNeg)] ⟨hI.1, hI.2.1, ⟨rv_okR' rfl rfl, rv_full_ok _, rv_full_ok _, rv_full_ok _, trivial⟩, (fun f hf => absurd hf List.not_mem_nil)⟩) wl_L_85 wm_X7_worth wy_X7_worth (by decide) ⟨rfl, rfl⟩ (rest := []) rfl rfl hs (by simp [Value.category]) (fun r V1 hp => ?_)
  obtain ⟨y1, rfl, ya, yb, -, yc⟩ := hp.2.2.1
  replace hI := lw_x hI hp (by decide +kernel)
  clear hp yc
  refine lz_pop X d_law_829 rfl ?_
  refine lz_aload_n X d_law_830 rfl hl2 ?_
  refine lz_arg X hX hbl hL hx3 hl0 hl3 (by decide) d_law_831 d_law_832 d_law_833 d_law_834 d_law_835 ?_
  refine lz_arg X hX hbl hL hx3 hl0 hl3 (by decide) d_law_836 d_law_837 d_law_838 d_law_839 d_law_840 ?_
  refine lz_arg X hX hbl hL hx3 hl0 hl3 (by decide) d_law_841 d_law_842 d_law_843 d_law_844 d_law_845 ?_
  refine lz_call X Y d_law_846 (i := 80) (m_X8_worth_0 hAd hZ V1 [.ref (ad 80), .int (xs (x3 + Int32.ofInt 1).toNatClampNeg), .int (xs (x3 + Int32.ofInt 2).toNatClampNeg), .int (xs (x3 + Int32.ofInt 3).toNatClampNeg)] ⟨hI.1, hI.2.1, ⟨rv_okR' rfl rfl, rv_full_ok _, rv_full_ok _, rv_full_ok _, trivial⟩, (fun f hf => by
      obtain rfl := List.mem_singleton.mp hf
      exact lw_hr hI hn (by decide))⟩) wl_L_88 wm_X8_worth wy_X8_worth (by decide) ⟨rfl, rfl⟩ (rest := []) rfl rfl hs (by simp [Value.category]) (fun r V2 hp => ?_)
  obtain ⟨y2, rfl, za, zb, -, zc⟩ := hp.2.2.1
  replace hI := lw_mh hI hp (by decide +kernel) (hi := 500000000) (d := 0) (List.mem_of_getElem? (i := 0) rfl) (by decide)
  refine lz_pop X d_law_849 rfl ?_
  refine lz_goto X 1153 d_law_850 (by decide) ?_
  exact next _ hI
theorem lw_c17 {p : Program} {l : Launch} {e : Env} {s : State} {m : MethodId} {args : Array Value} {below : List Frame} {meth : Method} {c : Code} {Q : State → Prop} {D : va_G} {ad : Nat → Nat} {cy : Nat → ClassId} {Z : State → Heap → Prop} (hAd : fm_Ad fm_tm ad) (hZ : fm_Zk (fm_A fm_tm ad) Z) (X : fm_X p s m args c code R_law D fm_cl fm_tm ad cy (lw_Aq s) fm_Ts 4) (Y : fm_Y s fm_nt Z fm_tm ad (lw_Aq s)) {b L n : Nat} {xs : Nat → Int32} (hX : va_X b L xs s s.heap) (hbl : b < s.heap.size) (hL : L ≤ 3072) {x3 : Int32} (hx3 : 0 ≤ x3.toInt ∧ x3.toInt + 6 ≤ L) {V : fm_V} (hI : lw_I n V) (hn : n < 512) {ls : Array Slot} (hl0 : ls[0]? = some (.val (.ref b))) (hl1 : ls[1]? = some (.val (.ref (ad 0)))) (hl2 : ls[2]? = some (.val (.ref (ad 80)))) (hl3 : ls[3]? = some (.val (.int x3))) (hs : ls.size = 4) (next : ∀ V1, lw_I (n + 1) V1 → lz_W p l e s m args below meth c Q D ad cy V1 1153 ls []) : lz_W p l e s m args below meth c Q D ad cy V 853 ls [] := by
  refine lz_aload_n X d_law_853 rfl hl1 ?_
  refine lz_arg X hX hbl hL hx3 hl0 hl3 (by decide) d_law_854 d_law_855 d_law_856 d_law_857 d_law_858 ?_
  refine lz_arg X hX hbl hL hx3 hl0 hl3 (by decide) d_law_859 d_law_860 d_law_861 d_law_862 d_law_863 ?_
  refine lz_arg X hX hbl hL hx3 hl0 hl3 (by decide) d_law_864 d_law_865 d_law_866 d_law_867 d_law_868 ?_
  refine lz_call X Y d_law_869 (i := 0) (m_X7_sold_0 hAd hZ fm_G_gd V [.ref (ad 0), .int (xs (x3 + Int32.ofInt 1).toNatClampNeg), .int (xs (x3 + Int32.ofInt 2).toNatClampNeg), .int (xs (x3 + Int32.ofInt 3).toNatClampNeg)] ⟨hI.1, hI.2.1, ⟨rv_okR' rfl rfl, rv_full_ok _, rv_full_ok _, rv_full_ok _, trivial⟩, (fun f hf => absurd hf List.not_mem_nil)⟩) wl_L_89 wm_X7_sold wy_X7_sold (by decide) ⟨rfl, rfl⟩ (rest := []) rfl rfl hs (by simp [Value.category]) (fun r V1 hp => ?_)
  obtain ⟨y1, rfl, ya, yb, -, yc⟩ := hp.2.2.1
  replace hI := lw_x hI hp (by decide +kernel)
  clear hp yc
  refine lz_pop X d_law_872 rfl ?_
  refine lz_aload_n X d_law_873 rfl hl2 ?_
  refine lz_arg X hX hbl hL hx3 hl0 hl3 (by decide) d_law_874 d_law_875 d_law_876 d_law_877 d_law_878 ?_
  refine lz_arg X hX hbl hL hx3 hl0 hl3 (by decide) d_law_879 d_law_880 d_law_881 d_law_882 d_law_883 ?_
  refine lz_arg X hX hbl hL hx3 hl0 hl3 (by decide) d_law_884 d_law_885 d_law_886 d_law_887 d_law_888 ?_
  refine lz_call X Y d_law_889 (i := 80) (m_X8_sold_0 hAd hZ V1 [.ref (ad 80), .int (xs (x3 + Int32.ofInt 1).toNatClampNeg), .int (xs (x3 + Int32.ofInt 2).toNatClampNeg), .int (xs (x3 + Int32.ofInt 3).toNatClampNeg)] ⟨hI.1, hI.2.1, ⟨rv_okR' rfl rfl, rv_full_ok _, rv_full_ok _, rv_full_ok _, trivial⟩, (fun f hf => by
      obtain rfl := List.mem_singleton.mp hf
      exact lw_hr hI hn (by decide))⟩) wl_L_92 wm_X8_sold wy_X8_sold (by decide) ⟨rfl, rfl⟩ (rest := []) rfl rfl hs (by simp [Value.category]) (fun r V2 hp => ?_)
  obtain ⟨y2, rfl, za, zb, -, zc⟩ := hp.2.2.1
  replace hI := lw_mh hI hp (by decide +kernel) (hi := 500000000) (d := 0) (List.mem_of_getElem? (i := 0) rfl) (by decide)
  refine lz_pop X d_law_892 rfl ?_
  refine lz_goto X 1153 d_law_893 (by decide) ?_
  exact next _ hI
theorem lw_c18 {p : Program} {l : Launch} {e : Env} {s : State} {m : MethodId} {args : Array Value} {below : List Frame} {meth : Method} {c : Code} {Q : State → Prop} {D : va_G} {ad : Nat → Nat} {cy : Nat → ClassId} {Z : State → Heap → Prop} (hAd : fm_Ad fm_tm ad) (hZ : fm_Zk (fm_A fm_tm ad) Z) (X : fm_X p s m args c code R_law D fm_cl fm_tm ad cy (lw_Aq s) fm_Ts 4) (Y : fm_Y s fm_nt Z fm_tm ad (lw_Aq s)) {b L n : Nat} {xs : Nat → Int32} (hX : va_X b L xs s s.heap) (hbl : b < s.heap.size) (hL : L ≤ 3072) {x3 : Int32} (hx3 : 0 ≤ x3.toInt ∧ x3.toInt + 6 ≤ L) {V : fm_V} (hI : lw_I n V) (hn : n < 512) {ls : Array Slot} (hl0 : ls[0]? = some (.val (.ref b))) (hl1 : ls[1]? = some (.val (.ref (ad 0)))) (hl2 : ls[2]? = some (.val (.ref (ad 80)))) (hl3 : ls[3]? = some (.val (.int x3))) (hs : ls.size = 4) (next : ∀ V1, lw_I (n + 1) V1 → lz_W p l e s m args below meth c Q D ad cy V1 1153 ls []) : lz_W p l e s m args below meth c Q D ad cy V 896 ls [] := by
  refine lz_aload_n X d_law_896 rfl hl1 ?_
  refine lz_arg X hX hbl hL hx3 hl0 hl3 (by decide) d_law_897 d_law_898 d_law_899 d_law_900 d_law_901 ?_
  refine lz_arg X hX hbl hL hx3 hl0 hl3 (by decide) d_law_902 d_law_903 d_law_904 d_law_905 d_law_906 ?_
  refine lz_arg X hX hbl hL hx3 hl0 hl3 (by decide) d_law_907 d_law_908 d_law_909 d_law_910 d_law_911 ?_
  refine lz_call X Y d_law_912 (i := 0) (m_X7_shook_0 hAd hZ fm_G_gd V [.ref (ad 0), .int (xs (x3 + Int32.ofInt 1).toNatClampNeg), .int (xs (x3 + Int32.ofInt 2).toNatClampNeg), .int (xs (x3 + Int32.ofInt 3).toNatClampNeg)] ⟨hI.1, hI.2.1, ⟨rv_okR' rfl rfl, rv_full_ok _, rv_full_ok _, rv_full_ok _, trivial⟩, (fun f hf => absurd hf List.not_mem_nil)⟩) wl_L_93 wm_X7_shook wy_X7_shook (by decide) ⟨rfl, rfl⟩ (rest := []) rfl rfl hs (by simp [Value.category]) (fun r V1 hp => ?_)
  obtain ⟨y1, rfl, ya, yb, -, yc⟩ := hp.2.2.1
  replace hI := lw_x hI hp (by decide +kernel)
  clear hp yc
  refine lz_pop X d_law_915 rfl ?_
  refine lz_aload_n X d_law_916 rfl hl2 ?_
  refine lz_arg X hX hbl hL hx3 hl0 hl3 (by decide) d_law_917 d_law_918 d_law_919 d_law_920 d_law_921 ?_
  refine lz_arg X hX hbl hL hx3 hl0 hl3 (by decide) d_law_922 d_law_923 d_law_924 d_law_925 d_law_926 ?_
  refine lz_arg X hX hbl hL hx3 hl0 hl3 (by decide) d_law_927 d_law_928 d_law_929 d_law_930 d_law_931 ?_
  refine lz_call X Y d_law_932 (i := 80) (m_X8_shook_0 hAd hZ V1 [.ref (ad 80), .int (xs (x3 + Int32.ofInt 1).toNatClampNeg), .int (xs (x3 + Int32.ofInt 2).toNatClampNeg), .int (xs (x3 + Int32.ofInt 3).toNatClampNeg)] ⟨hI.1, hI.2.1, ⟨rv_okR' rfl rfl, rv_full_ok _, rv_full_ok _, rv_full_ok _, trivial⟩, (fun f hf => by
      obtain rfl := List.mem_singleton.mp hf
      exact lw_hr hI hn (by decide))⟩) wl_L_96 wm_X8_shook wy_X8_shook (by decide) ⟨rfl, rfl⟩ (rest := []) rfl rfl hs (by simp [Value.category]) (fun r V2 hp => ?_)
  obtain ⟨y2, rfl, za, zb, -, zc⟩ := hp.2.2.1
  replace hI := lw_mh hI hp (by decide +kernel) (hi := 500000000) (d := 0) (List.mem_of_getElem? (i := 0) rfl) (by decide)
  refine lz_pop X d_law_935 rfl ?_
  refine lz_goto X 1153 d_law_936 (by decide) ?_
  exact next _ hI
theorem lw_c19 {p : Program} {l : Launch} {e : Env} {s : State} {m : MethodId} {args : Array Value} {below : List Frame} {meth : Method} {c : Code} {Q : State → Prop} {D : va_G} {ad : Nat → Nat} {cy : Nat → ClassId} {Z : State → Heap → Prop} (hAd : fm_Ad fm_tm ad) (hZ : fm_Zk (fm_A fm_tm ad) Z) (X : fm_X p s m args c code R_law D fm_cl fm_tm ad cy (lw_Aq s) fm_Ts 4) (Y : fm_Y s fm_nt Z fm_tm ad (lw_Aq s)) {b L n : Nat} {xs : Nat → Int32} (hX : va_X b L xs s s.heap) (hbl : b < s.heap.size) (hL : L ≤ 3072) {x3 : Int32} (hx3 : 0 ≤ x3.toInt ∧ x3.toInt + 6 ≤ L) {V : fm_V} (hI : lw_I n V) (hn : n < 512) {ls : Array Slot} (hl0 : ls[0]? = some (.val (.ref b))) (hl1 : ls[1]? = some (.val (.ref (ad 0)))) (hl2 : ls[2]? = some (.val (.ref (ad 80)))) (hl3 : ls[3]? = some (.val (.int x3))) (hs : ls.size = 4) (next : ∀ V1, lw_I (n + 1) V1 → lz_W p l e s m args below meth c Q D ad cy V1 1153 ls []) : lz_W p l e s m args below meth c Q D ad cy V 939 ls [] := by
  refine lz_aload_n X d_law_939 rfl hl1 ?_
  refine lz_arg X hX hbl hL hx3 hl0 hl3 (by decide) d_law_940 d_law_941 d_law_942 d_law_943 d_law_944 ?_
  refine lz_arg X hX hbl hL hx3 hl0 hl3 (by decide) d_law_945 d_law_946 d_law_947 d_law_948 d_law_949 ?_
  refine lz_call X Y d_law_950 (i := 0) (m_X7_led_0 hAd hZ fm_G_gd V [.ref (ad 0), .int (xs (x3 + Int32.ofInt 1).toNatClampNeg), .int (xs (x3 + Int32.ofInt 2).toNatClampNeg)] ⟨hI.1, hI.2.1, ⟨rv_okR' rfl rfl, rv_full_ok _, rv_full_ok _, trivial⟩, (fun f hf => absurd hf List.not_mem_nil)⟩) wl_L_97 wm_X7_led wy_X7_led (by decide) ⟨rfl, rfl⟩ (rest := []) rfl rfl hs (by simp [Value.category]) (fun r V1 hp => ?_)
  obtain ⟨y1, rfl, ya, yb, -, yc⟩ := hp.2.2.1
  replace hI := lw_x hI hp (by decide +kernel)
  clear hp yc
  refine lz_pop X d_law_953 rfl ?_
  refine lz_aload_n X d_law_954 rfl hl2 ?_
  refine lz_arg X hX hbl hL hx3 hl0 hl3 (by decide) d_law_955 d_law_956 d_law_957 d_law_958 d_law_959 ?_
  refine lz_arg X hX hbl hL hx3 hl0 hl3 (by decide) d_law_960 d_law_961 d_law_962 d_law_963 d_law_964 ?_
  refine lz_call X Y d_law_965 (i := 80) (m_X8_led_0 hAd hZ V1 [.ref (ad 80), .int (xs (x3 + Int32.ofInt 1).toNatClampNeg), .int (xs (x3 + Int32.ofInt 2).toNatClampNeg)] ⟨hI.1, hI.2.1, ⟨rv_okR' rfl rfl, rv_full_ok _, rv_full_ok _, trivial⟩, (fun f hf => absurd hf List.not_mem_nil)⟩) wl_L_100 wm_X8_led wy_X8_led (by decide) ⟨rfl, rfl⟩ (rest := []) rfl rfl hs (by simp [Value.category]) (fun r V2 hp => ?_)
  obtain ⟨y2, rfl, za, zb, -, zc⟩ := hp.2.2.1
  replace hI := lw_m hI hp (by decide +kernel)
  refine lz_pop X d_law_968 rfl ?_
  refine lz_goto X 1153 d_law_969 (by decide) ?_
  exact next _ hI
theorem lw_c20 {p : Program} {l : Launch} {e : Env} {s : State} {m : MethodId} {args : Array Value} {below : List Frame} {meth : Method} {c : Code} {Q : State → Prop} {D : va_G} {ad : Nat → Nat} {cy : Nat → ClassId} {Z : State → Heap → Prop} (hAd : fm_Ad fm_tm ad) (hZ : fm_Zk (fm_A fm_tm ad) Z) (X : fm_X p s m args c code R_law D fm_cl fm_tm ad cy (lw_Aq s) fm_Ts 4) (Y : fm_Y s fm_nt Z fm_tm ad (lw_Aq s)) {b L n : Nat} {xs : Nat → Int32} (hX : va_X b L xs s s.heap) (hbl : b < s.heap.size) (hL : L ≤ 3072) {x3 : Int32} (hx3 : 0 ≤ x3.toInt ∧ x3.toInt + 6 ≤ L) {V : fm_V} (hI : lw_I n V) (hn : n < 512) {ls : Array Slot} (hl0 : ls[0]? = some (.val (.ref b))) (hl1 : ls[1]? = some (.val (.ref (ad 0)))) (hl2 : ls[2]? = some (.val (.ref (ad 80)))) (hl3 : ls[3]? = some (.val (.int x3))) (hs : ls.size = 4) (next : ∀ V1, lw_I (n + 1) V1 → lz_W p l e s m args below meth c Q D ad cy V1 1153 ls []) : lz_W p l e s m args below meth c Q D ad cy V 972 ls [] := by
  refine lz_aload_n X d_law_972 rfl hl1 ?_
  refine lz_arg X hX hbl hL hx3 hl0 hl3 (by decide) d_law_973 d_law_974 d_law_975 d_law_976 d_law_977 ?_
  refine lz_arg X hX hbl hL hx3 hl0 hl3 (by decide) d_law_978 d_law_979 d_law_980 d_law_981 d_law_982 ?_
  refine lz_arg X hX hbl hL hx3 hl0 hl3 (by decide) d_law_983 d_law_984 d_law_985 d_law_986 d_law_987 ?_
  refine lz_call X Y d_law_988 (i := 0) (m_X7_share_0 hAd hZ fm_G_gd V [.ref (ad 0), .int (xs (x3 + Int32.ofInt 1).toNatClampNeg), .int (xs (x3 + Int32.ofInt 2).toNatClampNeg), .int (xs (x3 + Int32.ofInt 3).toNatClampNeg)] ⟨hI.1, hI.2.1, ⟨rv_okR' rfl rfl, rv_full_ok _, rv_full_ok _, rv_full_ok _, trivial⟩, (fun f hf => absurd hf List.not_mem_nil)⟩) wl_L_101 wm_X7_share wy_X7_share (by decide) ⟨rfl, rfl⟩ (rest := []) rfl rfl hs (by simp [Value.category]) (fun r V1 hp => ?_)
  obtain ⟨y1, rfl, ya, yb, -, yc⟩ := hp.2.2.1
  replace hI := lw_x hI hp (by decide +kernel)
  clear hp yc
  refine lz_pop X d_law_991 rfl ?_
  refine lz_aload_n X d_law_992 rfl hl2 ?_
  refine lz_arg X hX hbl hL hx3 hl0 hl3 (by decide) d_law_993 d_law_994 d_law_995 d_law_996 d_law_997 ?_
  refine lz_arg X hX hbl hL hx3 hl0 hl3 (by decide) d_law_998 d_law_999 d_law_1000 d_law_1001 d_law_1002 ?_
  refine lz_arg X hX hbl hL hx3 hl0 hl3 (by decide) d_law_1003 d_law_1004 d_law_1005 d_law_1006 d_law_1007 ?_
  refine lz_call X Y d_law_1008 (i := 80) (m_X8_share_0 hAd hZ V1 [.ref (ad 80), .int (xs (x3 + Int32.ofInt 1).toNatClampNeg), .int (xs (x3 + Int32.ofInt 2).toNatClampNeg), .int (xs (x3 + Int32.ofInt 3).toNatClampNeg)] ⟨hI.1, hI.2.1, ⟨rv_okR' rfl rfl, rv_full_ok _, rv_full_ok _, rv_full_ok _, trivial⟩, (fun f hf => absurd hf List.not_mem_nil)⟩) wl_L_104 wm_X8_share wy_X8_share (by decide) ⟨rfl, rfl⟩ (rest := []) rfl rfl hs (by simp [Value.category]) (fun r V2 hp => ?_)
  obtain ⟨y2, rfl, za, zb, -, zc⟩ := hp.2.2.1
  replace hI := lw_m hI hp (by decide +kernel)
  refine lz_pop X d_law_1011 rfl ?_
  refine lz_goto X 1153 d_law_1012 (by decide) ?_
  exact next _ hI
theorem lw_c21 {p : Program} {l : Launch} {e : Env} {s : State} {m : MethodId} {args : Array Value} {below : List Frame} {meth : Method} {c : Code} {Q : State → Prop} {D : va_G} {ad : Nat → Nat} {cy : Nat → ClassId} {Z : State → Heap → Prop} (hAd : fm_Ad fm_tm ad) (hZ : fm_Zk (fm_A fm_tm ad) Z) (X : fm_X p s m args c code R_law D fm_cl fm_tm ad cy (lw_Aq s) fm_Ts 4) (Y : fm_Y s fm_nt Z fm_tm ad (lw_Aq s)) {b L n : Nat} {xs : Nat → Int32} (hX : va_X b L xs s s.heap) (hbl : b < s.heap.size) (hL : L ≤ 3072) {x3 : Int32} (hx3 : 0 ≤ x3.toInt ∧ x3.toInt + 6 ≤ L) {V : fm_V} (hI : lw_I n V) (hn : n < 512) {ls : Array Slot} (hl0 : ls[0]? = some (.val (.ref b))) (hl1 : ls[1]? = some (.val (.ref (ad 0)))) (hl2 : ls[2]? = some (.val (.ref (ad 80)))) (hl3 : ls[3]? = some (.val (.int x3))) (hs : ls.size = 4) (next : ∀ V1, lw_I (n + 1) V1 → lz_W p l e s m args below meth c Q D ad cy V1 1153 ls []) : lz_W p l e s m args below meth c Q D ad cy V 1015 ls [] := by
  refine lz_aload_n X d_law_1015 rfl hl1 ?_
  refine lz_arg X hX hbl hL hx3 hl0 hl3 (by decide) d_law_1016 d_law_1017 d_law_1018 d_law_1019 d_law_1020 ?_
  refine lz_arg X hX hbl hL hx3 hl0 hl3 (by decide) d_law_1021 d_law_1022 d_law_1023 d_law_1024 d_law_1025 ?_
  refine lz_arg X hX hbl hL hx3 hl0 hl3 (by decide) d_law_1026 d_law_1027 d_law_1028 d_law_1029 d_law_1030 ?_
  refine lz_call X Y d_law_1031 (i := 0) (m_X7_odds_0 hAd hZ fm_G_gd V [.ref (ad 0), .int (xs (x3 + Int32.ofInt 1).toNatClampNeg), .int (xs (x3 + Int32.ofInt 2).toNatClampNeg), .int (xs (x3 + Int32.ofInt 3).toNatClampNeg)] ⟨hI.1, hI.2.1, ⟨rv_okR' rfl rfl, rv_full_ok _, rv_full_ok _, rv_full_ok _, trivial⟩, (fun f hf => absurd hf List.not_mem_nil)⟩) wl_L_105 wm_X7_odds wy_X7_odds (by decide) ⟨rfl, rfl⟩ (rest := []) rfl rfl hs (by simp [Value.category]) (fun r V1 hp => ?_)
  obtain ⟨y1, rfl, ya, yb, -, yc⟩ := hp.2.2.1
  replace hI := lw_x hI hp (by decide +kernel)
  clear hp yc
  refine lz_pop X d_law_1034 rfl ?_
  refine lz_aload_n X d_law_1035 rfl hl2 ?_
  refine lz_arg X hX hbl hL hx3 hl0 hl3 (by decide) d_law_1036 d_law_1037 d_law_1038 d_law_1039 d_law_1040 ?_
  refine lz_arg X hX hbl hL hx3 hl0 hl3 (by decide) d_law_1041 d_law_1042 d_law_1043 d_law_1044 d_law_1045 ?_
  refine lz_arg X hX hbl hL hx3 hl0 hl3 (by decide) d_law_1046 d_law_1047 d_law_1048 d_law_1049 d_law_1050 ?_
  refine lz_call X Y d_law_1051 (i := 80) (m_X8_odds_0 hAd hZ V1 [.ref (ad 80), .int (xs (x3 + Int32.ofInt 1).toNatClampNeg), .int (xs (x3 + Int32.ofInt 2).toNatClampNeg), .int (xs (x3 + Int32.ofInt 3).toNatClampNeg)] ⟨hI.1, hI.2.1, ⟨rv_okR' rfl rfl, rv_full_ok _, rv_full_ok _, rv_full_ok _, trivial⟩, (fun f hf => by
      obtain rfl := List.mem_singleton.mp hf
      exact lw_hr hI hn (by decide))⟩) wl_L_108 wm_X8_odds wy_X8_odds (by decide) ⟨rfl, rfl⟩ (rest := []) rfl rfl hs (by simp [Value.category]) (fun r V2 hp => ?_)
  obtain ⟨y2, rfl, za, zb, -, zc⟩ := hp.2.2.1
  replace hI := lw_mh hI hp (by decide +kernel) (hi := 500000000) (d := 0) (List.mem_of_getElem? (i := 0) rfl) (by decide)
  refine lz_pop X d_law_1054 rfl ?_
  refine lz_goto X 1153 d_law_1055 (by decide) ?_
  exact next _ hI
theorem lw_c22 {p : Program} {l : Launch} {e : Env} {s : State} {m : MethodId} {args : Array Value} {below : List Frame} {meth : Method} {c : Code} {Q : State → Prop} {D : va_G} {ad : Nat → Nat} {cy : Nat → ClassId} {Z : State → Heap → Prop} (hAd : fm_Ad fm_tm ad) (hZ : fm_Zk (fm_A fm_tm ad) Z) (X : fm_X p s m args c code R_law D fm_cl fm_tm ad cy (lw_Aq s) fm_Ts 4) (Y : fm_Y s fm_nt Z fm_tm ad (lw_Aq s)) {b L n : Nat} {xs : Nat → Int32} (hX : va_X b L xs s s.heap) (hbl : b < s.heap.size) (hL : L ≤ 3072) {x3 : Int32} (hx3 : 0 ≤ x3.toInt ∧ x3.toInt + 6 ≤ L) {V : fm_V} (hI : lw_I n V) (hn : n < 512) {ls : Array Slot} (hl0 : ls[0]? = some (.val (.ref b))) (hl1 : ls[1]? = some (.val (.ref (ad 0)))) (hl2 : ls[2]? = some (.val (.ref (ad 80)))) (hl3 : ls[3]? = some (.val (.int x3))) (hs : ls.size = 4) (next : ∀ V1, lw_I (n + 1) V1 → lz_W p l e s m args below meth c Q D ad cy V1 1153 ls []) : lz_W p l e s m args below meth c Q D ad cy V 1058 ls [] := by
  refine lz_aload_n X d_law_1058 rfl hl1 ?_
  refine lz_arg X hX hbl hL hx3 hl0 hl3 (by decide) d_law_1059 d_law_1060 d_law_1061 d_law_1062 d_law_1063 ?_
  refine lz_call X Y d_law_1064 (i := 0) (m_X7_seed_0 hAd hZ fm_G_gd V [.ref (ad 0), .int (xs (x3 + Int32.ofInt 1).toNatClampNeg)] ⟨hI.1, hI.2.1, ⟨rv_okR' rfl rfl, rv_full_ok _, trivial⟩, (fun f hf => absurd hf List.not_mem_nil)⟩) wl_L_109 wm_X7_seed wy_X7_seed (by decide) ⟨rfl, rfl⟩ (rest := []) rfl rfl hs (by simp [Value.category]) (fun r V1 hp => ?_)
  obtain ⟨y1, rfl, ya, yb, -, yc⟩ := hp.2.2.1
  replace hI := lw_x hI hp (by decide +kernel)
  clear hp yc
  refine lz_pop X d_law_1067 rfl ?_
  refine lz_aload_n X d_law_1068 rfl hl2 ?_
  refine lz_arg X hX hbl hL hx3 hl0 hl3 (by decide) d_law_1069 d_law_1070 d_law_1071 d_law_1072 d_law_1073 ?_
  refine lz_call X Y d_law_1074 (i := 80) (m_X8_seed_0 hAd hZ V1 [.ref (ad 80), .int (xs (x3 + Int32.ofInt 1).toNatClampNeg)] ⟨hI.1, hI.2.1, ⟨rv_okR' rfl rfl, rv_full_ok _, trivial⟩, (fun f hf => absurd hf List.not_mem_nil)⟩) wl_L_113 wm_X8_seed wy_X8_seed (by decide) ⟨rfl, rfl⟩ (rest := []) rfl rfl hs (by simp [Value.category]) (fun r V2 hp => ?_)
  obtain ⟨y2, rfl, za, zb, -, zc⟩ := hp.2.2.1
  replace hI := lw_m hI hp (by decide +kernel)
  refine lz_pop X d_law_1077 rfl ?_
  refine lz_goto X 1153 d_law_1078 (by decide) ?_
  exact next _ hI
theorem lw_c23 {p : Program} {l : Launch} {e : Env} {s : State} {m : MethodId} {args : Array Value} {below : List Frame} {meth : Method} {c : Code} {Q : State → Prop} {D : va_G} {ad : Nat → Nat} {cy : Nat → ClassId} {Z : State → Heap → Prop} (hAd : fm_Ad fm_tm ad) (hZ : fm_Zk (fm_A fm_tm ad) Z) (X : fm_X p s m args c code R_law D fm_cl fm_tm ad cy (lw_Aq s) fm_Ts 4) (Y : fm_Y s fm_nt Z fm_tm ad (lw_Aq s)) {b L n : Nat} {xs : Nat → Int32} (hX : va_X b L xs s s.heap) (hbl : b < s.heap.size) (hL : L ≤ 3072) {x3 : Int32} (hx3 : 0 ≤ x3.toInt ∧ x3.toInt + 6 ≤ L) {V : fm_V} (hI : lw_I n V) (hn : n < 512) {ls : Array Slot} (hl0 : ls[0]? = some (.val (.ref b))) (hl1 : ls[1]? = some (.val (.ref (ad 0)))) (hl2 : ls[2]? = some (.val (.ref (ad 80)))) (hl3 : ls[3]? = some (.val (.int x3))) (hs : ls.size = 4) (next : ∀ V1, lw_I (n + 1) V1 → lz_W p l e s m args below meth c Q D ad cy V1 1153 ls []) : lz_W p l e s m args below meth c Q D ad cy V 1081 ls [] := by
  refine lz_aload_n X d_law_1081 rfl hl1 ?_
  refine lz_call X Y d_law_1082 (i := 0) (e_keep7 hAd hZ (V := V) hI.1 hI.2.1 (lw_ck hI hn (by decide))) wl_L_114 wm_X7_keep wy_X7_keep (by decide) ⟨rfl, rfl⟩ (rest := []) rfl rfl hs (by simp [Value.category]) (fun r V1 hp => ?_)
  obtain ⟨hF, ⟨y1, rfl, hy1⟩, h41, h11⟩ := hp
  have hy2 : y1.toInt = (V1 80 2).toInt := by rw [hy1, hF.2 80 2 (by decide +kernel)]; exact hI.2.2.2.2.1
  replace hI := lw_xF (F1 := (V1 26 9).toInt = (V1 80 2).toInt ∧ (V1 41 9).toInt = (V1 80 2).toInt ∧ (V1 0 11).toInt = 1) hI hF (by decide +kernel) (fun k => ⟨by rw [hF.2 26 9 (by decide +kernel), k 80 2 (by decide)]; exact hI.2.2.2.2.1, by rw [h41, k 80 2 (by decide)]; exact hI.2.2.2.2.1, h11⟩)
  clear hF hy1 h41 h11
  refine lz_aload_n X d_law_1085 rfl hl2 ?_
  refine lz_call X Y d_law_1086 (i := 80) (e_keep8 hAd hZ (V := V1) hI.1 hI.2.1 (lw_hr hI hn (by decide))) wl_L_118 wm_X8_keep wy_X8_keep (by decide) ⟨rfl, rfl⟩ (rest := [.int y1]) rfl rfl hs (by simp [Value.category]) (fun r V2 hp => ?_)
  obtain ⟨hF, ⟨y2, rfl, hy3⟩, h125, h73⟩ := hp
  have hm : fm_gk K_X8_keep_0.2.2.1 = true := by decide +kernel
  have e80 := hF.2 80 2 (by decide +kernel)
  have b := hI.up.2.2.1
  replace hI : lw_I (n + 1) V2 := ⟨hF.1, fm_gm fm_G_gd hm V1 V2 hF.2 hI.2.1, by rw [e80]; exact b, by rw [h125]; exact b, by rw [hF.2 26 9 (by decide +kernel), e80]; exact hI.2.2.2.2.1, by rw [hF.2 41 9 (by decide +kernel), h125]; exact hI.2.2.2.2.2.1, by rw [hF.2 0 11 (by decide +kernel), h73]; exact hI.2.2.2.2.2.2⟩
  refine lz_same X 1153 d_law_1089 (by decide) (by omega) ?_
  exact next _ hI
theorem lw_c24 {p : Program} {l : Launch} {e : Env} {s : State} {m : MethodId} {args : Array Value} {below : List Frame} {meth : Method} {c : Code} {Q : State → Prop} {D : va_G} {ad : Nat → Nat} {cy : Nat → ClassId} {Z : State → Heap → Prop} (hAd : fm_Ad fm_tm ad) (hZ : fm_Zk (fm_A fm_tm ad) Z) (X : fm_X p s m args c code R_law D fm_cl fm_tm ad cy (lw_Aq s) fm_Ts 4) (Y : fm_Y s fm_nt Z fm_tm ad (lw_Aq s)) {b L n : Nat} {xs : Nat → Int32} (hX : va_X b L xs s s.heap) (hbl : b < s.heap.size) (hL : L ≤ 3072) {x3 : Int32} (hx3 : 0 ≤ x3.toInt ∧ x3.toInt + 6 ≤ L) {V : fm_V} (hI : lw_I n V) (hn : n < 512) {ls : Array Slot} (hl0 : ls[0]? = some (.val (.ref b))) (hl1 : ls[1]? = some (.val (.ref (ad 0)))) (hl2 : ls[2]? = some (.val (.ref (ad 80)))) (hl3 : ls[3]? = some (.val (.int x3))) (hs : ls.size = 4) (next : ∀ V1, lw_I (n + 1) V1 → lz_W p l e s m args below meth c Q D ad cy V1 1153 ls []) : lz_W p l e s m args below meth c Q D ad cy V 1094 ls [] := by
  have hb := hI.1.2 80 8 _ 73 0 1 rfl rfl
  have hv : (V 80 73).toInt = 0 ∨ (V 80 73).toInt = 1 := by omega
  have hF0 : (V 0 11).toInt = (V 80 73).toInt := hI.2.2.2.2.2.2
  rcases hv with hv | hv
  · skip
    have hkx : (0 : Int) ≤ (V 0 11).toInt ∧ (V 0 11).toInt ≤ (0 : Int) := by omega
    refine lz_aload_n X d_law_1094 rfl hl1 ?_
    refine lz_call X Y d_law_1095 (i := 0) (m_X7_undo_3 hAd hZ fm_G_gd V [.ref (ad 0)] ⟨hI.1, hI.2.1, ⟨rv_okR' rfl rfl, trivial⟩, (fun f hf => by
      rcases List.mem_cons.mp hf with rfl | hf
      · exact hkx
      rcases List.mem_cons.mp hf with rfl | hf
      · exact lw_ck hI hn (by decide)
      obtain rfl := List.mem_singleton.mp hf
      exact lw_kk hI hn (by decide))⟩) wl_L_119 wm_X7_undo wy_X7_undo (by decide) ⟨rfl, rfl⟩ (rest := []) rfl rfl hs (by simp [Value.category]) (fun r V1 hp => ?_)
    obtain ⟨y1, rfl, -⟩ := hp.2.2.1
    have hkv : V1 80 73 = V 80 73 := hp.2.1 80 73 (by decide +kernel)
    replace hI := lw_x hI hp (by decide +kernel)
    rw [← hkv] at hv
    clear hp hkv hb hF0 hkx
    refine lz_pop X d_law_1098 rfl ?_
    have hkp : (0 : Int) ≤ (V1 80 73).toInt ∧ (V1 80 73).toInt ≤ (0 : Int) := by omega
    refine lz_aload_n X d_law_1099 rfl hl2 ?_
    refine lz_call X Y d_law_1100 (i := 80) (m_X8_undo_1 hAd hZ V1 [.ref (ad 80)] ⟨hI.1, hI.2.1, ⟨rv_okR' rfl rfl, trivial⟩, (fun f hf => by
      rcases List.mem_cons.mp hf with rfl | hf
      · exact lw_hr hI hn (by decide)
      rcases List.mem_cons.mp hf with rfl | hf
      · exact hkp
      obtain rfl := List.mem_singleton.mp hf
      exact lw_sr hI hn (by decide))⟩) wl_L_123 wm_X8_undo wy_X8_undo (by decide) ⟨rfl, rfl⟩ (rest := []) rfl rfl hs (by simp [Value.category]) (fun r V2 hp => ?_)
    obtain ⟨y2, rfl, -⟩ := hp.2.2.1
    replace hI := lw_m hI hp (by decide +kernel)
    refine lz_pop X d_law_1103 rfl ?_
    refine lz_goto X 1153 d_law_1104 (by decide) ?_
    exact next _ hI
  · skip
    have hkx : (1 : Int) ≤ (V 0 11).toInt ∧ (V 0 11).toInt ≤ (1 : Int) := by omega
    refine lz_aload_n X d_law_1094 rfl hl1 ?_
    refine lz_call X Y d_law_1095 (i := 0) (m_X7_undo_4 hAd hZ fm_G_gd V [.ref (ad 0)] ⟨hI.1, hI.2.1, ⟨rv_okR' rfl rfl, trivial⟩, (fun f hf => by
      rcases List.mem_cons.mp hf with rfl | hf
      · exact hkx
      rcases List.mem_cons.mp hf with rfl | hf
      · exact lw_ck hI hn (by decide)
      obtain rfl := List.mem_singleton.mp hf
      exact lw_kk hI hn (by decide))⟩) wl_L_119 wm_X7_undo wy_X7_undo (by decide) ⟨rfl, rfl⟩ (rest := []) rfl rfl hs (by simp [Value.category]) (fun r V1 hp => ?_)
    obtain ⟨y1, rfl, -⟩ := hp.2.2.1
    have hkv : V1 80 73 = V 80 73 := hp.2.1 80 73 (by decide +kernel)
    have q2 := (hp.2.2.2 ((26, 9), 0, 2000000000, [((41, 9), 0, 0)]) (List.mem_singleton.mpr rfl)).2 ((41, 9), 0, 0) (List.mem_singleton.mpr rfl)
    have hcc : (V1 26 9).toInt = (V 41 9).toInt := by have a : (0 : Int) ≤ (V1 26 9).toInt - (V 41 9).toInt := q2.1; have b : (V1 26 9).toInt - (V 41 9).toInt ≤ (0 : Int) := q2.2; omega
    replace hI := lw_xF (F1 := (V1 26 9).toInt = (V1 125 5).toInt ∧ (V1 41 9).toInt = (V1 125 5).toInt ∧ (V1 0 11).toInt = (V1 80 73).toInt) hI ⟨hp.1, hp.2.1⟩ (by decide +kernel) (fun k => ⟨by rw [hcc, k 125 5 (by decide)]; exact hI.2.2.2.2.2.1, by rw [hp.2.1 41 9 (by decide +kernel), k 125 5 (by decide)]; exact hI.2.2.2.2.2.1, by rw [hp.2.1 0 11 (by decide +kernel), k 80 73 (by decide)]; exact hI.2.2.2.2.2.2⟩)
    clear q2 hcc
    rw [← hkv] at hv
    clear hp hkv hb hF0 hkx
    refine lz_pop X d_law_1098 rfl ?_
    have hkp : (1 : Int) ≤ (V1 80 73).toInt ∧ (V1 80 73).toInt ≤ (1 : Int) := by omega
    refine lz_aload_n X d_law_1099 rfl hl2 ?_
    refine lz_call X Y d_law_1100 (i := 80) (m_X8_undo_2 hAd hZ V1 [.ref (ad 80)] ⟨hI.1, hI.2.1, ⟨rv_okR' rfl rfl, trivial⟩, (fun f hf => by
      rcases List.mem_cons.mp hf with rfl | hf
      · exact lw_hr hI hn (by decide)
      rcases List.mem_cons.mp hf with rfl | hf
      · exact hkp
      obtain rfl := List.mem_singleton.mp hf
      exact lw_sr hI hn (by decide))⟩) wl_L_123 wm_X8_undo wy_X8_undo (by decide) ⟨rfl, rfl⟩ (rest := []) rfl rfl hs (by simp [Value.category]) (fun r V2 hp => ?_)
    obtain ⟨y2, rfl, -⟩ := hp.2.2.1
    have q2 := (hp.2.2.2 ((80, 2), 0, 2000000000, [((125, 5), 0, 0)]) (List.mem_singleton.mpr rfl)).2 ((125, 5), 0, 0) (List.mem_singleton.mpr rfl)
    have hcc : (V2 80 2).toInt = (V1 125 5).toInt := by have a : (0 : Int) ≤ (V2 80 2).toInt - (V1 125 5).toInt := q2.1; have b : (V2 80 2).toInt - (V1 125 5).toInt ≤ (0 : Int) := q2.2; omega
    have hm : fm_gk K_X8_undo_2.2.2.1 = true := by decide +kernel
    have e5 := hp.2.1 125 5 (by decide +kernel)
    have b := hI.up.2.2.2.1
    replace hI : lw_I (n + 1) V2 := ⟨hp.1, fm_gm fm_G_gd hm V1 V2 hp.2.1 hI.2.1, by rw [hcc]; exact b, by rw [e5]; exact b, by rw [hp.2.1 26 9 (by decide +kernel), hcc]; exact hI.2.2.2.2.1, by rw [hp.2.1 41 9 (by decide +kernel), e5]; exact hI.2.2.2.2.2.1, by rw [hp.2.1 0 11 (by decide +kernel), hp.2.1 80 73 (by decide +kernel)]; exact hI.2.2.2.2.2.2⟩
    refine lz_pop X d_law_1103 rfl ?_
    refine lz_goto X 1153 d_law_1104 (by decide) ?_
    exact next _ hI
theorem lw_c25 {p : Program} {l : Launch} {e : Env} {s : State} {m : MethodId} {args : Array Value} {below : List Frame} {meth : Method} {c : Code} {Q : State → Prop} {D : va_G} {ad : Nat → Nat} {cy : Nat → ClassId} {Z : State → Heap → Prop} (hAd : fm_Ad fm_tm ad) (hZ : fm_Zk (fm_A fm_tm ad) Z) (X : fm_X p s m args c code R_law D fm_cl fm_tm ad cy (lw_Aq s) fm_Ts 4) (Y : fm_Y s fm_nt Z fm_tm ad (lw_Aq s)) {b L n : Nat} {xs : Nat → Int32} (hX : va_X b L xs s s.heap) (hbl : b < s.heap.size) (hL : L ≤ 3072) {x3 : Int32} (hx3 : 0 ≤ x3.toInt ∧ x3.toInt + 6 ≤ L) {V : fm_V} (hI : lw_I n V) (hn : n < 512) {ls : Array Slot} (hl0 : ls[0]? = some (.val (.ref b))) (hl1 : ls[1]? = some (.val (.ref (ad 0)))) (hl2 : ls[2]? = some (.val (.ref (ad 80)))) (hl3 : ls[3]? = some (.val (.int x3))) (hs : ls.size = 4) (next : ∀ V1, lw_I (n + 1) V1 → lz_W p l e s m args below meth c Q D ad cy V1 1153 ls []) : lz_W p l e s m args below meth c Q D ad cy V 1107 ls [] := by
  refine lz_aload_n X d_law_1107 rfl hl1 ?_
  refine lz_arg X hX hbl hL hx3 hl0 hl3 (by decide) d_law_1108 d_law_1109 d_law_1110 d_law_1111 d_law_1112 ?_
  refine lz_call X Y d_law_1113 (i := 0) (m_X7_check_0 hAd hZ fm_G_gd V [.ref (ad 0), .int (xs (x3 + Int32.ofInt 1).toNatClampNeg)] ⟨hI.1, hI.2.1, ⟨rv_okR' rfl rfl, rv_full_ok _, trivial⟩, (fun f hf => absurd hf List.not_mem_nil)⟩) wl_L_124 wm_X7_check wy_X7_check (by decide) ⟨rfl, rfl⟩ (rest := []) rfl rfl hs (by simp [Value.category]) (fun r V1 hp => ?_)
  obtain ⟨y1, rfl, ya, yb, -, yc⟩ := hp.2.2.1
  replace hI := lw_x hI hp (by decide +kernel)
  clear hp yc
  refine lz_pop X d_law_1116 rfl ?_
  refine lz_aload_n X d_law_1117 rfl hl2 ?_
  refine lz_arg X hX hbl hL hx3 hl0 hl3 (by decide) d_law_1118 d_law_1119 d_law_1120 d_law_1121 d_law_1122 ?_
  refine lz_call X Y d_law_1123 (i := 80) (m_X8_check_0 hAd hZ V1 [.ref (ad 80), .int (xs (x3 + Int32.ofInt 1).toNatClampNeg)] ⟨hI.1, hI.2.1, ⟨rv_okR' rfl rfl, rv_full_ok _, trivial⟩, (fun f hf => absurd hf List.not_mem_nil)⟩) wl_L_127 wm_X8_check wy_X8_check (by decide) ⟨rfl, rfl⟩ (rest := []) rfl rfl hs (by simp [Value.category]) (fun r V2 hp => ?_)
  obtain ⟨y2, rfl, za, zb, -, zc⟩ := hp.2.2.1
  replace hI := lw_m hI hp (by decide +kernel)
  refine lz_pop X d_law_1126 rfl ?_
  refine lz_goto X 1153 d_law_1127 (by decide) ?_
  exact next _ hI
theorem lw_c26 {p : Program} {l : Launch} {e : Env} {s : State} {m : MethodId} {args : Array Value} {below : List Frame} {meth : Method} {c : Code} {Q : State → Prop} {D : va_G} {ad : Nat → Nat} {cy : Nat → ClassId} {Z : State → Heap → Prop} (hAd : fm_Ad fm_tm ad) (hZ : fm_Zk (fm_A fm_tm ad) Z) (X : fm_X p s m args c code R_law D fm_cl fm_tm ad cy (lw_Aq s) fm_Ts 4) (Y : fm_Y s fm_nt Z fm_tm ad (lw_Aq s)) {b L n : Nat} {xs : Nat → Int32} (hX : va_X b L xs s s.heap) (hbl : b < s.heap.size) (hL : L ≤ 3072) {x3 : Int32} (hx3 : 0 ≤ x3.toInt ∧ x3.toInt + 6 ≤ L) {V : fm_V} (hI : lw_I n V) (hn : n < 512) {ls : Array Slot} (hl0 : ls[0]? = some (.val (.ref b))) (hl1 : ls[1]? = some (.val (.ref (ad 0)))) (hl2 : ls[2]? = some (.val (.ref (ad 80)))) (hl3 : ls[3]? = some (.val (.int x3))) (hs : ls.size = 4) (next : ∀ V1, lw_I (n + 1) V1 → lz_W p l e s m args below meth c Q D ad cy V1 1153 ls []) : lz_W p l e s m args below meth c Q D ad cy V 1130 ls [] := by
  refine lz_aload_n X d_law_1130 rfl hl1 ?_
  refine lz_arg X hX hbl hL hx3 hl0 hl3 (by decide) d_law_1131 d_law_1132 d_law_1133 d_law_1134 d_law_1135 ?_
  refine lz_call X Y d_law_1136 (i := 0) (m_X7_count_0 hAd hZ fm_G_gd V [.ref (ad 0), .int (xs (x3 + Int32.ofInt 1).toNatClampNeg)] ⟨hI.1, hI.2.1, ⟨rv_okR' rfl rfl, rv_full_ok _, trivial⟩, (fun f hf => absurd hf List.not_mem_nil)⟩) wl_L_128 wm_X7_count wy_X7_count (by decide) ⟨rfl, rfl⟩ (rest := []) rfl rfl hs (by simp [Value.category]) (fun r V1 hp => ?_)
  obtain ⟨y1, rfl, ya, yb, -, yc⟩ := hp.2.2.1
  replace hI := lw_x hI hp (by decide +kernel)
  clear hp yc
  refine lz_pop X d_law_1139 rfl ?_
  refine lz_aload_n X d_law_1140 rfl hl2 ?_
  refine lz_arg X hX hbl hL hx3 hl0 hl3 (by decide) d_law_1141 d_law_1142 d_law_1143 d_law_1144 d_law_1145 ?_
  refine lz_call X Y d_law_1146 (i := 80) (m_X8_count_0 hAd hZ V1 [.ref (ad 80), .int (xs (x3 + Int32.ofInt 1).toNatClampNeg)] ⟨hI.1, hI.2.1, ⟨rv_okR' rfl rfl, rv_full_ok _, trivial⟩, (fun f hf => absurd hf List.not_mem_nil)⟩) wl_L_131 wm_X8_count wy_X8_count (by decide) ⟨rfl, rfl⟩ (rest := []) rfl rfl hs (by simp [Value.category]) (fun r V2 hp => ?_)
  obtain ⟨y2, rfl, za, zb, -, zc⟩ := hp.2.2.1
  replace hI := lw_m hI hp (by decide +kernel)
  refine lz_pop X d_law_1149 rfl ?_
  refine lz_goto X 1153 d_law_1150 (by decide) ?_
  exact next _ hI

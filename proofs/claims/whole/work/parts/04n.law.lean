def DL_law_b523 (L : Nat) (xs : Nat → Int32) (k18 : Int → qH → Option (Int × qH)) (a3 : Int) (b0 : Int) (b1 : Int) (b2 : Int) (b4 : Int) (h : qH) : Option (Int × qH) := (qbd (DX10_throwsIt b2 b1 b0 h) fun r1 h2 => (if b4 = r1 then (k18 (qw (a3 + 6)) h2) else some (0, h2)))
set_option maxRecDepth 100000 in
theorem TL_law_b523 {L : Nat} {xs : Nat → Int32} (hL : L < 2 ^ 31) (k18 : Int → qH → Option (Int × qH)) (hk18 : ∀ (a3 : Int) (h : qH), qS L xs cL_law "BottlePostLaw" 4 120 4 18 [(0, qr 227), (1, qr 0), (2, qr 212), (3, qi a3)] [] h (k18 a3 h)) (a3 : Int) (b0 : Int) (b1 : Int) (b2 : Int) (b4 : Int) (h : qH) : qS L xs cL_law "BottlePostLaw" 4 120 4 523 [(0, qr 227), (1, qr 0), (2, qr 212), (3, qi a3)] [qi b0, qi b1, qi b2, qr 212, qi b4] h (DL_law_b523 L xs k18 a3 b0 b1 b2 b4 h) := by
  unfold DL_law_b523
  refine S_callV_i (as := [qi b2, qi b1, qi b0]) (st := [qi b4]) (fun _ => rfl) (TX10_throwsIt b2 b1 b0 h) yv_X10_throwsIt tw_1548 qC_10 qk_212 (by decide) rfl rfl (Nat.le_of_ble_eq_true rfl) dL_law_523 rfl (fun r1 h2 e3 => ?_)
  refine S_icmp_eq (tgt := 1621) dL_law_526 (by decide) rfl (fun _ => ?_) (fun _ => ?_)
  · refine S_iinc (lv' := [(3, qi (qw (a3 + 6))), (0, qr 227), (1, qr 0), (2, qr 212)]) 3 dL_law_1621 rfl (by decide) rfl rfl ?_
    refine S_goto (pc' := 18) dL_law_1624 (by decide) ?_
    refine S_sub [1, 2, 3, 0] rfl ?_
    exact hk18 (qw (a3 + 6)) h2
  · refine S_iconst (a := 0) dL_law_529 rfl (by decide) ?_
    exact S_zretl (by decide) dL_law_530
def DL_law_b496 (L : Nat) (xs : Nat → Int32) (k18 : Int → qH → Option (Int × qH)) (a3 : Int) (b0 : Int) (b1 : Int) (b2 : Int) (h : qH) : Option (Int × qH) := (qbd (DX9_throwsIt b2 b1 b0 h) fun r4 h5 => (if 0 ≤ qw (a3 + 1) ∧ qw (a3 + 1) < (L : Int) then (if 0 ≤ qw (a3 + 2) ∧ qw (a3 + 2) < (L : Int) then (if 0 ≤ qw (a3 + 3) ∧ qw (a3 + 3) < (L : Int) then (if (xs (qw (a3 + 3)).toNat).toInt = 0 then (DL_law_b523 L xs k18 a3 0 ((xs (qw (a3 + 2)).toNat).toInt) ((xs (qw (a3 + 1)).toNat).toInt) r4 h5) else (DL_law_b523 L xs k18 a3 1 ((xs (qw (a3 + 2)).toNat).toInt) ((xs (qw (a3 + 1)).toNat).toInt) r4 h5)) else none) else none) else none))
set_option maxRecDepth 100000 in
theorem TL_law_b496 {L : Nat} {xs : Nat → Int32} (hL : L < 2 ^ 31) (k18 : Int → qH → Option (Int × qH)) (hk18 : ∀ (a3 : Int) (h : qH), qS L xs cL_law "BottlePostLaw" 4 120 4 18 [(0, qr 227), (1, qr 0), (2, qr 212), (3, qi a3)] [] h (k18 a3 h)) (a3 : Int) (b0 : Int) (b1 : Int) (b2 : Int) (h : qH) : qS L xs cL_law "BottlePostLaw" 4 120 4 496 [(0, qr 227), (1, qr 0), (2, qr 212), (3, qi a3)] [qi b0, qi b1, qi b2, qr 0] h (DL_law_b496 L xs k18 a3 b0 b1 b2 h) := by
  unfold DL_law_b496
  refine S_callV_i (as := [qi b2, qi b1, qi b0]) (st := []) (fun _ => rfl) (TX9_throwsIt b2 b1 b0 h) yv_X9_throwsIt tw_826 qC_9 qk_0 (by decide) rfl rfl (Nat.le_of_ble_eq_true rfl) dL_law_496 rfl (fun r4 h5 e6 => ?_)
  refine S_aload_n 2 dL_law_499 rfl rfl rfl ?_
  refine S_aload_n 0 dL_law_500 rfl rfl rfl ?_
  refine S_iload_n 3 dL_law_501 rfl rfl rfl ?_
  refine S_iconst (a := 1) dL_law_502 rfl (by decide) ?_
  refine S_iadd dL_law_503 rfl ?_
  refine S_ite (fun g7 => ?_) (fun _ => S_none)
  refine S_sld dL_law_504 rfl g7.1 g7.2 ?_
  refine S_aload_n 0 dL_law_505 rfl rfl rfl ?_
  refine S_iload_n 3 dL_law_506 rfl rfl rfl ?_
  refine S_iconst (a := 2) dL_law_507 rfl (by decide) ?_
  refine S_iadd dL_law_508 rfl ?_
  refine S_ite (fun g8 => ?_) (fun _ => S_none)
  refine S_sld dL_law_509 rfl g8.1 g8.2 ?_
  refine S_aload_n 0 dL_law_510 rfl rfl rfl ?_
  refine S_iload_n 3 dL_law_511 rfl rfl rfl ?_
  refine S_iconst (a := 3) dL_law_512 rfl (by decide) ?_
  refine S_iadd dL_law_513 rfl ?_
  refine S_ite (fun g9 => ?_) (fun _ => S_none)
  refine S_sld dL_law_514 rfl g9.1 g9.2 ?_
  refine S_if_eq (tgt := 522) dL_law_515 (by decide) rfl (fun _ => ?_) (fun _ => ?_)
  · refine S_iconst (a := 0) dL_law_522 rfl (by decide) ?_
    exact TL_law_b523 hL k18 hk18 a3 0 ((xs (qw (a3 + 2)).toNat).toInt) ((xs (qw (a3 + 1)).toNat).toInt) r4 h5
  · refine S_iconst (a := 1) dL_law_518 rfl (by decide) ?_
    refine S_goto (pc' := 523) dL_law_519 (by decide) ?_
    exact TL_law_b523 hL k18 hk18 a3 1 ((xs (qw (a3 + 2)).toNat).toInt) ((xs (qw (a3 + 1)).toNat).toInt) r4 h5
def DL_law_b877 (L : Nat) (xs : Nat → Int32) (k18 : Int → qH → Option (Int × qH)) (a3 : Int) (b0 : Int) (b1 : Int) (b2 : Int) (b4 : Int) (h : qH) : Option (Int × qH) := (if 0 ≤ qw (a3 + 4) ∧ qw (a3 + 4) < (L : Int) then (qbd (DX10_keeper b2 b1 b0 ((xs (qw (a3 + 4)).toNat).toInt) h) fun r11 h12 => (if b4 = r11 then (k18 (qw (a3 + 6)) h12) else some (0, h12))) else none)
set_option maxRecDepth 100000 in
theorem TL_law_b877 {L : Nat} {xs : Nat → Int32} (hL : L < 2 ^ 31) (k18 : Int → qH → Option (Int × qH)) (hk18 : ∀ (a3 : Int) (h : qH), qS L xs cL_law "BottlePostLaw" 4 120 4 18 [(0, qr 227), (1, qr 0), (2, qr 212), (3, qi a3)] [] h (k18 a3 h)) (a3 : Int) (b0 : Int) (b1 : Int) (b2 : Int) (b4 : Int) (h : qH) : qS L xs cL_law "BottlePostLaw" 4 120 4 877 [(0, qr 227), (1, qr 0), (2, qr 212), (3, qi a3)] [qi b0, qi b1, qi b2, qr 212, qi b4] h (DL_law_b877 L xs k18 a3 b0 b1 b2 b4 h) := by
  unfold DL_law_b877
  refine S_aload_n 0 dL_law_877 rfl rfl rfl ?_
  refine S_iload_n 3 dL_law_878 rfl rfl rfl ?_
  refine S_iconst (a := 4) dL_law_879 rfl (by decide) ?_
  refine S_iadd dL_law_880 rfl ?_
  refine S_ite (fun g10 => ?_) (fun _ => S_none)
  refine S_sld dL_law_881 rfl g10.1 g10.2 ?_
  refine S_callV_i (as := [qi b2, qi b1, qi b0, qi ((xs (qw (a3 + 4)).toNat).toInt)]) (st := [qi b4]) (fun _ => rfl) (TX10_keeper b2 b1 b0 ((xs (qw (a3 + 4)).toNat).toInt) h) yv_X10_keeper tw_1709 qC_10 qk_212 (by decide) rfl rfl (Nat.le_of_ble_eq_true rfl) dL_law_882 rfl (fun r11 h12 e13 => ?_)
  refine S_icmp_eq (tgt := 1621) dL_law_885 (by decide) rfl (fun _ => ?_) (fun _ => ?_)
  · refine S_iinc (lv' := [(3, qi (qw (a3 + 6))), (0, qr 227), (1, qr 0), (2, qr 212)]) 3 dL_law_1621 rfl (by decide) rfl rfl ?_
    refine S_goto (pc' := 18) dL_law_1624 (by decide) ?_
    refine S_sub [1, 2, 3, 0] rfl ?_
    exact hk18 (qw (a3 + 6)) h12
  · refine S_iconst (a := 0) dL_law_888 rfl (by decide) ?_
    exact S_zretl (by decide) dL_law_889
def DL_law_b845 (L : Nat) (xs : Nat → Int32) (k18 : Int → qH → Option (Int × qH)) (a3 : Int) (b0 : Int) (b1 : Int) (b2 : Int) (h : qH) : Option (Int × qH) := (if 0 ≤ qw (a3 + 4) ∧ qw (a3 + 4) < (L : Int) then (qbd (DX9_keeper b2 b1 b0 ((xs (qw (a3 + 4)).toNat).toInt) h) fun r15 h16 => (if 0 ≤ qw (a3 + 1) ∧ qw (a3 + 1) < (L : Int) then (if 0 ≤ qw (a3 + 2) ∧ qw (a3 + 2) < (L : Int) then (if 0 ≤ qw (a3 + 3) ∧ qw (a3 + 3) < (L : Int) then (if (xs (qw (a3 + 3)).toNat).toInt = 0 then (DL_law_b877 L xs k18 a3 0 ((xs (qw (a3 + 2)).toNat).toInt) ((xs (qw (a3 + 1)).toNat).toInt) r15 h16) else (DL_law_b877 L xs k18 a3 1 ((xs (qw (a3 + 2)).toNat).toInt) ((xs (qw (a3 + 1)).toNat).toInt) r15 h16)) else none) else none) else none)) else none)
set_option maxRecDepth 100000 in
theorem TL_law_b845 {L : Nat} {xs : Nat → Int32} (hL : L < 2 ^ 31) (k18 : Int → qH → Option (Int × qH)) (hk18 : ∀ (a3 : Int) (h : qH), qS L xs cL_law "BottlePostLaw" 4 120 4 18 [(0, qr 227), (1, qr 0), (2, qr 212), (3, qi a3)] [] h (k18 a3 h)) (a3 : Int) (b0 : Int) (b1 : Int) (b2 : Int) (h : qH) : qS L xs cL_law "BottlePostLaw" 4 120 4 845 [(0, qr 227), (1, qr 0), (2, qr 212), (3, qi a3)] [qi b0, qi b1, qi b2, qr 0] h (DL_law_b845 L xs k18 a3 b0 b1 b2 h) := by
  unfold DL_law_b845
  refine S_aload_n 0 dL_law_845 rfl rfl rfl ?_
  refine S_iload_n 3 dL_law_846 rfl rfl rfl ?_
  refine S_iconst (a := 4) dL_law_847 rfl (by decide) ?_
  refine S_iadd dL_law_848 rfl ?_
  refine S_ite (fun g14 => ?_) (fun _ => S_none)
  refine S_sld dL_law_849 rfl g14.1 g14.2 ?_
  refine S_callV_i (as := [qi b2, qi b1, qi b0, qi ((xs (qw (a3 + 4)).toNat).toInt)]) (st := []) (fun _ => rfl) (TX9_keeper b2 b1 b0 ((xs (qw (a3 + 4)).toNat).toInt) h) yv_X9_keeper tw_1010 qC_9 qk_0 (by decide) rfl rfl (Nat.le_of_ble_eq_true rfl) dL_law_850 rfl (fun r15 h16 e17 => ?_)
  refine S_aload_n 2 dL_law_853 rfl rfl rfl ?_
  refine S_aload_n 0 dL_law_854 rfl rfl rfl ?_
  refine S_iload_n 3 dL_law_855 rfl rfl rfl ?_
  refine S_iconst (a := 1) dL_law_856 rfl (by decide) ?_
  refine S_iadd dL_law_857 rfl ?_
  refine S_ite (fun g18 => ?_) (fun _ => S_none)
  refine S_sld dL_law_858 rfl g18.1 g18.2 ?_
  refine S_aload_n 0 dL_law_859 rfl rfl rfl ?_
  refine S_iload_n 3 dL_law_860 rfl rfl rfl ?_
  refine S_iconst (a := 2) dL_law_861 rfl (by decide) ?_
  refine S_iadd dL_law_862 rfl ?_
  refine S_ite (fun g19 => ?_) (fun _ => S_none)
  refine S_sld dL_law_863 rfl g19.1 g19.2 ?_
  refine S_aload_n 0 dL_law_864 rfl rfl rfl ?_
  refine S_iload_n 3 dL_law_865 rfl rfl rfl ?_
  refine S_iconst (a := 3) dL_law_866 rfl (by decide) ?_
  refine S_iadd dL_law_867 rfl ?_
  refine S_ite (fun g20 => ?_) (fun _ => S_none)
  refine S_sld dL_law_868 rfl g20.1 g20.2 ?_
  refine S_if_eq (tgt := 876) dL_law_869 (by decide) rfl (fun _ => ?_) (fun _ => ?_)
  · refine S_iconst (a := 0) dL_law_876 rfl (by decide) ?_
    exact TL_law_b877 hL k18 hk18 a3 0 ((xs (qw (a3 + 2)).toNat).toInt) ((xs (qw (a3 + 1)).toNat).toInt) r15 h16
  · refine S_iconst (a := 1) dL_law_872 rfl (by decide) ?_
    refine S_goto (pc' := 877) dL_law_873 (by decide) ?_
    exact TL_law_b877 hL k18 hk18 a3 1 ((xs (qw (a3 + 2)).toNat).toInt) ((xs (qw (a3 + 1)).toNat).toInt) r15 h16
def DL_law_b946 (L : Nat) (xs : Nat → Int32) (k18 : Int → qH → Option (Int × qH)) (a3 : Int) (b0 : Int) (b1 : Int) (b2 : Int) (b4 : Int) (h : qH) : Option (Int × qH) := (if 0 ≤ qw (a3 + 4) ∧ qw (a3 + 4) < (L : Int) then (qbd (DX10_reaches b2 b1 b0 ((xs (qw (a3 + 4)).toNat).toInt) h) fun r22 h23 => (if b4 = r22 then (k18 (qw (a3 + 6)) h23) else some (0, h23))) else none)
set_option maxRecDepth 100000 in
theorem TL_law_b946 {L : Nat} {xs : Nat → Int32} (hL : L < 2 ^ 31) (k18 : Int → qH → Option (Int × qH)) (hk18 : ∀ (a3 : Int) (h : qH), qS L xs cL_law "BottlePostLaw" 4 120 4 18 [(0, qr 227), (1, qr 0), (2, qr 212), (3, qi a3)] [] h (k18 a3 h)) (a3 : Int) (b0 : Int) (b1 : Int) (b2 : Int) (b4 : Int) (h : qH) : qS L xs cL_law "BottlePostLaw" 4 120 4 946 [(0, qr 227), (1, qr 0), (2, qr 212), (3, qi a3)] [qi b0, qi b1, qi b2, qr 212, qi b4] h (DL_law_b946 L xs k18 a3 b0 b1 b2 b4 h) := by
  unfold DL_law_b946
  refine S_aload_n 0 dL_law_946 rfl rfl rfl ?_
  refine S_iload_n 3 dL_law_947 rfl rfl rfl ?_
  refine S_iconst (a := 4) dL_law_948 rfl (by decide) ?_
  refine S_iadd dL_law_949 rfl ?_
  refine S_ite (fun g21 => ?_) (fun _ => S_none)
  refine S_sld dL_law_950 rfl g21.1 g21.2 ?_
  refine S_callV_i (as := [qi b2, qi b1, qi b0, qi ((xs (qw (a3 + 4)).toNat).toInt)]) (st := [qi b4]) (fun _ => rfl) (TX10_reaches b2 b1 b0 ((xs (qw (a3 + 4)).toNat).toInt) h) yv_X10_reaches tw_1722 qC_10 qk_212 (by decide) rfl rfl (Nat.le_of_ble_eq_true rfl) dL_law_951 rfl (fun r22 h23 e24 => ?_)
  refine S_icmp_eq (tgt := 1621) dL_law_954 (by decide) rfl (fun _ => ?_) (fun _ => ?_)
  · refine S_iinc (lv' := [(3, qi (qw (a3 + 6))), (0, qr 227), (1, qr 0), (2, qr 212)]) 3 dL_law_1621 rfl (by decide) rfl rfl ?_
    refine S_goto (pc' := 18) dL_law_1624 (by decide) ?_
    refine S_sub [1, 2, 3, 0] rfl ?_
    exact hk18 (qw (a3 + 6)) h23
  · refine S_iconst (a := 0) dL_law_957 rfl (by decide) ?_
    exact S_zretl (by decide) dL_law_958
def DL_law_b914 (L : Nat) (xs : Nat → Int32) (k18 : Int → qH → Option (Int × qH)) (a3 : Int) (b0 : Int) (b1 : Int) (b2 : Int) (h : qH) : Option (Int × qH) := (if 0 ≤ qw (a3 + 4) ∧ qw (a3 + 4) < (L : Int) then (qbd (DX9_reaches b2 b1 b0 ((xs (qw (a3 + 4)).toNat).toInt) h) fun r26 h27 => (if 0 ≤ qw (a3 + 1) ∧ qw (a3 + 1) < (L : Int) then (if 0 ≤ qw (a3 + 2) ∧ qw (a3 + 2) < (L : Int) then (if 0 ≤ qw (a3 + 3) ∧ qw (a3 + 3) < (L : Int) then (if (xs (qw (a3 + 3)).toNat).toInt = 0 then (DL_law_b946 L xs k18 a3 0 ((xs (qw (a3 + 2)).toNat).toInt) ((xs (qw (a3 + 1)).toNat).toInt) r26 h27) else (DL_law_b946 L xs k18 a3 1 ((xs (qw (a3 + 2)).toNat).toInt) ((xs (qw (a3 + 1)).toNat).toInt) r26 h27)) else none) else none) else none)) else none)
set_option maxRecDepth 100000 in
theorem TL_law_b914 {L : Nat} {xs : Nat → Int32} (hL : L < 2 ^ 31) (k18 : Int → qH → Option (Int × qH)) (hk18 : ∀ (a3 : Int) (h : qH), qS L xs cL_law "BottlePostLaw" 4 120 4 18 [(0, qr 227), (1, qr 0), (2, qr 212), (3, qi a3)] [] h (k18 a3 h)) (a3 : Int) (b0 : Int) (b1 : Int) (b2 : Int) (h : qH) : qS L xs cL_law "BottlePostLaw" 4 120 4 914 [(0, qr 227), (1, qr 0), (2, qr 212), (3, qi a3)] [qi b0, qi b1, qi b2, qr 0] h (DL_law_b914 L xs k18 a3 b0 b1 b2 h) := by
  unfold DL_law_b914
  refine S_aload_n 0 dL_law_914 rfl rfl rfl ?_
  refine S_iload_n 3 dL_law_915 rfl rfl rfl ?_
  refine S_iconst (a := 4) dL_law_916 rfl (by decide) ?_
  refine S_iadd dL_law_917 rfl ?_
  refine S_ite (fun g25 => ?_) (fun _ => S_none)
  refine S_sld dL_law_918 rfl g25.1 g25.2 ?_
  refine S_callV_i (as := [qi b2, qi b1, qi b0, qi ((xs (qw (a3 + 4)).toNat).toInt)]) (st := []) (fun _ => rfl) (TX9_reaches b2 b1 b0 ((xs (qw (a3 + 4)).toNat).toInt) h) yv_X9_reaches tw_1031 qC_9 qk_0 (by decide) rfl rfl (Nat.le_of_ble_eq_true rfl) dL_law_919 rfl (fun r26 h27 e28 => ?_)
  refine S_aload_n 2 dL_law_922 rfl rfl rfl ?_
  refine S_aload_n 0 dL_law_923 rfl rfl rfl ?_
  refine S_iload_n 3 dL_law_924 rfl rfl rfl ?_
  refine S_iconst (a := 1) dL_law_925 rfl (by decide) ?_
  refine S_iadd dL_law_926 rfl ?_
  refine S_ite (fun g29 => ?_) (fun _ => S_none)
  refine S_sld dL_law_927 rfl g29.1 g29.2 ?_
  refine S_aload_n 0 dL_law_928 rfl rfl rfl ?_
  refine S_iload_n 3 dL_law_929 rfl rfl rfl ?_
  refine S_iconst (a := 2) dL_law_930 rfl (by decide) ?_
  refine S_iadd dL_law_931 rfl ?_
  refine S_ite (fun g30 => ?_) (fun _ => S_none)
  refine S_sld dL_law_932 rfl g30.1 g30.2 ?_
  refine S_aload_n 0 dL_law_933 rfl rfl rfl ?_
  refine S_iload_n 3 dL_law_934 rfl rfl rfl ?_
  refine S_iconst (a := 3) dL_law_935 rfl (by decide) ?_
  refine S_iadd dL_law_936 rfl ?_
  refine S_ite (fun g31 => ?_) (fun _ => S_none)
  refine S_sld dL_law_937 rfl g31.1 g31.2 ?_
  refine S_if_eq (tgt := 945) dL_law_938 (by decide) rfl (fun _ => ?_) (fun _ => ?_)
  · refine S_iconst (a := 0) dL_law_945 rfl (by decide) ?_
    exact TL_law_b946 hL k18 hk18 a3 0 ((xs (qw (a3 + 2)).toNat).toInt) ((xs (qw (a3 + 1)).toNat).toInt) r26 h27
  · refine S_iconst (a := 1) dL_law_941 rfl (by decide) ?_
    refine S_goto (pc' := 946) dL_law_942 (by decide) ?_
    exact TL_law_b946 hL k18 hk18 a3 1 ((xs (qw (a3 + 2)).toNat).toInt) ((xs (qw (a3 + 1)).toNat).toInt) r26 h27
def DL_law_b1255 (L : Nat) (xs : Nat → Int32) (k18 : Int → qH → Option (Int × qH)) (a3 : Int) (b0 : Int) (b2 : Int) (h : qH) : Option (Int × qH) := (qbd (DX10_deadly b0 h) fun r32 h33 => (if qcmp b2 r32 = 0 then (k18 (qw (a3 + 6)) h33) else some (0, h33)))
set_option maxRecDepth 100000 in
theorem TL_law_b1255 {L : Nat} {xs : Nat → Int32} (hL : L < 2 ^ 31) (k18 : Int → qH → Option (Int × qH)) (hk18 : ∀ (a3 : Int) (h : qH), qS L xs cL_law "BottlePostLaw" 4 120 4 18 [(0, qr 227), (1, qr 0), (2, qr 212), (3, qi a3)] [] h (k18 a3 h)) (a3 : Int) (b0 : Int) (b2 : Int) (h : qH) : qS L xs cL_law "BottlePostLaw" 4 120 4 1255 [(0, qr 227), (1, qr 0), (2, qr 212), (3, qi a3)] [qi b0, qr 212, ql b2] h (DL_law_b1255 L xs k18 a3 b0 b2 h) := by
  unfold DL_law_b1255
  refine S_callV_l (as := [qi b0]) (st := [ql b2]) (fun _ => rfl) (TX10_deadly b0 h) yv_X10_deadly tw_1783 qC_10 qk_212 (by decide) rfl rfl (Nat.le_of_ble_eq_true rfl) dL_law_1255 rfl (fun r32 h33 e34 => ?_)
  refine S_lcmp dL_law_1258 rfl ?_
  refine S_if_eq (tgt := 1621) dL_law_1259 (by decide) rfl (fun _ => ?_) (fun _ => ?_)
  · refine S_iinc (lv' := [(3, qi (qw (a3 + 6))), (0, qr 227), (1, qr 0), (2, qr 212)]) 3 dL_law_1621 rfl (by decide) rfl rfl ?_
    refine S_goto (pc' := 18) dL_law_1624 (by decide) ?_
    refine S_sub [1, 2, 3, 0] rfl ?_
    exact hk18 (qw (a3 + 6)) h33
  · refine S_iconst (a := 0) dL_law_1262 rfl (by decide) ?_
    exact S_zretl (by decide) dL_law_1263
def DL_law_b1238 (L : Nat) (xs : Nat → Int32) (k18 : Int → qH → Option (Int × qH)) (a3 : Int) (b0 : Int) (h : qH) : Option (Int × qH) := (qbd (DX9_deadly b0 h) fun r35 h36 => (if 0 ≤ qw (a3 + 1) ∧ qw (a3 + 1) < (L : Int) then (if (xs (qw (a3 + 1)).toNat).toInt = 0 then (DL_law_b1255 L xs k18 a3 0 r35 h36) else (DL_law_b1255 L xs k18 a3 1 r35 h36)) else none))
set_option maxRecDepth 100000 in
theorem TL_law_b1238 {L : Nat} {xs : Nat → Int32} (hL : L < 2 ^ 31) (k18 : Int → qH → Option (Int × qH)) (hk18 : ∀ (a3 : Int) (h : qH), qS L xs cL_law "BottlePostLaw" 4 120 4 18 [(0, qr 227), (1, qr 0), (2, qr 212), (3, qi a3)] [] h (k18 a3 h)) (a3 : Int) (b0 : Int) (h : qH) : qS L xs cL_law "BottlePostLaw" 4 120 4 1238 [(0, qr 227), (1, qr 0), (2, qr 212), (3, qi a3)] [qi b0, qr 0] h (DL_law_b1238 L xs k18 a3 b0 h) := by
  unfold DL_law_b1238
  refine S_callV_l (as := [qi b0]) (st := []) (fun _ => rfl) (TX9_deadly b0 h) yv_X9_deadly tw_1129 qC_9 qk_0 (by decide) rfl rfl (Nat.le_of_ble_eq_true rfl) dL_law_1238 rfl (fun r35 h36 e37 => ?_)
  refine S_aload_n 2 dL_law_1241 rfl rfl rfl ?_
  refine S_aload_n 0 dL_law_1242 rfl rfl rfl ?_
  refine S_iload_n 3 dL_law_1243 rfl rfl rfl ?_
  refine S_iconst (a := 1) dL_law_1244 rfl (by decide) ?_
  refine S_iadd dL_law_1245 rfl ?_
  refine S_ite (fun g38 => ?_) (fun _ => S_none)
  refine S_sld dL_law_1246 rfl g38.1 g38.2 ?_
  refine S_if_eq (tgt := 1254) dL_law_1247 (by decide) rfl (fun _ => ?_) (fun _ => ?_)
  · refine S_iconst (a := 0) dL_law_1254 rfl (by decide) ?_
    exact TL_law_b1255 hL k18 hk18 a3 0 r35 h36
  · refine S_iconst (a := 1) dL_law_1250 rfl (by decide) ?_
    refine S_goto (pc' := 1255) dL_law_1251 (by decide) ?_
    exact TL_law_b1255 hL k18 hk18 a3 1 r35 h36
def DL_law_b1305 (L : Nat) (xs : Nat → Int32) (k18 : Int → qH → Option (Int × qH)) (a3 : Int) (b0 : Int) (b1 : Int) (b3 : Int) (h : qH) : Option (Int × qH) := (qbd (DX10_eddy b1 b0 h) fun r39 h40 => (if b3 = r39 then (k18 (qw (a3 + 6)) h40) else some (0, h40)))
set_option maxRecDepth 100000 in
theorem TL_law_b1305 {L : Nat} {xs : Nat → Int32} (hL : L < 2 ^ 31) (k18 : Int → qH → Option (Int × qH)) (hk18 : ∀ (a3 : Int) (h : qH), qS L xs cL_law "BottlePostLaw" 4 120 4 18 [(0, qr 227), (1, qr 0), (2, qr 212), (3, qi a3)] [] h (k18 a3 h)) (a3 : Int) (b0 : Int) (b1 : Int) (b3 : Int) (h : qH) : qS L xs cL_law "BottlePostLaw" 4 120 4 1305 [(0, qr 227), (1, qr 0), (2, qr 212), (3, qi a3)] [qi b0, qi b1, qr 212, qi b3] h (DL_law_b1305 L xs k18 a3 b0 b1 b3 h) := by
  unfold DL_law_b1305
  refine S_callV_i (as := [qi b1, qi b0]) (st := [qi b3]) (fun _ => rfl) (TX10_eddy b1 b0 h) yv_X10_eddy tw_1787 qC_10 qk_212 (by decide) rfl rfl (Nat.le_of_ble_eq_true rfl) dL_law_1305 rfl (fun r39 h40 e41 => ?_)
  refine S_icmp_eq (tgt := 1621) dL_law_1308 (by decide) rfl (fun _ => ?_) (fun _ => ?_)
  · refine S_iinc (lv' := [(3, qi (qw (a3 + 6))), (0, qr 227), (1, qr 0), (2, qr 212)]) 3 dL_law_1621 rfl (by decide) rfl rfl ?_
    refine S_goto (pc' := 18) dL_law_1624 (by decide) ?_
    refine S_sub [1, 2, 3, 0] rfl ?_
    exact hk18 (qw (a3 + 6)) h40
  · refine S_iconst (a := 0) dL_law_1311 rfl (by decide) ?_
    exact S_zretl (by decide) dL_law_1312
def DL_law_b1283 (L : Nat) (xs : Nat → Int32) (k18 : Int → qH → Option (Int × qH)) (a3 : Int) (b0 : Int) (b1 : Int) (h : qH) : Option (Int × qH) := (qbd (DX9_eddy b1 b0 h) fun r42 h43 => (if 0 ≤ qw (a3 + 1) ∧ qw (a3 + 1) < (L : Int) then (if 0 ≤ qw (a3 + 2) ∧ qw (a3 + 2) < (L : Int) then (if (xs (qw (a3 + 2)).toNat).toInt = 0 then (DL_law_b1305 L xs k18 a3 0 ((xs (qw (a3 + 1)).toNat).toInt) r42 h43) else (DL_law_b1305 L xs k18 a3 1 ((xs (qw (a3 + 1)).toNat).toInt) r42 h43)) else none) else none))
set_option maxRecDepth 100000 in
theorem TL_law_b1283 {L : Nat} {xs : Nat → Int32} (hL : L < 2 ^ 31) (k18 : Int → qH → Option (Int × qH)) (hk18 : ∀ (a3 : Int) (h : qH), qS L xs cL_law "BottlePostLaw" 4 120 4 18 [(0, qr 227), (1, qr 0), (2, qr 212), (3, qi a3)] [] h (k18 a3 h)) (a3 : Int) (b0 : Int) (b1 : Int) (h : qH) : qS L xs cL_law "BottlePostLaw" 4 120 4 1283 [(0, qr 227), (1, qr 0), (2, qr 212), (3, qi a3)] [qi b0, qi b1, qr 0] h (DL_law_b1283 L xs k18 a3 b0 b1 h) := by
  unfold DL_law_b1283
  refine S_callV_i (as := [qi b1, qi b0]) (st := []) (fun _ => rfl) (TX9_eddy b1 b0 h) yv_X9_eddy tw_1134 qC_9 qk_0 (by decide) rfl rfl (Nat.le_of_ble_eq_true rfl) dL_law_1283 rfl (fun r42 h43 e44 => ?_)
  refine S_aload_n 2 dL_law_1286 rfl rfl rfl ?_
  refine S_aload_n 0 dL_law_1287 rfl rfl rfl ?_
  refine S_iload_n 3 dL_law_1288 rfl rfl rfl ?_
  refine S_iconst (a := 1) dL_law_1289 rfl (by decide) ?_
  refine S_iadd dL_law_1290 rfl ?_
  refine S_ite (fun g45 => ?_) (fun _ => S_none)
  refine S_sld dL_law_1291 rfl g45.1 g45.2 ?_
  refine S_aload_n 0 dL_law_1292 rfl rfl rfl ?_
  refine S_iload_n 3 dL_law_1293 rfl rfl rfl ?_
  refine S_iconst (a := 2) dL_law_1294 rfl (by decide) ?_
  refine S_iadd dL_law_1295 rfl ?_
  refine S_ite (fun g46 => ?_) (fun _ => S_none)
  refine S_sld dL_law_1296 rfl g46.1 g46.2 ?_
  refine S_if_eq (tgt := 1304) dL_law_1297 (by decide) rfl (fun _ => ?_) (fun _ => ?_)
  · refine S_iconst (a := 0) dL_law_1304 rfl (by decide) ?_
    exact TL_law_b1305 hL k18 hk18 a3 0 ((xs (qw (a3 + 1)).toNat).toInt) r42 h43
  · refine S_iconst (a := 1) dL_law_1300 rfl (by decide) ?_
    refine S_goto (pc' := 1305) dL_law_1301 (by decide) ?_
    exact TL_law_b1305 hL k18 hk18 a3 1 ((xs (qw (a3 + 1)).toNat).toInt) r42 h43
def DL_law_l18 (L : Nat) (xs : Nat → Int32) : Nat → Int → qH → Option (Int × qH)
  | 0, _, _ => none
  | n + 1, a3, h => (if qw ((L : Int) - 6) < a3 then some (1, h) else (if 0 ≤ a3 ∧ a3 < (L : Int) then (if qand ((xs a3.toNat).toInt) 63 = 0 then (if 0 ≤ qw (a3 + 1) ∧ qw (a3 + 1) < (L : Int) then (if 0 ≤ qw (a3 + 2) ∧ qw (a3 + 2) < (L : Int) then (if 0 ≤ qw (a3 + 3) ∧ qw (a3 + 3) < (L : Int) then (if 0 ≤ qw (a3 + 4) ∧ qw (a3 + 4) < (L : Int) then (if 0 ≤ qw (a3 + 5) ∧ qw (a3 + 5) < (L : Int) then (qbd (DX9_feed ((xs (qw (a3 + 1)).toNat).toInt) ((xs (qw (a3 + 2)).toNat).toInt) ((xs (qw (a3 + 3)).toNat).toInt) ((xs (qw (a3 + 4)).toNat).toInt) ((xs (qw (a3 + 5)).toNat).toInt) h) fun r54 h55 => (if 0 ≤ qw (a3 + 1) ∧ qw (a3 + 1) < (L : Int) then (if 0 ≤ qw (a3 + 2) ∧ qw (a3 + 2) < (L : Int) then (if 0 ≤ qw (a3 + 3) ∧ qw (a3 + 3) < (L : Int) then (if 0 ≤ qw (a3 + 4) ∧ qw (a3 + 4) < (L : Int) then (if 0 ≤ qw (a3 + 5) ∧ qw (a3 + 5) < (L : Int) then (qbd (DX10_feed ((xs (qw (a3 + 1)).toNat).toInt) ((xs (qw (a3 + 2)).toNat).toInt) ((xs (qw (a3 + 3)).toNat).toInt) ((xs (qw (a3 + 4)).toNat).toInt) ((xs (qw (a3 + 5)).toNat).toInt) h55) fun r62 h63 => (if r54 = r62 then ((DL_law_l18 L xs n) (qw (a3 + 6)) h63) else some (0, h63))) else none) else none) else none) else none) else none)) else none) else none) else none) else none) else none) else (if qand ((xs a3.toNat).toInt) 63 = 1 then (if 0 ≤ qw (a3 + 1) ∧ qw (a3 + 1) < (L : Int) then (qbd (DX9_sea ((xs (qw (a3 + 1)).toNat).toInt) h) fun r67 h68 => (if 0 ≤ qw (a3 + 1) ∧ qw (a3 + 1) < (L : Int) then (qbd (DX10_sea ((xs (qw (a3 + 1)).toNat).toInt) h68) fun r71 h72 => (if r67 = r71 then ((DL_law_l18 L xs n) (qw (a3 + 6)) h72) else some (0, h72))) else none)) else none) else (if qand ((xs a3.toNat).toInt) 63 = 2 then (if 0 ≤ qw (a3 + 1) ∧ qw (a3 + 1) < (L : Int) then (qbd (DX9_fault ((xs (qw (a3 + 1)).toNat).toInt) h) fun r76 h77 => (if 0 ≤ qw (a3 + 1) ∧ qw (a3 + 1) < (L : Int) then (qbd (DX10_fault ((xs (qw (a3 + 1)).toNat).toInt) h77) fun r80 h81 => (if r76 = r80 then ((DL_law_l18 L xs n) (qw (a3 + 6)) h81) else some (0, h81))) else none)) else none) else (if qand ((xs a3.toNat).toInt) 63 = 3 then (if 0 ≤ qw (a3 + 1) ∧ qw (a3 + 1) < (L : Int) then (qbd (DX9_cell ((xs (qw (a3 + 1)).toNat).toInt) h) fun r85 h86 => (if 0 ≤ qw (a3 + 1) ∧ qw (a3 + 1) < (L : Int) then (qbd (DX10_cell ((xs (qw (a3 + 1)).toNat).toInt) h86) fun r89 h90 => (if r85 = r89 then ((DL_law_l18 L xs n) (qw (a3 + 6)) h90) else some (0, h90))) else none)) else none) else (if qand ((xs a3.toNat).toInt) 63 = 4 then (if 0 ≤ qw (a3 + 1) ∧ qw (a3 + 1) < (L : Int) then (if 0 ≤ qw (a3 + 2) ∧ qw (a3 + 2) < (L : Int) then (qbd (DX9_shore ((xs (qw (a3 + 1)).toNat).toInt) ((xs (qw (a3 + 2)).toNat).toInt) h) fun r95 h96 => (if 0 ≤ qw (a3 + 1) ∧ qw (a3 + 1) < (L : Int) then (if 0 ≤ qw (a3 + 2) ∧ qw (a3 + 2) < (L : Int) then (qbd (DX10_shore ((xs (qw (a3 + 1)).toNat).toInt) ((xs (qw (a3 + 2)).toNat).toInt) h96) fun r100 h101 => (if r95 = r100 then ((DL_law_l18 L xs n) (qw (a3 + 6)) h101) else some (0, h101))) else none) else none)) else none) else none) else (if qand ((xs a3.toNat).toInt) 63 = 5 then (if 0 ≤ qw (a3 + 1) ∧ qw (a3 + 1) < (L : Int) then (if 0 ≤ qw (a3 + 2) ∧ qw (a3 + 2) < (L : Int) then (qbd (DX9_current ((xs (qw (a3 + 1)).toNat).toInt) ((xs (qw (a3 + 2)).toNat).toInt) h) fun r106 h107 => (if 0 ≤ qw (a3 + 1) ∧ qw (a3 + 1) < (L : Int) then (if 0 ≤ qw (a3 + 2) ∧ qw (a3 + 2) < (L : Int) then (qbd (DX10_current ((xs (qw (a3 + 1)).toNat).toInt) ((xs (qw (a3 + 2)).toNat).toInt) h107) fun r111 h112 => (if r106 = r111 then ((DL_law_l18 L xs n) (qw (a3 + 6)) h112) else some (0, h112))) else none) else none)) else none) else none) else (if qand ((xs a3.toNat).toInt) 63 = 6 then (if 0 ≤ qw (a3 + 1) ∧ qw (a3 + 1) < (L : Int) then (if 0 ≤ qw (a3 + 2) ∧ qw (a3 + 2) < (L : Int) then (qbd (DX9_wind ((xs (qw (a3 + 1)).toNat).toInt) ((xs (qw (a3 + 2)).toNat).toInt) h) fun r117 h118 => (if 0 ≤ qw (a3 + 1) ∧ qw (a3 + 1) < (L : Int) then (if 0 ≤ qw (a3 + 2) ∧ qw (a3 + 2) < (L : Int) then (qbd (DX10_wind ((xs (qw (a3 + 1)).toNat).toInt) ((xs (qw (a3 + 2)).toNat).toInt) h118) fun r122 h123 => (if r117 = r122 then ((DL_law_l18 L xs n) (qw (a3 + 6)) h123) else some (0, h123))) else none) else none)) else none) else none) else (if qand ((xs a3.toNat).toInt) 63 = 7 then (if 0 ≤ qw (a3 + 1) ∧ qw (a3 + 1) < (L : Int) then (if 0 ≤ qw (a3 + 2) ∧ qw (a3 + 2) < (L : Int) then (qbd (DX9_bottle ((xs (qw (a3 + 1)).toNat).toInt) ((xs (qw (a3 + 2)).toNat).toInt) h) fun r128 h129 => (if 0 ≤ qw (a3 + 1) ∧ qw (a3 + 1) < (L : Int) then (if 0 ≤ qw (a3 + 2) ∧ qw (a3 + 2) < (L : Int) then (qbd (DX10_bottle ((xs (qw (a3 + 1)).toNat).toInt) ((xs (qw (a3 + 2)).toNat).toInt) h129) fun r133 h134 => (if r128 = r133 then ((DL_law_l18 L xs n) (qw (a3 + 6)) h134) else some (0, h134))) else none) else none)) else none) else none) else (if qand ((xs a3.toNat).toInt) 63 = 8 then (if 0 ≤ qw (a3 + 1) ∧ qw (a3 + 1) < (L : Int) then (if 0 ≤ qw (a3 + 2) ∧ qw (a3 + 2) < (L : Int) then (if 0 ≤ qw (a3 + 3) ∧ qw (a3 + 3) < (L : Int) then (if (xs (qw (a3 + 3)).toNat).toInt = 0 then (DL_law_b496 L xs (DL_law_l18 L xs n) a3 0 ((xs (qw (a3 + 2)).toNat).toInt) ((xs (qw (a3 + 1)).toNat).toInt) h) else (DL_law_b496 L xs (DL_law_l18 L xs n) a3 1 ((xs (qw (a3 + 2)).toNat).toInt) ((xs (qw (a3 + 1)).toNat).toInt) h)) else none) else none) else none) else (if qand ((xs a3.toNat).toInt) 63 = 9 then (if 0 ≤ qw (a3 + 1) ∧ qw (a3 + 1) < (L : Int) then (qbd (DX9_tides ((xs (qw (a3 + 1)).toNat).toInt) h) fun r142 h143 => (if 0 ≤ qw (a3 + 1) ∧ qw (a3 + 1) < (L : Int) then (qbd (DX10_tides ((xs (qw (a3 + 1)).toNat).toInt) h143) fun r146 h147 => (if r142 = r146 then ((DL_law_l18 L xs n) (qw (a3 + 6)) h147) else some (0, h147))) else none)) else none) else (if qand ((xs a3.toNat).toInt) 63 = 10 then (if 0 ≤ qw (a3 + 1) ∧ qw (a3 + 1) < (L : Int) then (if 0 ≤ qw (a3 + 2) ∧ qw (a3 + 2) < (L : Int) then (qbd (DX9_storm ((xs (qw (a3 + 1)).toNat).toInt) ((xs (qw (a3 + 2)).toNat).toInt) h) fun r152 h153 => (if 0 ≤ qw (a3 + 1) ∧ qw (a3 + 1) < (L : Int) then (if 0 ≤ qw (a3 + 2) ∧ qw (a3 + 2) < (L : Int) then (qbd (DX10_storm ((xs (qw (a3 + 1)).toNat).toInt) ((xs (qw (a3 + 2)).toNat).toInt) h153) fun r157 h158 => (if r152 = r157 then ((DL_law_l18 L xs n) (qw (a3 + 6)) h158) else some (0, h158))) else none) else none)) else none) else none) else (if qand ((xs a3.toNat).toInt) 63 = 11 then (if 0 ≤ qw (a3 + 1) ∧ qw (a3 + 1) < (L : Int) then (qbd (DX9_lift ((xs (qw (a3 + 1)).toNat).toInt) h) fun r162 h163 => (if 0 ≤ qw (a3 + 1) ∧ qw (a3 + 1) < (L : Int) then (qbd (DX10_lift ((xs (qw (a3 + 1)).toNat).toInt) h163) fun r166 h167 => (if r162 = r166 then ((DL_law_l18 L xs n) (qw (a3 + 6)) h167) else some (0, h167))) else none)) else none) else (if qand ((xs a3.toNat).toInt) 63 = 12 then (if 0 ≤ qw (a3 + 1) ∧ qw (a3 + 1) < (L : Int) then (qbd (DX9_undo ((xs (qw (a3 + 1)).toNat).toInt) h) fun r171 h172 => (if 0 ≤ qw (a3 + 1) ∧ qw (a3 + 1) < (L : Int) then (qbd (DX10_undo ((xs (qw (a3 + 1)).toNat).toInt) h172) fun r175 h176 => (if r171 = r175 then ((DL_law_l18 L xs n) (qw (a3 + 6)) h176) else some (0, h176))) else none)) else none) else (if qand ((xs a3.toNat).toInt) 63 = 13 then (if 0 ≤ qw (a3 + 1) ∧ qw (a3 + 1) < (L : Int) then (if 0 ≤ qw (a3 + 2) ∧ qw (a3 + 2) < (L : Int) then (qbd (DX9_judge ((xs (qw (a3 + 1)).toNat).toInt) ((xs (qw (a3 + 2)).toNat).toInt) h) fun r181 h182 => (if 0 ≤ qw (a3 + 1) ∧ qw (a3 + 1) < (L : Int) then (if 0 ≤ qw (a3 + 2) ∧ qw (a3 + 2) < (L : Int) then (qbd (DX10_judge ((xs (qw (a3 + 1)).toNat).toInt) ((xs (qw (a3 + 2)).toNat).toInt) h182) fun r186 h187 => (if r181 = r186 then ((DL_law_l18 L xs n) (qw (a3 + 6)) h187) else some (0, h187))) else none) else none)) else none) else none) else (if qand ((xs a3.toNat).toInt) 63 = 14 then (if 0 ≤ qw (a3 + 1) ∧ qw (a3 + 1) < (L : Int) then (qbd (DX9_perform ((xs (qw (a3 + 1)).toNat).toInt) h) fun r191 h192 => (if 0 ≤ qw (a3 + 1) ∧ qw (a3 + 1) < (L : Int) then (qbd (DX10_perform ((xs (qw (a3 + 1)).toNat).toInt) h192) fun r195 h196 => (if r191 = r195 then ((DL_law_l18 L xs n) (qw (a3 + 6)) h196) else some (0, h196))) else none)) else none) else (if qand ((xs a3.toNat).toInt) 63 = 15 then (if 0 ≤ qw (a3 + 1) ∧ qw (a3 + 1) < (L : Int) then (if 0 ≤ qw (a3 + 2) ∧ qw (a3 + 2) < (L : Int) then (qbd (DX9_season ((xs (qw (a3 + 1)).toNat).toInt) ((xs (qw (a3 + 2)).toNat).toInt) h) fun r201 h202 => (if 0 ≤ qw (a3 + 1) ∧ qw (a3 + 1) < (L : Int) then (if 0 ≤ qw (a3 + 2) ∧ qw (a3 + 2) < (L : Int) then (qbd (DX10_season ((xs (qw (a3 + 1)).toNat).toInt) ((xs (qw (a3 + 2)).toNat).toInt) h202) fun r206 h207 => (if r201 = r206 then ((DL_law_l18 L xs n) (qw (a3 + 6)) h207) else some (0, h207))) else none) else none)) else none) else none) else (if qand ((xs a3.toNat).toInt) 63 = 16 then (if 0 ≤ qw (a3 + 1) ∧ qw (a3 + 1) < (L : Int) then (if 0 ≤ qw (a3 + 2) ∧ qw (a3 + 2) < (L : Int) then (qbd (DX9_fate ((xs (qw (a3 + 1)).toNat).toInt) ((xs (qw (a3 + 2)).toNat).toInt) h) fun r212 h213 => (if 0 ≤ qw (a3 + 1) ∧ qw (a3 + 1) < (L : Int) then (if 0 ≤ qw (a3 + 2) ∧ qw (a3 + 2) < (L : Int) then (qbd (DX10_fate ((xs (qw (a3 + 1)).toNat).toInt) ((xs (qw (a3 + 2)).toNat).toInt) h213) fun r217 h218 => (if r212 = r217 then ((DL_law_l18 L xs n) (qw (a3 + 6)) h218) else some (0, h218))) else none) else none)) else none) else none) else (if qand ((xs a3.toNat).toInt) 63 = 17 then (if 0 ≤ qw (a3 + 1) ∧ qw (a3 + 1) < (L : Int) then (if 0 ≤ qw (a3 + 2) ∧ qw (a3 + 2) < (L : Int) then (qbd (DX9_whereIn ((xs (qw (a3 + 1)).toNat).toInt) ((xs (qw (a3 + 2)).toNat).toInt) h) fun r223 h224 => (if 0 ≤ qw (a3 + 1) ∧ qw (a3 + 1) < (L : Int) then (if 0 ≤ qw (a3 + 2) ∧ qw (a3 + 2) < (L : Int) then (qbd (DX10_whereIn ((xs (qw (a3 + 1)).toNat).toInt) ((xs (qw (a3 + 2)).toNat).toInt) h224) fun r228 h229 => (if r223 = r228 then ((DL_law_l18 L xs n) (qw (a3 + 6)) h229) else some (0, h229))) else none) else none)) else none) else none) else (if qand ((xs a3.toNat).toInt) 63 = 18 then (if 0 ≤ qw (a3 + 1) ∧ qw (a3 + 1) < (L : Int) then (if 0 ≤ qw (a3 + 2) ∧ qw (a3 + 2) < (L : Int) then (qbd (DX9_comesTo ((xs (qw (a3 + 1)).toNat).toInt) ((xs (qw (a3 + 2)).toNat).toInt) h) fun r234 h235 => (if 0 ≤ qw (a3 + 1) ∧ qw (a3 + 1) < (L : Int) then (if 0 ≤ qw (a3 + 2) ∧ qw (a3 + 2) < (L : Int) then (qbd (DX10_comesTo ((xs (qw (a3 + 1)).toNat).toInt) ((xs (qw (a3 + 2)).toNat).toInt) h235) fun r239 h240 => (if r234 = r239 then ((DL_law_l18 L xs n) (qw (a3 + 6)) h240) else some (0, h240))) else none) else none)) else none) else none) else (if qand ((xs a3.toNat).toInt) 63 = 19 then (if 0 ≤ qw (a3 + 1) ∧ qw (a3 + 1) < (L : Int) then (if 0 ≤ qw (a3 + 2) ∧ qw (a3 + 2) < (L : Int) then (if 0 ≤ qw (a3 + 3) ∧ qw (a3 + 3) < (L : Int) then (if (xs (qw (a3 + 3)).toNat).toInt = 0 then (DL_law_b845 L xs (DL_law_l18 L xs n) a3 0 ((xs (qw (a3 + 2)).toNat).toInt) ((xs (qw (a3 + 1)).toNat).toInt) h) else (DL_law_b845 L xs (DL_law_l18 L xs n) a3 1 ((xs (qw (a3 + 2)).toNat).toInt) ((xs (qw (a3 + 1)).toNat).toInt) h)) else none) else none) else none) else (if qand ((xs a3.toNat).toInt) 63 = 20 then (if 0 ≤ qw (a3 + 1) ∧ qw (a3 + 1) < (L : Int) then (if 0 ≤ qw (a3 + 2) ∧ qw (a3 + 2) < (L : Int) then (if 0 ≤ qw (a3 + 3) ∧ qw (a3 + 3) < (L : Int) then (if (xs (qw (a3 + 3)).toNat).toInt = 0 then (DL_law_b914 L xs (DL_law_l18 L xs n) a3 0 ((xs (qw (a3 + 2)).toNat).toInt) ((xs (qw (a3 + 1)).toNat).toInt) h) else (DL_law_b914 L xs (DL_law_l18 L xs n) a3 1 ((xs (qw (a3 + 2)).toNat).toInt) ((xs (qw (a3 + 1)).toNat).toInt) h)) else none) else none) else none) else (if qand ((xs a3.toNat).toInt) 63 = 21 then (if 0 ≤ qw (a3 + 1) ∧ qw (a3 + 1) < (L : Int) then (if 0 ≤ qw (a3 + 2) ∧ qw (a3 + 2) < (L : Int) then (if 0 ≤ qw (a3 + 3) ∧ qw (a3 + 3) < (L : Int) then (qbd (DX9_best ((xs (qw (a3 + 1)).toNat).toInt) ((xs (qw (a3 + 2)).toNat).toInt) ((xs (qw (a3 + 3)).toNat).toInt) h) fun r254 h255 => (if 0 ≤ qw (a3 + 1) ∧ qw (a3 + 1) < (L : Int) then (if 0 ≤ qw (a3 + 2) ∧ qw (a3 + 2) < (L : Int) then (if 0 ≤ qw (a3 + 3) ∧ qw (a3 + 3) < (L : Int) then (qbd (DX10_best ((xs (qw (a3 + 1)).toNat).toInt) ((xs (qw (a3 + 2)).toNat).toInt) ((xs (qw (a3 + 3)).toNat).toInt) h255) fun r260 h261 => (if r254 = r260 then ((DL_law_l18 L xs n) (qw (a3 + 6)) h261) else some (0, h261))) else none) else none) else none)) else none) else none) else none) else (if qand ((xs a3.toNat).toInt) 63 = 22 then (if 0 ≤ qw (a3 + 1) ∧ qw (a3 + 1) < (L : Int) then (qbd (DX9_reachers ((xs (qw (a3 + 1)).toNat).toInt) h) fun r265 h266 => (if 0 ≤ qw (a3 + 1) ∧ qw (a3 + 1) < (L : Int) then (qbd (DX10_reachers ((xs (qw (a3 + 1)).toNat).toInt) h266) fun r269 h270 => (if r265 = r269 then ((DL_law_l18 L xs n) (qw (a3 + 6)) h270) else some (0, h270))) else none)) else none) else (if qand ((xs a3.toNat).toInt) 63 = 23 then (if 0 ≤ qw (a3 + 1) ∧ qw (a3 + 1) < (L : Int) then (if 0 ≤ qw (a3 + 2) ∧ qw (a3 + 2) < (L : Int) then (if 0 ≤ qw (a3 + 3) ∧ qw (a3 + 3) < (L : Int) then (qbd (DX9_relay ((xs (qw (a3 + 1)).toNat).toInt) ((xs (qw (a3 + 2)).toNat).toInt) ((xs (qw (a3 + 3)).toNat).toInt) h) fun r276 h277 => (if 0 ≤ qw (a3 + 1) ∧ qw (a3 + 1) < (L : Int) then (if 0 ≤ qw (a3 + 2) ∧ qw (a3 + 2) < (L : Int) then (if 0 ≤ qw (a3 + 3) ∧ qw (a3 + 3) < (L : Int) then (qbd (DX10_relay ((xs (qw (a3 + 1)).toNat).toInt) ((xs (qw (a3 + 2)).toNat).toInt) ((xs (qw (a3 + 3)).toNat).toInt) h277) fun r282 h283 => (if r276 = r282 then ((DL_law_l18 L xs n) (qw (a3 + 6)) h283) else some (0, h283))) else none) else none) else none)) else none) else none) else none) else (if qand ((xs a3.toNat).toInt) 63 = 24 then (if 0 ≤ qw (a3 + 1) ∧ qw (a3 + 1) < (L : Int) then (qbd (DX9_keepers ((xs (qw (a3 + 1)).toNat).toInt) h) fun r287 h288 => (if 0 ≤ qw (a3 + 1) ∧ qw (a3 + 1) < (L : Int) then (qbd (DX10_keepers ((xs (qw (a3 + 1)).toNat).toInt) h288) fun r291 h292 => (if r287 = r291 then ((DL_law_l18 L xs n) (qw (a3 + 6)) h292) else some (0, h292))) else none)) else none) else (if qand ((xs a3.toNat).toInt) 63 = 25 then (if 0 ≤ qw (a3 + 1) ∧ qw (a3 + 1) < (L : Int) then (if 0 ≤ qw (a3 + 2) ∧ qw (a3 + 2) < (L : Int) then (if 0 ≤ qw (a3 + 3) ∧ qw (a3 + 3) < (L : Int) then (qbd (DX9_without ((xs (qw (a3 + 1)).toNat).toInt) ((xs (qw (a3 + 2)).toNat).toInt) ((xs (qw (a3 + 3)).toNat).toInt) h) fun r298 h299 => (if 0 ≤ qw (a3 + 1) ∧ qw (a3 + 1) < (L : Int) then (if 0 ≤ qw (a3 + 2) ∧ qw (a3 + 2) < (L : Int) then (if 0 ≤ qw (a3 + 3) ∧ qw (a3 + 3) < (L : Int) then (qbd (DX10_without ((xs (qw (a3 + 1)).toNat).toInt) ((xs (qw (a3 + 2)).toNat).toInt) ((xs (qw (a3 + 3)).toNat).toInt) h299) fun r304 h305 => (if r298 = r304 then ((DL_law_l18 L xs n) (qw (a3 + 6)) h305) else some (0, h305))) else none) else none) else none)) else none) else none) else none) else (if qand ((xs a3.toNat).toInt) 63 = 26 then (if 0 ≤ qw (a3 + 1) ∧ qw (a3 + 1) < (L : Int) then (if 0 ≤ qw (a3 + 2) ∧ qw (a3 + 2) < (L : Int) then (qbd (DX9_catches ((xs (qw (a3 + 1)).toNat).toInt) ((xs (qw (a3 + 2)).toNat).toInt) h) fun r310 h311 => (if 0 ≤ qw (a3 + 1) ∧ qw (a3 + 1) < (L : Int) then (if 0 ≤ qw (a3 + 2) ∧ qw (a3 + 2) < (L : Int) then (qbd (DX10_catches ((xs (qw (a3 + 1)).toNat).toInt) ((xs (qw (a3 + 2)).toNat).toInt) h311) fun r315 h316 => (if r310 = r315 then ((DL_law_l18 L xs n) (qw (a3 + 6)) h316) else some (0, h316))) else none) else none)) else none) else none) else (if qand ((xs a3.toNat).toInt) 63 = 27 then (if 0 ≤ qw (a3 + 1) ∧ qw (a3 + 1) < (L : Int) then (if 0 ≤ qw (a3 + 2) ∧ qw (a3 + 2) < (L : Int) then (qbd (DX9_net ((xs (qw (a3 + 1)).toNat).toInt) ((xs (qw (a3 + 2)).toNat).toInt) h) fun r321 h322 => (if 0 ≤ qw (a3 + 1) ∧ qw (a3 + 1) < (L : Int) then (if 0 ≤ qw (a3 + 2) ∧ qw (a3 + 2) < (L : Int) then (qbd (DX10_net ((xs (qw (a3 + 1)).toNat).toInt) ((xs (qw (a3 + 2)).toNat).toInt) h322) fun r326 h327 => (if r321 = r326 then ((DL_law_l18 L xs n) (qw (a3 + 6)) h327) else some (0, h327))) else none) else none)) else none) else none) else (if qand ((xs a3.toNat).toInt) 63 = 28 then (if 0 ≤ qw (a3 + 1) ∧ qw (a3 + 1) < (L : Int) then (qbd (DX9_calm ((xs (qw (a3 + 1)).toNat).toInt) h) fun r331 h332 => (if 0 ≤ qw (a3 + 1) ∧ qw (a3 + 1) < (L : Int) then (qbd (DX10_calm ((xs (qw (a3 + 1)).toNat).toInt) h332) fun r335 h336 => (if qcmp r331 r335 = 0 then ((DL_law_l18 L xs n) (qw (a3 + 6)) h336) else some (0, h336))) else none)) else none) else (if qand ((xs a3.toNat).toInt) 63 = 29 then (if 0 ≤ qw (a3 + 1) ∧ qw (a3 + 1) < (L : Int) then (if (xs (qw (a3 + 1)).toNat).toInt = 0 then (DL_law_b1238 L xs (DL_law_l18 L xs n) a3 0 h) else (DL_law_b1238 L xs (DL_law_l18 L xs n) a3 1 h)) else none) else (if qand ((xs a3.toNat).toInt) 63 = 30 then (if 0 ≤ qw (a3 + 1) ∧ qw (a3 + 1) < (L : Int) then (if 0 ≤ qw (a3 + 2) ∧ qw (a3 + 2) < (L : Int) then (if (xs (qw (a3 + 2)).toNat).toInt = 0 then (DL_law_b1283 L xs (DL_law_l18 L xs n) a3 0 ((xs (qw (a3 + 1)).toNat).toInt) h) else (DL_law_b1283 L xs (DL_law_l18 L xs n) a3 1 ((xs (qw (a3 + 1)).toNat).toInt) h)) else none) else none) else (if qand ((xs a3.toNat).toInt) 63 = 31 then (if 0 ≤ qw (a3 + 1) ∧ qw (a3 + 1) < (L : Int) then (qbd (DX9_seen ((xs (qw (a3 + 1)).toNat).toInt) h) fun r345 h346 => (if 0 ≤ qw (a3 + 1) ∧ qw (a3 + 1) < (L : Int) then (qbd (DX10_seen ((xs (qw (a3 + 1)).toNat).toInt) h346) fun r349 h350 => (if r345 = r349 then ((DL_law_l18 L xs n) (qw (a3 + 6)) h350) else some (0, h350))) else none)) else none) else (if qand ((xs a3.toNat).toInt) 63 = 32 then (if 0 ≤ qw (a3 + 1) ∧ qw (a3 + 1) < (L : Int) then (if 0 ≤ qw (a3 + 2) ∧ qw (a3 + 2) < (L : Int) then (if 0 ≤ qw (a3 + 3) ∧ qw (a3 + 3) < (L : Int) then (qbd (DX9_thrower ((xs (qw (a3 + 1)).toNat).toInt) ((xs (qw (a3 + 2)).toNat).toInt) ((xs (qw (a3 + 3)).toNat).toInt) h) fun r356 h357 => (if 0 ≤ qw (a3 + 1) ∧ qw (a3 + 1) < (L : Int) then (if 0 ≤ qw (a3 + 2) ∧ qw (a3 + 2) < (L : Int) then (if 0 ≤ qw (a3 + 3) ∧ qw (a3 + 3) < (L : Int) then (qbd (DX10_thrower ((xs (qw (a3 + 1)).toNat).toInt) ((xs (qw (a3 + 2)).toNat).toInt) ((xs (qw (a3 + 3)).toNat).toInt) h357) fun r362 h363 => (if r356 = r362 then ((DL_law_l18 L xs n) (qw (a3 + 6)) h363) else some (0, h363))) else none) else none) else none)) else none) else none) else none) else (if qand ((xs a3.toNat).toInt) 63 = 33 then (if 0 ≤ qw (a3 + 1) ∧ qw (a3 + 1) < (L : Int) then (qbd (DX9_suspects ((xs (qw (a3 + 1)).toNat).toInt) h) fun r367 h368 => (if 0 ≤ qw (a3 + 1) ∧ qw (a3 + 1) < (L : Int) then (qbd (DX10_suspects ((xs (qw (a3 + 1)).toNat).toInt) h368) fun r371 h372 => (if r367 = r371 then ((DL_law_l18 L xs n) (qw (a3 + 6)) h372) else some (0, h372))) else none)) else none) else (if qand ((xs a3.toNat).toInt) 63 = 34 then (if 0 ≤ qw (a3 + 1) ∧ qw (a3 + 1) < (L : Int) then (if 0 ≤ qw (a3 + 2) ∧ qw (a3 + 2) < (L : Int) then (if 0 ≤ qw (a3 + 3) ∧ qw (a3 + 3) < (L : Int) then (qbd (DX9_numbers ((xs (qw (a3 + 1)).toNat).toInt) ((xs (qw (a3 + 2)).toNat).toInt) ((xs (qw (a3 + 3)).toNat).toInt) h) fun r378 h379 => (if 0 ≤ qw (a3 + 1) ∧ qw (a3 + 1) < (L : Int) then (if 0 ≤ qw (a3 + 2) ∧ qw (a3 + 2) < (L : Int) then (if 0 ≤ qw (a3 + 3) ∧ qw (a3 + 3) < (L : Int) then (qbd (DX10_numbers ((xs (qw (a3 + 1)).toNat).toInt) ((xs (qw (a3 + 2)).toNat).toInt) ((xs (qw (a3 + 3)).toNat).toInt) h379) fun r384 h385 => (if r378 = r384 then ((DL_law_l18 L xs n) (qw (a3 + 6)) h385) else some (0, h385))) else none) else none) else none)) else none) else none) else none) else (if qand ((xs a3.toNat).toInt) 63 = 35 then (if 0 ≤ qw (a3 + 1) ∧ qw (a3 + 1) < (L : Int) then (if 0 ≤ qw (a3 + 2) ∧ qw (a3 + 2) < (L : Int) then (if 0 ≤ qw (a3 + 3) ∧ qw (a3 + 3) < (L : Int) then (if 0 ≤ qw (a3 + 4) ∧ qw (a3 + 4) < (L : Int) then (qbd (DX9_write ((xs (qw (a3 + 1)).toNat).toInt) ((xs (qw (a3 + 2)).toNat).toInt) (qorl (qshll ((xs (qw (a3 + 3)).toNat).toInt) 32) (qandl ((xs (qw (a3 + 4)).toNat).toInt) 4294967295)) h) fun r392 h393 => (if 0 ≤ qw (a3 + 1) ∧ qw (a3 + 1) < (L : Int) then (if 0 ≤ qw (a3 + 2) ∧ qw (a3 + 2) < (L : Int) then (if 0 ≤ qw (a3 + 3) ∧ qw (a3 + 3) < (L : Int) then (if 0 ≤ qw (a3 + 4) ∧ qw (a3 + 4) < (L : Int) then (qbd (DX10_write ((xs (qw (a3 + 1)).toNat).toInt) ((xs (qw (a3 + 2)).toNat).toInt) (qorl (qshll ((xs (qw (a3 + 3)).toNat).toInt) 32) (qandl ((xs (qw (a3 + 4)).toNat).toInt) 4294967295)) h393) fun r399 h400 => (if qcmp r392 r399 = 0 then ((DL_law_l18 L xs n) (qw (a3 + 6)) h400) else some (0, h400))) else none) else none) else none) else none)) else none) else none) else none) else none) else (if qand ((xs a3.toNat).toInt) 63 = 36 then (if 0 ≤ qw (a3 + 1) ∧ qw (a3 + 1) < (L : Int) then (if 0 ≤ qw (a3 + 2) ∧ qw (a3 + 2) < (L : Int) then (qbd (DX9_lists ((xs (qw (a3 + 1)).toNat).toInt) ((xs (qw (a3 + 2)).toNat).toInt) h) fun r405 h406 => (if 0 ≤ qw (a3 + 1) ∧ qw (a3 + 1) < (L : Int) then (if 0 ≤ qw (a3 + 2) ∧ qw (a3 + 2) < (L : Int) then (qbd (DX10_lists ((xs (qw (a3 + 1)).toNat).toInt) ((xs (qw (a3 + 2)).toNat).toInt) h406) fun r410 h411 => (if r405 = r410 then ((DL_law_l18 L xs n) (qw (a3 + 6)) h411) else some (0, h411))) else none) else none)) else none) else none) else (if qand ((xs a3.toNat).toInt) 63 = 37 then (if 0 ≤ qw (a3 + 1) ∧ qw (a3 + 1) < (L : Int) then (qbd (DX9_image ((xs (qw (a3 + 1)).toNat).toInt) h) fun r415 h416 => (if 0 ≤ qw (a3 + 1) ∧ qw (a3 + 1) < (L : Int) then (qbd (DX10_image ((xs (qw (a3 + 1)).toNat).toInt) h416) fun r419 h420 => (if r415 = r419 then ((DL_law_l18 L xs n) (qw (a3 + 6)) h420) else some (0, h420))) else none)) else none) else (if qand ((xs a3.toNat).toInt) 63 = 38 then (if 0 ≤ qw (a3 + 1) ∧ qw (a3 + 1) < (L : Int) then (qbd (DX9_restore ((xs (qw (a3 + 1)).toNat).toInt) h) fun r424 h425 => (if 0 ≤ qw (a3 + 1) ∧ qw (a3 + 1) < (L : Int) then (qbd (DX10_restore ((xs (qw (a3 + 1)).toNat).toInt) h425) fun r428 h429 => (if r424 = r428 then ((DL_law_l18 L xs n) (qw (a3 + 6)) h429) else some (0, h429))) else none)) else none) else (if qand ((xs a3.toNat).toInt) 63 = 39 then (if 0 ≤ qw (a3 + 1) ∧ qw (a3 + 1) < (L : Int) then (qbd (DX9_count ((xs (qw (a3 + 1)).toNat).toInt) h) fun r433 h434 => (if 0 ≤ qw (a3 + 1) ∧ qw (a3 + 1) < (L : Int) then (qbd (DX10_count ((xs (qw (a3 + 1)).toNat).toInt) h434) fun r437 h438 => (if r433 = r437 then ((DL_law_l18 L xs n) (qw (a3 + 6)) h438) else some (0, h438))) else none)) else none) else ((DL_law_l18 L xs n) (qw (a3 + 6)) h))))))))))))))))))))))))))))))))))))))))) else none))
set_option maxRecDepth 100000 in
set_option maxHeartbeats 4000000 in
theorem TL_law_l18 {L : Nat} {xs : Nat → Int32} (hL : L < 2 ^ 31) : ∀ (n : Nat) (a3 : Int) (h : qH), qS L xs cL_law "BottlePostLaw" 4 120 4 18 [(0, qr 227), (1, qr 0), (2, qr 212), (3, qi a3)] [] h (DL_law_l18 L xs n a3 h) := by
  intro n
  induction n with
  | zero =>
    intro a3 h
    exact S_none
  | succ n ih =>
    intro a3 h
    rw [DL_law_l18.eq_2]
    refine S_iload_n 3 dL_law_18 rfl rfl rfl ?_
    refine S_aload_n 0 dL_law_19 rfl rfl rfl ?_
    refine S_slen hL dL_law_20 rfl ?_
    refine S_bipush (a := 6) dL_law_21 rfl (by decide) (by decide) ?_
    refine S_isub dL_law_23 rfl ?_
    refine S_icmp_gt (tgt := 1627) dL_law_24 (by decide) rfl (fun _ => ?_) (fun _ => ?_)
    · refine S_iconst (a := 1) dL_law_1627 rfl (by decide) ?_
      exact S_zretl (by decide) dL_law_1628
    · refine S_aload_n 0 dL_law_27 rfl rfl rfl ?_
      refine S_iload_n 3 dL_law_28 rfl rfl rfl ?_
      refine S_ite (fun g47 => ?_) (fun _ => S_none)
      refine S_sld dL_law_29 rfl g47.1 g47.2 ?_
      refine S_bipush (a := 63) dL_law_30 rfl (by decide) (by decide) ?_
      refine S_iand dL_law_32 rfl ?_
      refine S_ite (fun g48 => ?_) (fun g48 => ?_)
      · refine S_tabIn (a0 := 0) (off := 175) (pc' := 208) dL_law_33 g48 (by decide) (by decide) rfl (by decide) ?_
        refine S_aload_n 1 dL_law_208 rfl rfl rfl ?_
        refine S_aload_n 0 dL_law_209 rfl rfl rfl ?_
        refine S_iload_n 3 dL_law_210 rfl rfl rfl ?_
        refine S_iconst (a := 1) dL_law_211 rfl (by decide) ?_
        refine S_iadd dL_law_212 rfl ?_
        refine S_ite (fun g49 => ?_) (fun _ => S_none)
        refine S_sld dL_law_213 rfl g49.1 g49.2 ?_
        refine S_aload_n 0 dL_law_214 rfl rfl rfl ?_
        refine S_iload_n 3 dL_law_215 rfl rfl rfl ?_
        refine S_iconst (a := 2) dL_law_216 rfl (by decide) ?_
        refine S_iadd dL_law_217 rfl ?_
        refine S_ite (fun g50 => ?_) (fun _ => S_none)
        refine S_sld dL_law_218 rfl g50.1 g50.2 ?_
        refine S_aload_n 0 dL_law_219 rfl rfl rfl ?_
        refine S_iload_n 3 dL_law_220 rfl rfl rfl ?_
        refine S_iconst (a := 3) dL_law_221 rfl (by decide) ?_
        refine S_iadd dL_law_222 rfl ?_
        refine S_ite (fun g51 => ?_) (fun _ => S_none)
        refine S_sld dL_law_223 rfl g51.1 g51.2 ?_
        refine S_aload_n 0 dL_law_224 rfl rfl rfl ?_
        refine S_iload_n 3 dL_law_225 rfl rfl rfl ?_
        refine S_iconst (a := 4) dL_law_226 rfl (by decide) ?_
        refine S_iadd dL_law_227 rfl ?_
        refine S_ite (fun g52 => ?_) (fun _ => S_none)
        refine S_sld dL_law_228 rfl g52.1 g52.2 ?_
        refine S_aload_n 0 dL_law_229 rfl rfl rfl ?_
        refine S_iload_n 3 dL_law_230 rfl rfl rfl ?_
        refine S_iconst (a := 5) dL_law_231 rfl (by decide) ?_
        refine S_iadd dL_law_232 rfl ?_
        refine S_ite (fun g53 => ?_) (fun _ => S_none)
        refine S_sld dL_law_233 rfl g53.1 g53.2 ?_
        refine S_callV_i (as := [qi ((xs (qw (a3 + 1)).toNat).toInt), qi ((xs (qw (a3 + 2)).toNat).toInt), qi ((xs (qw (a3 + 3)).toNat).toInt), qi ((xs (qw (a3 + 4)).toNat).toInt), qi ((xs (qw (a3 + 5)).toNat).toInt)]) (st := []) (fun _ => rfl) (TX9_feed ((xs (qw (a3 + 1)).toNat).toInt) ((xs (qw (a3 + 2)).toNat).toInt) ((xs (qw (a3 + 3)).toNat).toInt) ((xs (qw (a3 + 4)).toNat).toInt) ((xs (qw (a3 + 5)).toNat).toInt) h) yv_X9_feed tw_430 qC_9 qk_0 (by decide) rfl rfl (Nat.le_of_ble_eq_true rfl) dL_law_234 rfl (fun r54 h55 e56 => ?_)
        refine S_aload_n 2 dL_law_237 rfl rfl rfl ?_
        refine S_aload_n 0 dL_law_238 rfl rfl rfl ?_
        refine S_iload_n 3 dL_law_239 rfl rfl rfl ?_
        refine S_iconst (a := 1) dL_law_240 rfl (by decide) ?_
        refine S_iadd dL_law_241 rfl ?_
        refine S_ite (fun g57 => ?_) (fun _ => S_none)
        refine S_sld dL_law_242 rfl g57.1 g57.2 ?_
        refine S_aload_n 0 dL_law_243 rfl rfl rfl ?_
        refine S_iload_n 3 dL_law_244 rfl rfl rfl ?_
        refine S_iconst (a := 2) dL_law_245 rfl (by decide) ?_
        refine S_iadd dL_law_246 rfl ?_
        refine S_ite (fun g58 => ?_) (fun _ => S_none)
        refine S_sld dL_law_247 rfl g58.1 g58.2 ?_
        refine S_aload_n 0 dL_law_248 rfl rfl rfl ?_
        refine S_iload_n 3 dL_law_249 rfl rfl rfl ?_
        refine S_iconst (a := 3) dL_law_250 rfl (by decide) ?_
        refine S_iadd dL_law_251 rfl ?_
        refine S_ite (fun g59 => ?_) (fun _ => S_none)
        refine S_sld dL_law_252 rfl g59.1 g59.2 ?_
        refine S_aload_n 0 dL_law_253 rfl rfl rfl ?_
        refine S_iload_n 3 dL_law_254 rfl rfl rfl ?_
        refine S_iconst (a := 4) dL_law_255 rfl (by decide) ?_
        refine S_iadd dL_law_256 rfl ?_
        refine S_ite (fun g60 => ?_) (fun _ => S_none)
        refine S_sld dL_law_257 rfl g60.1 g60.2 ?_
        refine S_aload_n 0 dL_law_258 rfl rfl rfl ?_
        refine S_iload_n 3 dL_law_259 rfl rfl rfl ?_
        refine S_iconst (a := 5) dL_law_260 rfl (by decide) ?_
        refine S_iadd dL_law_261 rfl ?_
        refine S_ite (fun g61 => ?_) (fun _ => S_none)
        refine S_sld dL_law_262 rfl g61.1 g61.2 ?_
        refine S_callV_i (as := [qi ((xs (qw (a3 + 1)).toNat).toInt), qi ((xs (qw (a3 + 2)).toNat).toInt), qi ((xs (qw (a3 + 3)).toNat).toInt), qi ((xs (qw (a3 + 4)).toNat).toInt), qi ((xs (qw (a3 + 5)).toNat).toInt)]) (st := [qi r54]) (fun _ => rfl) (TX10_feed ((xs (qw (a3 + 1)).toNat).toInt) ((xs (qw (a3 + 2)).toNat).toInt) ((xs (qw (a3 + 3)).toNat).toInt) ((xs (qw (a3 + 4)).toNat).toInt) ((xs (qw (a3 + 5)).toNat).toInt) h55) yv_X10_feed tw_1344 qC_10 qk_212 (by decide) rfl rfl (Nat.le_of_ble_eq_true rfl) dL_law_263 rfl (fun r62 h63 e64 => ?_)
        refine S_icmp_eq (tgt := 1621) dL_law_266 (by decide) rfl (fun _ => ?_) (fun _ => ?_)
        · refine S_iinc (lv' := [(3, qi (qw (a3 + 6))), (0, qr 227), (1, qr 0), (2, qr 212)]) 3 dL_law_1621 rfl (by decide) rfl rfl ?_
          refine S_goto (pc' := 18) dL_law_1624 (by decide) ?_
          refine S_sub [1, 2, 3, 0] rfl ?_
          exact ih (qw (a3 + 6)) h63
        · refine S_iconst (a := 0) dL_law_269 rfl (by decide) ?_
          exact S_zretl (by decide) dL_law_270
      · refine S_ite (fun g65 => ?_) (fun g65 => ?_)
        · refine S_tabIn (a0 := 1) (off := 238) (pc' := 271) dL_law_33 g65 (by decide) (by decide) rfl (by decide) ?_
          refine S_aload_n 1 dL_law_271 rfl rfl rfl ?_
          refine S_aload_n 0 dL_law_272 rfl rfl rfl ?_
          refine S_iload_n 3 dL_law_273 rfl rfl rfl ?_
          refine S_iconst (a := 1) dL_law_274 rfl (by decide) ?_
          refine S_iadd dL_law_275 rfl ?_
          refine S_ite (fun g66 => ?_) (fun _ => S_none)
          refine S_sld dL_law_276 rfl g66.1 g66.2 ?_
          refine S_callV_i (as := [qi ((xs (qw (a3 + 1)).toNat).toInt)]) (st := []) (fun _ => rfl) (TX9_sea ((xs (qw (a3 + 1)).toNat).toInt) h) yv_X9_sea tw_438 qC_9 qk_0 (by decide) rfl rfl (Nat.le_of_ble_eq_true rfl) dL_law_277 rfl (fun r67 h68 e69 => ?_)
          refine S_aload_n 2 dL_law_280 rfl rfl rfl ?_
          refine S_aload_n 0 dL_law_281 rfl rfl rfl ?_
          refine S_iload_n 3 dL_law_282 rfl rfl rfl ?_
          refine S_iconst (a := 1) dL_law_283 rfl (by decide) ?_
          refine S_iadd dL_law_284 rfl ?_
          refine S_ite (fun g70 => ?_) (fun _ => S_none)
          refine S_sld dL_law_285 rfl g70.1 g70.2 ?_
          refine S_callV_i (as := [qi ((xs (qw (a3 + 1)).toNat).toInt)]) (st := [qi r67]) (fun _ => rfl) (TX10_sea ((xs (qw (a3 + 1)).toNat).toInt) h68) yv_X10_sea tw_1348 qC_10 qk_212 (by decide) rfl rfl (Nat.le_of_ble_eq_true rfl) dL_law_286 rfl (fun r71 h72 e73 => ?_)
          refine S_icmp_eq (tgt := 1621) dL_law_289 (by decide) rfl (fun _ => ?_) (fun _ => ?_)
          · refine S_iinc (lv' := [(3, qi (qw (a3 + 6))), (0, qr 227), (1, qr 0), (2, qr 212)]) 3 dL_law_1621 rfl (by decide) rfl rfl ?_
            refine S_goto (pc' := 18) dL_law_1624 (by decide) ?_
            refine S_sub [1, 2, 3, 0] rfl ?_
            exact ih (qw (a3 + 6)) h72
          · refine S_iconst (a := 0) dL_law_292 rfl (by decide) ?_
            exact S_zretl (by decide) dL_law_293
        · refine S_ite (fun g74 => ?_) (fun g74 => ?_)
          · refine S_tabIn (a0 := 2) (off := 261) (pc' := 294) dL_law_33 g74 (by decide) (by decide) rfl (by decide) ?_
            refine S_aload_n 1 dL_law_294 rfl rfl rfl ?_
            refine S_aload_n 0 dL_law_295 rfl rfl rfl ?_
            refine S_iload_n 3 dL_law_296 rfl rfl rfl ?_
            refine S_iconst (a := 1) dL_law_297 rfl (by decide) ?_
            refine S_iadd dL_law_298 rfl ?_
            refine S_ite (fun g75 => ?_) (fun _ => S_none)
            refine S_sld dL_law_299 rfl g75.1 g75.2 ?_
            refine S_callV_i (as := [qi ((xs (qw (a3 + 1)).toNat).toInt)]) (st := []) (fun _ => rfl) (TX9_fault ((xs (qw (a3 + 1)).toNat).toInt) h) yv_X9_fault tw_748 qC_9 qk_0 (by decide) rfl rfl (Nat.le_of_ble_eq_true rfl) dL_law_300 rfl (fun r76 h77 e78 => ?_)
            refine S_aload_n 2 dL_law_303 rfl rfl rfl ?_
            refine S_aload_n 0 dL_law_304 rfl rfl rfl ?_
            refine S_iload_n 3 dL_law_305 rfl rfl rfl ?_
            refine S_iconst (a := 1) dL_law_306 rfl (by decide) ?_
            refine S_iadd dL_law_307 rfl ?_
            refine S_ite (fun g79 => ?_) (fun _ => S_none)
            refine S_sld dL_law_308 rfl g79.1 g79.2 ?_
            refine S_callV_i (as := [qi ((xs (qw (a3 + 1)).toNat).toInt)]) (st := [qi r76]) (fun _ => rfl) (TX10_fault ((xs (qw (a3 + 1)).toNat).toInt) h77) yv_X10_fault tw_1461 qC_10 qk_212 (by decide) rfl rfl (Nat.le_of_ble_eq_true rfl) dL_law_309 rfl (fun r80 h81 e82 => ?_)
            refine S_icmp_eq (tgt := 1621) dL_law_312 (by decide) rfl (fun _ => ?_) (fun _ => ?_)
            · refine S_iinc (lv' := [(3, qi (qw (a3 + 6))), (0, qr 227), (1, qr 0), (2, qr 212)]) 3 dL_law_1621 rfl (by decide) rfl rfl ?_
              refine S_goto (pc' := 18) dL_law_1624 (by decide) ?_
              refine S_sub [1, 2, 3, 0] rfl ?_
              exact ih (qw (a3 + 6)) h81
            · refine S_iconst (a := 0) dL_law_315 rfl (by decide) ?_
              exact S_zretl (by decide) dL_law_316
          · refine S_ite (fun g83 => ?_) (fun g83 => ?_)
            · refine S_tabIn (a0 := 3) (off := 284) (pc' := 317) dL_law_33 g83 (by decide) (by decide) rfl (by decide) ?_
              refine S_aload_n 1 dL_law_317 rfl rfl rfl ?_
              refine S_aload_n 0 dL_law_318 rfl rfl rfl ?_
              refine S_iload_n 3 dL_law_319 rfl rfl rfl ?_
              refine S_iconst (a := 1) dL_law_320 rfl (by decide) ?_
              refine S_iadd dL_law_321 rfl ?_
              refine S_ite (fun g84 => ?_) (fun _ => S_none)
              refine S_sld dL_law_322 rfl g84.1 g84.2 ?_
              refine S_callV_i (as := [qi ((xs (qw (a3 + 1)).toNat).toInt)]) (st := []) (fun _ => rfl) (TX9_cell ((xs (qw (a3 + 1)).toNat).toInt) h) yv_X9_cell tw_752 qC_9 qk_0 (by decide) rfl rfl (Nat.le_of_ble_eq_true rfl) dL_law_323 rfl (fun r85 h86 e87 => ?_)
              refine S_aload_n 2 dL_law_326 rfl rfl rfl ?_
              refine S_aload_n 0 dL_law_327 rfl rfl rfl ?_
              refine S_iload_n 3 dL_law_328 rfl rfl rfl ?_
              refine S_iconst (a := 1) dL_law_329 rfl (by decide) ?_
              refine S_iadd dL_law_330 rfl ?_
              refine S_ite (fun g88 => ?_) (fun _ => S_none)
              refine S_sld dL_law_331 rfl g88.1 g88.2 ?_
              refine S_callV_i (as := [qi ((xs (qw (a3 + 1)).toNat).toInt)]) (st := [qi r85]) (fun _ => rfl) (TX10_cell ((xs (qw (a3 + 1)).toNat).toInt) h86) yv_X10_cell tw_1465 qC_10 qk_212 (by decide) rfl rfl (Nat.le_of_ble_eq_true rfl) dL_law_332 rfl (fun r89 h90 e91 => ?_)
              refine S_icmp_eq (tgt := 1621) dL_law_335 (by decide) rfl (fun _ => ?_) (fun _ => ?_)
              · refine S_iinc (lv' := [(3, qi (qw (a3 + 6))), (0, qr 227), (1, qr 0), (2, qr 212)]) 3 dL_law_1621 rfl (by decide) rfl rfl ?_
                refine S_goto (pc' := 18) dL_law_1624 (by decide) ?_
                refine S_sub [1, 2, 3, 0] rfl ?_
                exact ih (qw (a3 + 6)) h90
              · refine S_iconst (a := 0) dL_law_338 rfl (by decide) ?_
                exact S_zretl (by decide) dL_law_339
            · refine S_ite (fun g92 => ?_) (fun g92 => ?_)
              · refine S_tabIn (a0 := 4) (off := 307) (pc' := 340) dL_law_33 g92 (by decide) (by decide) rfl (by decide) ?_
                refine S_aload_n 1 dL_law_340 rfl rfl rfl ?_
                refine S_aload_n 0 dL_law_341 rfl rfl rfl ?_
                refine S_iload_n 3 dL_law_342 rfl rfl rfl ?_
                refine S_iconst (a := 1) dL_law_343 rfl (by decide) ?_
                refine S_iadd dL_law_344 rfl ?_
                refine S_ite (fun g93 => ?_) (fun _ => S_none)
                refine S_sld dL_law_345 rfl g93.1 g93.2 ?_
                refine S_aload_n 0 dL_law_346 rfl rfl rfl ?_
                refine S_iload_n 3 dL_law_347 rfl rfl rfl ?_
                refine S_iconst (a := 2) dL_law_348 rfl (by decide) ?_
                refine S_iadd dL_law_349 rfl ?_
                refine S_ite (fun g94 => ?_) (fun _ => S_none)
                refine S_sld dL_law_350 rfl g94.1 g94.2 ?_
                refine S_callV_i (as := [qi ((xs (qw (a3 + 1)).toNat).toInt), qi ((xs (qw (a3 + 2)).toNat).toInt)]) (st := []) (fun _ => rfl) (TX9_shore ((xs (qw (a3 + 1)).toNat).toInt) ((xs (qw (a3 + 2)).toNat).toInt) h) yv_X9_shore tw_757 qC_9 qk_0 (by decide) rfl rfl (Nat.le_of_ble_eq_true rfl) dL_law_351 rfl (fun r95 h96 e97 => ?_)
                refine S_aload_n 2 dL_law_354 rfl rfl rfl ?_
                refine S_aload_n 0 dL_law_355 rfl rfl rfl ?_
                refine S_iload_n 3 dL_law_356 rfl rfl rfl ?_
                refine S_iconst (a := 1) dL_law_357 rfl (by decide) ?_
                refine S_iadd dL_law_358 rfl ?_
                refine S_ite (fun g98 => ?_) (fun _ => S_none)
                refine S_sld dL_law_359 rfl g98.1 g98.2 ?_
                refine S_aload_n 0 dL_law_360 rfl rfl rfl ?_
                refine S_iload_n 3 dL_law_361 rfl rfl rfl ?_
                refine S_iconst (a := 2) dL_law_362 rfl (by decide) ?_
                refine S_iadd dL_law_363 rfl ?_
                refine S_ite (fun g99 => ?_) (fun _ => S_none)
                refine S_sld dL_law_364 rfl g99.1 g99.2 ?_
                refine S_callV_i (as := [qi ((xs (qw (a3 + 1)).toNat).toInt), qi ((xs (qw (a3 + 2)).toNat).toInt)]) (st := [qi r95]) (fun _ => rfl) (TX10_shore ((xs (qw (a3 + 1)).toNat).toInt) ((xs (qw (a3 + 2)).toNat).toInt) h96) yv_X10_shore tw_1477 qC_10 qk_212 (by decide) rfl rfl (Nat.le_of_ble_eq_true rfl) dL_law_365 rfl (fun r100 h101 e102 => ?_)
                refine S_icmp_eq (tgt := 1621) dL_law_368 (by decide) rfl (fun _ => ?_) (fun _ => ?_)
                · refine S_iinc (lv' := [(3, qi (qw (a3 + 6))), (0, qr 227), (1, qr 0), (2, qr 212)]) 3 dL_law_1621 rfl (by decide) rfl rfl ?_
                  refine S_goto (pc' := 18) dL_law_1624 (by decide) ?_
                  refine S_sub [1, 2, 3, 0] rfl ?_
                  exact ih (qw (a3 + 6)) h101
                · refine S_iconst (a := 0) dL_law_371 rfl (by decide) ?_
                  exact S_zretl (by decide) dL_law_372
              · refine S_ite (fun g103 => ?_) (fun g103 => ?_)
                · refine S_tabIn (a0 := 5) (off := 340) (pc' := 373) dL_law_33 g103 (by decide) (by decide) rfl (by decide) ?_
                  refine S_aload_n 1 dL_law_373 rfl rfl rfl ?_
                  refine S_aload_n 0 dL_law_374 rfl rfl rfl ?_
                  refine S_iload_n 3 dL_law_375 rfl rfl rfl ?_
                  refine S_iconst (a := 1) dL_law_376 rfl (by decide) ?_
                  refine S_iadd dL_law_377 rfl ?_
                  refine S_ite (fun g104 => ?_) (fun _ => S_none)
                  refine S_sld dL_law_378 rfl g104.1 g104.2 ?_
                  refine S_aload_n 0 dL_law_379 rfl rfl rfl ?_
                  refine S_iload_n 3 dL_law_380 rfl rfl rfl ?_
                  refine S_iconst (a := 2) dL_law_381 rfl (by decide) ?_
                  refine S_iadd dL_law_382 rfl ?_
                  refine S_ite (fun g105 => ?_) (fun _ => S_none)
                  refine S_sld dL_law_383 rfl g105.1 g105.2 ?_
                  refine S_callV_i (as := [qi ((xs (qw (a3 + 1)).toNat).toInt), qi ((xs (qw (a3 + 2)).toNat).toInt)]) (st := []) (fun _ => rfl) (TX9_current ((xs (qw (a3 + 1)).toNat).toInt) ((xs (qw (a3 + 2)).toNat).toInt) h) yv_X9_current tw_777 qC_9 qk_0 (by decide) rfl rfl (Nat.le_of_ble_eq_true rfl) dL_law_384 rfl (fun r106 h107 e108 => ?_)
                  refine S_aload_n 2 dL_law_387 rfl rfl rfl ?_
                  refine S_aload_n 0 dL_law_388 rfl rfl rfl ?_
                  refine S_iload_n 3 dL_law_389 rfl rfl rfl ?_
                  refine S_iconst (a := 1) dL_law_390 rfl (by decide) ?_
                  refine S_iadd dL_law_391 rfl ?_
                  refine S_ite (fun g109 => ?_) (fun _ => S_none)
                  refine S_sld dL_law_392 rfl g109.1 g109.2 ?_
                  refine S_aload_n 0 dL_law_393 rfl rfl rfl ?_
                  refine S_iload_n 3 dL_law_394 rfl rfl rfl ?_
                  refine S_iconst (a := 2) dL_law_395 rfl (by decide) ?_
                  refine S_iadd dL_law_396 rfl ?_
                  refine S_ite (fun g110 => ?_) (fun _ => S_none)
                  refine S_sld dL_law_397 rfl g110.1 g110.2 ?_
                  refine S_callV_i (as := [qi ((xs (qw (a3 + 1)).toNat).toInt), qi ((xs (qw (a3 + 2)).toNat).toInt)]) (st := [qi r106]) (fun _ => rfl) (TX10_current ((xs (qw (a3 + 1)).toNat).toInt) ((xs (qw (a3 + 2)).toNat).toInt) h107) yv_X10_current tw_1501 qC_10 qk_212 (by decide) rfl rfl (Nat.le_of_ble_eq_true rfl) dL_law_398 rfl (fun r111 h112 e113 => ?_)
                  refine S_icmp_eq (tgt := 1621) dL_law_401 (by decide) rfl (fun _ => ?_) (fun _ => ?_)
                  · refine S_iinc (lv' := [(3, qi (qw (a3 + 6))), (0, qr 227), (1, qr 0), (2, qr 212)]) 3 dL_law_1621 rfl (by decide) rfl rfl ?_
                    refine S_goto (pc' := 18) dL_law_1624 (by decide) ?_
                    refine S_sub [1, 2, 3, 0] rfl ?_
                    exact ih (qw (a3 + 6)) h112
                  · refine S_iconst (a := 0) dL_law_404 rfl (by decide) ?_
                    exact S_zretl (by decide) dL_law_405
                · refine S_ite (fun g114 => ?_) (fun g114 => ?_)
                  · refine S_tabIn (a0 := 6) (off := 373) (pc' := 406) dL_law_33 g114 (by decide) (by decide) rfl (by decide) ?_
                    refine S_aload_n 1 dL_law_406 rfl rfl rfl ?_
                    refine S_aload_n 0 dL_law_407 rfl rfl rfl ?_
                    refine S_iload_n 3 dL_law_408 rfl rfl rfl ?_
                    refine S_iconst (a := 1) dL_law_409 rfl (by decide) ?_
                    refine S_iadd dL_law_410 rfl ?_
                    refine S_ite (fun g115 => ?_) (fun _ => S_none)
                    refine S_sld dL_law_411 rfl g115.1 g115.2 ?_
                    refine S_aload_n 0 dL_law_412 rfl rfl rfl ?_
                    refine S_iload_n 3 dL_law_413 rfl rfl rfl ?_
                    refine S_iconst (a := 2) dL_law_414 rfl (by decide) ?_
                    refine S_iadd dL_law_415 rfl ?_
                    refine S_ite (fun g116 => ?_) (fun _ => S_none)
                    refine S_sld dL_law_416 rfl g116.1 g116.2 ?_
                    refine S_callV_i (as := [qi ((xs (qw (a3 + 1)).toNat).toInt), qi ((xs (qw (a3 + 2)).toNat).toInt)]) (st := []) (fun _ => rfl) (TX9_wind ((xs (qw (a3 + 1)).toNat).toInt) ((xs (qw (a3 + 2)).toNat).toInt) h) yv_X9_wind tw_786 qC_9 qk_0 (by decide) rfl rfl (Nat.le_of_ble_eq_true rfl) dL_law_417 rfl (fun r117 h118 e119 => ?_)
                    refine S_aload_n 2 dL_law_420 rfl rfl rfl ?_
                    refine S_aload_n 0 dL_law_421 rfl rfl rfl ?_
                    refine S_iload_n 3 dL_law_422 rfl rfl rfl ?_
                    refine S_iconst (a := 1) dL_law_423 rfl (by decide) ?_
                    refine S_iadd dL_law_424 rfl ?_
                    refine S_ite (fun g120 => ?_) (fun _ => S_none)
                    refine S_sld dL_law_425 rfl g120.1 g120.2 ?_
                    refine S_aload_n 0 dL_law_426 rfl rfl rfl ?_
                    refine S_iload_n 3 dL_law_427 rfl rfl rfl ?_
                    refine S_iconst (a := 2) dL_law_428 rfl (by decide) ?_
                    refine S_iadd dL_law_429 rfl ?_
                    refine S_ite (fun g121 => ?_) (fun _ => S_none)
                    refine S_sld dL_law_430 rfl g121.1 g121.2 ?_
                    refine S_callV_i (as := [qi ((xs (qw (a3 + 1)).toNat).toInt), qi ((xs (qw (a3 + 2)).toNat).toInt)]) (st := [qi r117]) (fun _ => rfl) (TX10_wind ((xs (qw (a3 + 1)).toNat).toInt) ((xs (qw (a3 + 2)).toNat).toInt) h118) yv_X10_wind tw_1505 qC_10 qk_212 (by decide) rfl rfl (Nat.le_of_ble_eq_true rfl) dL_law_431 rfl (fun r122 h123 e124 => ?_)
                    refine S_icmp_eq (tgt := 1621) dL_law_434 (by decide) rfl (fun _ => ?_) (fun _ => ?_)
                    · refine S_iinc (lv' := [(3, qi (qw (a3 + 6))), (0, qr 227), (1, qr 0), (2, qr 212)]) 3 dL_law_1621 rfl (by decide) rfl rfl ?_
                      refine S_goto (pc' := 18) dL_law_1624 (by decide) ?_
                      refine S_sub [1, 2, 3, 0] rfl ?_
                      exact ih (qw (a3 + 6)) h123
                    · refine S_iconst (a := 0) dL_law_437 rfl (by decide) ?_
                      exact S_zretl (by decide) dL_law_438
                  · refine S_ite (fun g125 => ?_) (fun g125 => ?_)
                    · refine S_tabIn (a0 := 7) (off := 406) (pc' := 439) dL_law_33 g125 (by decide) (by decide) rfl (by decide) ?_
                      refine S_aload_n 1 dL_law_439 rfl rfl rfl ?_
                      refine S_aload_n 0 dL_law_440 rfl rfl rfl ?_
                      refine S_iload_n 3 dL_law_441 rfl rfl rfl ?_
                      refine S_iconst (a := 1) dL_law_442 rfl (by decide) ?_
                      refine S_iadd dL_law_443 rfl ?_
                      refine S_ite (fun g126 => ?_) (fun _ => S_none)
                      refine S_sld dL_law_444 rfl g126.1 g126.2 ?_
                      refine S_aload_n 0 dL_law_445 rfl rfl rfl ?_
                      refine S_iload_n 3 dL_law_446 rfl rfl rfl ?_
                      refine S_iconst (a := 2) dL_law_447 rfl (by decide) ?_
                      refine S_iadd dL_law_448 rfl ?_
                      refine S_ite (fun g127 => ?_) (fun _ => S_none)
                      refine S_sld dL_law_449 rfl g127.1 g127.2 ?_
                      refine S_callV_i (as := [qi ((xs (qw (a3 + 1)).toNat).toInt), qi ((xs (qw (a3 + 2)).toNat).toInt)]) (st := []) (fun _ => rfl) (TX9_bottle ((xs (qw (a3 + 1)).toNat).toInt) ((xs (qw (a3 + 2)).toNat).toInt) h) yv_X9_bottle tw_818 qC_9 qk_0 (by decide) rfl rfl (Nat.le_of_ble_eq_true rfl) dL_law_450 rfl (fun r128 h129 e130 => ?_)
                      refine S_aload_n 2 dL_law_453 rfl rfl rfl ?_
                      refine S_aload_n 0 dL_law_454 rfl rfl rfl ?_
                      refine S_iload_n 3 dL_law_455 rfl rfl rfl ?_
                      refine S_iconst (a := 1) dL_law_456 rfl (by decide) ?_
                      refine S_iadd dL_law_457 rfl ?_
                      refine S_ite (fun g131 => ?_) (fun _ => S_none)
                      refine S_sld dL_law_458 rfl g131.1 g131.2 ?_
                      refine S_aload_n 0 dL_law_459 rfl rfl rfl ?_
                      refine S_iload_n 3 dL_law_460 rfl rfl rfl ?_
                      refine S_iconst (a := 2) dL_law_461 rfl (by decide) ?_
                      refine S_iadd dL_law_462 rfl ?_
                      refine S_ite (fun g132 => ?_) (fun _ => S_none)
                      refine S_sld dL_law_463 rfl g132.1 g132.2 ?_
                      refine S_callV_i (as := [qi ((xs (qw (a3 + 1)).toNat).toInt), qi ((xs (qw (a3 + 2)).toNat).toInt)]) (st := [qi r128]) (fun _ => rfl) (TX10_bottle ((xs (qw (a3 + 1)).toNat).toInt) ((xs (qw (a3 + 2)).toNat).toInt) h129) yv_X10_bottle tw_1539 qC_10 qk_212 (by decide) rfl rfl (Nat.le_of_ble_eq_true rfl) dL_law_464 rfl (fun r133 h134 e135 => ?_)
                      refine S_icmp_eq (tgt := 1621) dL_law_467 (by decide) rfl (fun _ => ?_) (fun _ => ?_)
                      · refine S_iinc (lv' := [(3, qi (qw (a3 + 6))), (0, qr 227), (1, qr 0), (2, qr 212)]) 3 dL_law_1621 rfl (by decide) rfl rfl ?_
                        refine S_goto (pc' := 18) dL_law_1624 (by decide) ?_
                        refine S_sub [1, 2, 3, 0] rfl ?_
                        exact ih (qw (a3 + 6)) h134
                      · refine S_iconst (a := 0) dL_law_470 rfl (by decide) ?_
                        exact S_zretl (by decide) dL_law_471
                    · refine S_ite (fun g136 => ?_) (fun g136 => ?_)
                      · refine S_tabIn (a0 := 8) (off := 439) (pc' := 472) dL_law_33 g136 (by decide) (by decide) rfl (by decide) ?_
                        refine S_aload_n 1 dL_law_472 rfl rfl rfl ?_
                        refine S_aload_n 0 dL_law_473 rfl rfl rfl ?_
                        refine S_iload_n 3 dL_law_474 rfl rfl rfl ?_
                        refine S_iconst (a := 1) dL_law_475 rfl (by decide) ?_
                        refine S_iadd dL_law_476 rfl ?_
                        refine S_ite (fun g137 => ?_) (fun _ => S_none)
                        refine S_sld dL_law_477 rfl g137.1 g137.2 ?_
                        refine S_aload_n 0 dL_law_478 rfl rfl rfl ?_
                        refine S_iload_n 3 dL_law_479 rfl rfl rfl ?_
                        refine S_iconst (a := 2) dL_law_480 rfl (by decide) ?_
                        refine S_iadd dL_law_481 rfl ?_
                        refine S_ite (fun g138 => ?_) (fun _ => S_none)
                        refine S_sld dL_law_482 rfl g138.1 g138.2 ?_
                        refine S_aload_n 0 dL_law_483 rfl rfl rfl ?_
                        refine S_iload_n 3 dL_law_484 rfl rfl rfl ?_
                        refine S_iconst (a := 3) dL_law_485 rfl (by decide) ?_
                        refine S_iadd dL_law_486 rfl ?_
                        refine S_ite (fun g139 => ?_) (fun _ => S_none)
                        refine S_sld dL_law_487 rfl g139.1 g139.2 ?_
                        refine S_if_eq (tgt := 495) dL_law_488 (by decide) rfl (fun _ => ?_) (fun _ => ?_)
                        · refine S_iconst (a := 0) dL_law_495 rfl (by decide) ?_
                          exact TL_law_b496 hL (DL_law_l18 L xs n) ih a3 0 ((xs (qw (a3 + 2)).toNat).toInt) ((xs (qw (a3 + 1)).toNat).toInt) h
                        · refine S_iconst (a := 1) dL_law_491 rfl (by decide) ?_
                          refine S_goto (pc' := 496) dL_law_492 (by decide) ?_
                          exact TL_law_b496 hL (DL_law_l18 L xs n) ih a3 1 ((xs (qw (a3 + 2)).toNat).toInt) ((xs (qw (a3 + 1)).toNat).toInt) h
                      · refine S_ite (fun g140 => ?_) (fun g140 => ?_)
                        · refine S_tabIn (a0 := 9) (off := 498) (pc' := 531) dL_law_33 g140 (by decide) (by decide) rfl (by decide) ?_
                          refine S_aload_n 1 dL_law_531 rfl rfl rfl ?_
                          refine S_aload_n 0 dL_law_532 rfl rfl rfl ?_
                          refine S_iload_n 3 dL_law_533 rfl rfl rfl ?_
                          refine S_iconst (a := 1) dL_law_534 rfl (by decide) ?_
                          refine S_iadd dL_law_535 rfl ?_
                          refine S_ite (fun g141 => ?_) (fun _ => S_none)
                          refine S_sld dL_law_536 rfl g141.1 g141.2 ?_
                          refine S_callV_i (as := [qi ((xs (qw (a3 + 1)).toNat).toInt)]) (st := []) (fun _ => rfl) (TX9_tides ((xs (qw (a3 + 1)).toNat).toInt) h) yv_X9_tides tw_865 qC_9 qk_0 (by decide) rfl rfl (Nat.le_of_ble_eq_true rfl) dL_law_537 rfl (fun r142 h143 e144 => ?_)
                          refine S_aload_n 2 dL_law_540 rfl rfl rfl ?_
                          refine S_aload_n 0 dL_law_541 rfl rfl rfl ?_
                          refine S_iload_n 3 dL_law_542 rfl rfl rfl ?_
                          refine S_iconst (a := 1) dL_law_543 rfl (by decide) ?_
                          refine S_iadd dL_law_544 rfl ?_
                          refine S_ite (fun g145 => ?_) (fun _ => S_none)
                          refine S_sld dL_law_545 rfl g145.1 g145.2 ?_
                          refine S_callV_i (as := [qi ((xs (qw (a3 + 1)).toNat).toInt)]) (st := [qi r142]) (fun _ => rfl) (TX10_tides ((xs (qw (a3 + 1)).toNat).toInt) h143) yv_X10_tides tw_1577 qC_10 qk_212 (by decide) rfl rfl (Nat.le_of_ble_eq_true rfl) dL_law_546 rfl (fun r146 h147 e148 => ?_)
                          refine S_icmp_eq (tgt := 1621) dL_law_549 (by decide) rfl (fun _ => ?_) (fun _ => ?_)
                          · refine S_iinc (lv' := [(3, qi (qw (a3 + 6))), (0, qr 227), (1, qr 0), (2, qr 212)]) 3 dL_law_1621 rfl (by decide) rfl rfl ?_
                            refine S_goto (pc' := 18) dL_law_1624 (by decide) ?_
                            refine S_sub [1, 2, 3, 0] rfl ?_
                            exact ih (qw (a3 + 6)) h147
                          · refine S_iconst (a := 0) dL_law_552 rfl (by decide) ?_
                            exact S_zretl (by decide) dL_law_553
                        · refine S_ite (fun g149 => ?_) (fun g149 => ?_)
                          · refine S_tabIn (a0 := 10) (off := 521) (pc' := 554) dL_law_33 g149 (by decide) (by decide) rfl (by decide) ?_
                            refine S_aload_n 1 dL_law_554 rfl rfl rfl ?_
                            refine S_aload_n 0 dL_law_555 rfl rfl rfl ?_
                            refine S_iload_n 3 dL_law_556 rfl rfl rfl ?_
                            refine S_iconst (a := 1) dL_law_557 rfl (by decide) ?_
                            refine S_iadd dL_law_558 rfl ?_
                            refine S_ite (fun g150 => ?_) (fun _ => S_none)
                            refine S_sld dL_law_559 rfl g150.1 g150.2 ?_
                            refine S_aload_n 0 dL_law_560 rfl rfl rfl ?_
                            refine S_iload_n 3 dL_law_561 rfl rfl rfl ?_
                            refine S_iconst (a := 2) dL_law_562 rfl (by decide) ?_
                            refine S_iadd dL_law_563 rfl ?_
                            refine S_ite (fun g151 => ?_) (fun _ => S_none)
                            refine S_sld dL_law_564 rfl g151.1 g151.2 ?_
                            refine S_callV_i (as := [qi ((xs (qw (a3 + 1)).toNat).toInt), qi ((xs (qw (a3 + 2)).toNat).toInt)]) (st := []) (fun _ => rfl) (TX9_storm ((xs (qw (a3 + 1)).toNat).toInt) ((xs (qw (a3 + 2)).toNat).toInt) h) yv_X9_storm tw_906 qC_9 qk_0 (by decide) rfl rfl (Nat.le_of_ble_eq_true rfl) dL_law_565 rfl (fun r152 h153 e154 => ?_)
                            refine S_aload_n 2 dL_law_568 rfl rfl rfl ?_
                            refine S_aload_n 0 dL_law_569 rfl rfl rfl ?_
                            refine S_iload_n 3 dL_law_570 rfl rfl rfl ?_
                            refine S_iconst (a := 1) dL_law_571 rfl (by decide) ?_
                            refine S_iadd dL_law_572 rfl ?_
                            refine S_ite (fun g155 => ?_) (fun _ => S_none)
                            refine S_sld dL_law_573 rfl g155.1 g155.2 ?_
                            refine S_aload_n 0 dL_law_574 rfl rfl rfl ?_
                            refine S_iload_n 3 dL_law_575 rfl rfl rfl ?_
                            refine S_iconst (a := 2) dL_law_576 rfl (by decide) ?_
                            refine S_iadd dL_law_577 rfl ?_
                            refine S_ite (fun g156 => ?_) (fun _ => S_none)
                            refine S_sld dL_law_578 rfl g156.1 g156.2 ?_
                            refine S_callV_i (as := [qi ((xs (qw (a3 + 1)).toNat).toInt), qi ((xs (qw (a3 + 2)).toNat).toInt)]) (st := [qi r152]) (fun _ => rfl) (TX10_storm ((xs (qw (a3 + 1)).toNat).toInt) ((xs (qw (a3 + 2)).toNat).toInt) h153) yv_X10_storm tw_1617 qC_10 qk_212 (by decide) rfl rfl (Nat.le_of_ble_eq_true rfl) dL_law_579 rfl (fun r157 h158 e159 => ?_)
                            refine S_icmp_eq (tgt := 1621) dL_law_582 (by decide) rfl (fun _ => ?_) (fun _ => ?_)
                            · refine S_iinc (lv' := [(3, qi (qw (a3 + 6))), (0, qr 227), (1, qr 0), (2, qr 212)]) 3 dL_law_1621 rfl (by decide) rfl rfl ?_
                              refine S_goto (pc' := 18) dL_law_1624 (by decide) ?_
                              refine S_sub [1, 2, 3, 0] rfl ?_
                              exact ih (qw (a3 + 6)) h158
                            · refine S_iconst (a := 0) dL_law_585 rfl (by decide) ?_
                              exact S_zretl (by decide) dL_law_586
                          · refine S_ite (fun g160 => ?_) (fun g160 => ?_)
                            · refine S_tabIn (a0 := 11) (off := 554) (pc' := 587) dL_law_33 g160 (by decide) (by decide) rfl (by decide) ?_
                              refine S_aload_n 1 dL_law_587 rfl rfl rfl ?_
                              refine S_aload_n 0 dL_law_588 rfl rfl rfl ?_
                              refine S_iload_n 3 dL_law_589 rfl rfl rfl ?_
                              refine S_iconst (a := 1) dL_law_590 rfl (by decide) ?_
                              refine S_iadd dL_law_591 rfl ?_
                              refine S_ite (fun g161 => ?_) (fun _ => S_none)
                              refine S_sld dL_law_592 rfl g161.1 g161.2 ?_
                              refine S_callV_i (as := [qi ((xs (qw (a3 + 1)).toNat).toInt)]) (st := []) (fun _ => rfl) (TX9_lift ((xs (qw (a3 + 1)).toNat).toInt) h) yv_X9_lift tw_915 qC_9 qk_0 (by decide) rfl rfl (Nat.le_of_ble_eq_true rfl) dL_law_593 rfl (fun r162 h163 e164 => ?_)
                              refine S_aload_n 2 dL_law_596 rfl rfl rfl ?_
                              refine S_aload_n 0 dL_law_597 rfl rfl rfl ?_
                              refine S_iload_n 3 dL_law_598 rfl rfl rfl ?_
                              refine S_iconst (a := 1) dL_law_599 rfl (by decide) ?_
                              refine S_iadd dL_law_600 rfl ?_
                              refine S_ite (fun g165 => ?_) (fun _ => S_none)
                              refine S_sld dL_law_601 rfl g165.1 g165.2 ?_
                              refine S_callV_i (as := [qi ((xs (qw (a3 + 1)).toNat).toInt)]) (st := [qi r162]) (fun _ => rfl) (TX10_lift ((xs (qw (a3 + 1)).toNat).toInt) h163) yv_X10_lift tw_1621 qC_10 qk_212 (by decide) rfl rfl (Nat.le_of_ble_eq_true rfl) dL_law_602 rfl (fun r166 h167 e168 => ?_)
                              refine S_icmp_eq (tgt := 1621) dL_law_605 (by decide) rfl (fun _ => ?_) (fun _ => ?_)
                              · refine S_iinc (lv' := [(3, qi (qw (a3 + 6))), (0, qr 227), (1, qr 0), (2, qr 212)]) 3 dL_law_1621 rfl (by decide) rfl rfl ?_
                                refine S_goto (pc' := 18) dL_law_1624 (by decide) ?_
                                refine S_sub [1, 2, 3, 0] rfl ?_
                                exact ih (qw (a3 + 6)) h167
                              · refine S_iconst (a := 0) dL_law_608 rfl (by decide) ?_
                                exact S_zretl (by decide) dL_law_609
                            · refine S_ite (fun g169 => ?_) (fun g169 => ?_)
                              · refine S_tabIn (a0 := 12) (off := 577) (pc' := 610) dL_law_33 g169 (by decide) (by decide) rfl (by decide) ?_
                                refine S_aload_n 1 dL_law_610 rfl rfl rfl ?_
                                refine S_aload_n 0 dL_law_611 rfl rfl rfl ?_
                                refine S_iload_n 3 dL_law_612 rfl rfl rfl ?_
                                refine S_iconst (a := 1) dL_law_613 rfl (by decide) ?_
                                refine S_iadd dL_law_614 rfl ?_
                                refine S_ite (fun g170 => ?_) (fun _ => S_none)
                                refine S_sld dL_law_615 rfl g170.1 g170.2 ?_
                                refine S_callV_i (as := [qi ((xs (qw (a3 + 1)).toNat).toInt)]) (st := []) (fun _ => rfl) (TX9_undo ((xs (qw (a3 + 1)).toNat).toInt) h) yv_X9_undo tw_928 qC_9 qk_0 (by decide) rfl rfl (Nat.le_of_ble_eq_true rfl) dL_law_616 rfl (fun r171 h172 e173 => ?_)
                                refine S_aload_n 2 dL_law_619 rfl rfl rfl ?_
                                refine S_aload_n 0 dL_law_620 rfl rfl rfl ?_
                                refine S_iload_n 3 dL_law_621 rfl rfl rfl ?_
                                refine S_iconst (a := 1) dL_law_622 rfl (by decide) ?_
                                refine S_iadd dL_law_623 rfl ?_
                                refine S_ite (fun g174 => ?_) (fun _ => S_none)
                                refine S_sld dL_law_624 rfl g174.1 g174.2 ?_
                                refine S_callV_i (as := [qi ((xs (qw (a3 + 1)).toNat).toInt)]) (st := [qi r171]) (fun _ => rfl) (TX10_undo ((xs (qw (a3 + 1)).toNat).toInt) h172) yv_X10_undo tw_1629 qC_10 qk_212 (by decide) rfl rfl (Nat.le_of_ble_eq_true rfl) dL_law_625 rfl (fun r175 h176 e177 => ?_)
                                refine S_icmp_eq (tgt := 1621) dL_law_628 (by decide) rfl (fun _ => ?_) (fun _ => ?_)
                                · refine S_iinc (lv' := [(3, qi (qw (a3 + 6))), (0, qr 227), (1, qr 0), (2, qr 212)]) 3 dL_law_1621 rfl (by decide) rfl rfl ?_
                                  refine S_goto (pc' := 18) dL_law_1624 (by decide) ?_
                                  refine S_sub [1, 2, 3, 0] rfl ?_
                                  exact ih (qw (a3 + 6)) h176
                                · refine S_iconst (a := 0) dL_law_631 rfl (by decide) ?_
                                  exact S_zretl (by decide) dL_law_632
                              · refine S_ite (fun g178 => ?_) (fun g178 => ?_)
                                · refine S_tabIn (a0 := 13) (off := 600) (pc' := 633) dL_law_33 g178 (by decide) (by decide) rfl (by decide) ?_
                                  refine S_aload_n 1 dL_law_633 rfl rfl rfl ?_
                                  refine S_aload_n 0 dL_law_634 rfl rfl rfl ?_
                                  refine S_iload_n 3 dL_law_635 rfl rfl rfl ?_
                                  refine S_iconst (a := 1) dL_law_636 rfl (by decide) ?_
                                  refine S_iadd dL_law_637 rfl ?_
                                  refine S_ite (fun g179 => ?_) (fun _ => S_none)
                                  refine S_sld dL_law_638 rfl g179.1 g179.2 ?_
                                  refine S_aload_n 0 dL_law_639 rfl rfl rfl ?_
                                  refine S_iload_n 3 dL_law_640 rfl rfl rfl ?_
                                  refine S_iconst (a := 2) dL_law_641 rfl (by decide) ?_
                                  refine S_iadd dL_law_642 rfl ?_
                                  refine S_ite (fun g180 => ?_) (fun _ => S_none)
                                  refine S_sld dL_law_643 rfl g180.1 g180.2 ?_
                                  refine S_callV_i (as := [qi ((xs (qw (a3 + 1)).toNat).toInt), qi ((xs (qw (a3 + 2)).toNat).toInt)]) (st := []) (fun _ => rfl) (TX9_judge ((xs (qw (a3 + 1)).toNat).toInt) ((xs (qw (a3 + 2)).toNat).toInt) h) yv_X9_judge tw_936 qC_9 qk_0 (by decide) rfl rfl (Nat.le_of_ble_eq_true rfl) dL_law_644 rfl (fun r181 h182 e183 => ?_)
                                  refine S_aload_n 2 dL_law_647 rfl rfl rfl ?_
                                  refine S_aload_n 0 dL_law_648 rfl rfl rfl ?_
                                  refine S_iload_n 3 dL_law_649 rfl rfl rfl ?_
                                  refine S_iconst (a := 1) dL_law_650 rfl (by decide) ?_
                                  refine S_iadd dL_law_651 rfl ?_
                                  refine S_ite (fun g184 => ?_) (fun _ => S_none)
                                  refine S_sld dL_law_652 rfl g184.1 g184.2 ?_
                                  refine S_aload_n 0 dL_law_653 rfl rfl rfl ?_
                                  refine S_iload_n 3 dL_law_654 rfl rfl rfl ?_
                                  refine S_iconst (a := 2) dL_law_655 rfl (by decide) ?_
                                  refine S_iadd dL_law_656 rfl ?_
                                  refine S_ite (fun g185 => ?_) (fun _ => S_none)
                                  refine S_sld dL_law_657 rfl g185.1 g185.2 ?_
                                  refine S_callV_i (as := [qi ((xs (qw (a3 + 1)).toNat).toInt), qi ((xs (qw (a3 + 2)).toNat).toInt)]) (st := [qi r181]) (fun _ => rfl) (TX10_judge ((xs (qw (a3 + 1)).toNat).toInt) ((xs (qw (a3 + 2)).toNat).toInt) h182) yv_X10_judge tw_1634 qC_10 qk_212 (by decide) rfl rfl (Nat.le_of_ble_eq_true rfl) dL_law_658 rfl (fun r186 h187 e188 => ?_)
                                  refine S_icmp_eq (tgt := 1621) dL_law_661 (by decide) rfl (fun _ => ?_) (fun _ => ?_)
                                  · refine S_iinc (lv' := [(3, qi (qw (a3 + 6))), (0, qr 227), (1, qr 0), (2, qr 212)]) 3 dL_law_1621 rfl (by decide) rfl rfl ?_
                                    refine S_goto (pc' := 18) dL_law_1624 (by decide) ?_
                                    refine S_sub [1, 2, 3, 0] rfl ?_
                                    exact ih (qw (a3 + 6)) h187
                                  · refine S_iconst (a := 0) dL_law_664 rfl (by decide) ?_
                                    exact S_zretl (by decide) dL_law_665
                                · refine S_ite (fun g189 => ?_) (fun g189 => ?_)
                                  · refine S_tabIn (a0 := 14) (off := 633) (pc' := 666) dL_law_33 g189 (by decide) (by decide) rfl (by decide) ?_
                                    refine S_aload_n 1 dL_law_666 rfl rfl rfl ?_
                                    refine S_aload_n 0 dL_law_667 rfl rfl rfl ?_
                                    refine S_iload_n 3 dL_law_668 rfl rfl rfl ?_
                                    refine S_iconst (a := 1) dL_law_669 rfl (by decide) ?_
                                    refine S_iadd dL_law_670 rfl ?_
                                    refine S_ite (fun g190 => ?_) (fun _ => S_none)
                                    refine S_sld dL_law_671 rfl g190.1 g190.2 ?_
                                    refine S_callV_i (as := [qi ((xs (qw (a3 + 1)).toNat).toInt)]) (st := []) (fun _ => rfl) (TX9_perform ((xs (qw (a3 + 1)).toNat).toInt) h) yv_X9_perform tw_969 qC_9 qk_0 (by decide) rfl rfl (Nat.le_of_ble_eq_true rfl) dL_law_672 rfl (fun r191 h192 e193 => ?_)
                                    refine S_aload_n 2 dL_law_675 rfl rfl rfl ?_
                                    refine S_aload_n 0 dL_law_676 rfl rfl rfl ?_
                                    refine S_iload_n 3 dL_law_677 rfl rfl rfl ?_
                                    refine S_iconst (a := 1) dL_law_678 rfl (by decide) ?_
                                    refine S_iadd dL_law_679 rfl ?_
                                    refine S_ite (fun g194 => ?_) (fun _ => S_none)
                                    refine S_sld dL_law_680 rfl g194.1 g194.2 ?_
                                    refine S_callV_i (as := [qi ((xs (qw (a3 + 1)).toNat).toInt)]) (st := [qi r191]) (fun _ => rfl) (TX10_perform ((xs (qw (a3 + 1)).toNat).toInt) h192) yv_X10_perform tw_1668 qC_10 qk_212 (by decide) rfl rfl (Nat.le_of_ble_eq_true rfl) dL_law_681 rfl (fun r195 h196 e197 => ?_)
                                    refine S_icmp_eq (tgt := 1621) dL_law_684 (by decide) rfl (fun _ => ?_) (fun _ => ?_)
                                    · refine S_iinc (lv' := [(3, qi (qw (a3 + 6))), (0, qr 227), (1, qr 0), (2, qr 212)]) 3 dL_law_1621 rfl (by decide) rfl rfl ?_
                                      refine S_goto (pc' := 18) dL_law_1624 (by decide) ?_
                                      refine S_sub [1, 2, 3, 0] rfl ?_
                                      exact ih (qw (a3 + 6)) h196
                                    · refine S_iconst (a := 0) dL_law_687 rfl (by decide) ?_
                                      exact S_zretl (by decide) dL_law_688
                                  · refine S_ite (fun g198 => ?_) (fun g198 => ?_)
                                    · refine S_tabIn (a0 := 15) (off := 656) (pc' := 689) dL_law_33 g198 (by decide) (by decide) rfl (by decide) ?_
                                      refine S_aload_n 1 dL_law_689 rfl rfl rfl ?_
                                      refine S_aload_n 0 dL_law_690 rfl rfl rfl ?_
                                      refine S_iload_n 3 dL_law_691 rfl rfl rfl ?_
                                      refine S_iconst (a := 1) dL_law_692 rfl (by decide) ?_
                                      refine S_iadd dL_law_693 rfl ?_
                                      refine S_ite (fun g199 => ?_) (fun _ => S_none)
                                      refine S_sld dL_law_694 rfl g199.1 g199.2 ?_
                                      refine S_aload_n 0 dL_law_695 rfl rfl rfl ?_
                                      refine S_iload_n 3 dL_law_696 rfl rfl rfl ?_
                                      refine S_iconst (a := 2) dL_law_697 rfl (by decide) ?_
                                      refine S_iadd dL_law_698 rfl ?_
                                      refine S_ite (fun g200 => ?_) (fun _ => S_none)
                                      refine S_sld dL_law_699 rfl g200.1 g200.2 ?_
                                      refine S_callV_i (as := [qi ((xs (qw (a3 + 1)).toNat).toInt), qi ((xs (qw (a3 + 2)).toNat).toInt)]) (st := []) (fun _ => rfl) (TX9_season ((xs (qw (a3 + 1)).toNat).toInt) ((xs (qw (a3 + 2)).toNat).toInt) h) yv_X9_season tw_973 qC_9 qk_0 (by decide) rfl rfl (Nat.le_of_ble_eq_true rfl) dL_law_700 rfl (fun r201 h202 e203 => ?_)
                                      refine S_aload_n 2 dL_law_703 rfl rfl rfl ?_
                                      refine S_aload_n 0 dL_law_704 rfl rfl rfl ?_
                                      refine S_iload_n 3 dL_law_705 rfl rfl rfl ?_
                                      refine S_iconst (a := 1) dL_law_706 rfl (by decide) ?_
                                      refine S_iadd dL_law_707 rfl ?_
                                      refine S_ite (fun g204 => ?_) (fun _ => S_none)
                                      refine S_sld dL_law_708 rfl g204.1 g204.2 ?_
                                      refine S_aload_n 0 dL_law_709 rfl rfl rfl ?_
                                      refine S_iload_n 3 dL_law_710 rfl rfl rfl ?_
                                      refine S_iconst (a := 2) dL_law_711 rfl (by decide) ?_
                                      refine S_iadd dL_law_712 rfl ?_
                                      refine S_ite (fun g205 => ?_) (fun _ => S_none)
                                      refine S_sld dL_law_713 rfl g205.1 g205.2 ?_
                                      refine S_callV_i (as := [qi ((xs (qw (a3 + 1)).toNat).toInt), qi ((xs (qw (a3 + 2)).toNat).toInt)]) (st := [qi r201]) (fun _ => rfl) (TX10_season ((xs (qw (a3 + 1)).toNat).toInt) ((xs (qw (a3 + 2)).toNat).toInt) h202) yv_X10_season tw_1672 qC_10 qk_212 (by decide) rfl rfl (Nat.le_of_ble_eq_true rfl) dL_law_714 rfl (fun r206 h207 e208 => ?_)
                                      refine S_icmp_eq (tgt := 1621) dL_law_717 (by decide) rfl (fun _ => ?_) (fun _ => ?_)
                                      · refine S_iinc (lv' := [(3, qi (qw (a3 + 6))), (0, qr 227), (1, qr 0), (2, qr 212)]) 3 dL_law_1621 rfl (by decide) rfl rfl ?_
                                        refine S_goto (pc' := 18) dL_law_1624 (by decide) ?_
                                        refine S_sub [1, 2, 3, 0] rfl ?_
                                        exact ih (qw (a3 + 6)) h207
                                      · refine S_iconst (a := 0) dL_law_720 rfl (by decide) ?_
                                        exact S_zretl (by decide) dL_law_721
                                    · refine S_ite (fun g209 => ?_) (fun g209 => ?_)
                                      · refine S_tabIn (a0 := 16) (off := 689) (pc' := 722) dL_law_33 g209 (by decide) (by decide) rfl (by decide) ?_
                                        refine S_aload_n 1 dL_law_722 rfl rfl rfl ?_
                                        refine S_aload_n 0 dL_law_723 rfl rfl rfl ?_
                                        refine S_iload_n 3 dL_law_724 rfl rfl rfl ?_
                                        refine S_iconst (a := 1) dL_law_725 rfl (by decide) ?_
                                        refine S_iadd dL_law_726 rfl ?_
                                        refine S_ite (fun g210 => ?_) (fun _ => S_none)
                                        refine S_sld dL_law_727 rfl g210.1 g210.2 ?_
                                        refine S_aload_n 0 dL_law_728 rfl rfl rfl ?_
                                        refine S_iload_n 3 dL_law_729 rfl rfl rfl ?_
                                        refine S_iconst (a := 2) dL_law_730 rfl (by decide) ?_
                                        refine S_iadd dL_law_731 rfl ?_
                                        refine S_ite (fun g211 => ?_) (fun _ => S_none)
                                        refine S_sld dL_law_732 rfl g211.1 g211.2 ?_
                                        refine S_callV_i (as := [qi ((xs (qw (a3 + 1)).toNat).toInt), qi ((xs (qw (a3 + 2)).toNat).toInt)]) (st := []) (fun _ => rfl) (TX9_fate ((xs (qw (a3 + 1)).toNat).toInt) ((xs (qw (a3 + 2)).toNat).toInt) h) yv_X9_fate tw_987 qC_9 qk_0 (by decide) rfl rfl (Nat.le_of_ble_eq_true rfl) dL_law_733 rfl (fun r212 h213 e214 => ?_)
                                        refine S_aload_n 2 dL_law_736 rfl rfl rfl ?_
                                        refine S_aload_n 0 dL_law_737 rfl rfl rfl ?_
                                        refine S_iload_n 3 dL_law_738 rfl rfl rfl ?_
                                        refine S_iconst (a := 1) dL_law_739 rfl (by decide) ?_
                                        refine S_iadd dL_law_740 rfl ?_
                                        refine S_ite (fun g215 => ?_) (fun _ => S_none)
                                        refine S_sld dL_law_741 rfl g215.1 g215.2 ?_
                                        refine S_aload_n 0 dL_law_742 rfl rfl rfl ?_
                                        refine S_iload_n 3 dL_law_743 rfl rfl rfl ?_
                                        refine S_iconst (a := 2) dL_law_744 rfl (by decide) ?_
                                        refine S_iadd dL_law_745 rfl ?_
                                        refine S_ite (fun g216 => ?_) (fun _ => S_none)
                                        refine S_sld dL_law_746 rfl g216.1 g216.2 ?_
                                        refine S_callV_i (as := [qi ((xs (qw (a3 + 1)).toNat).toInt), qi ((xs (qw (a3 + 2)).toNat).toInt)]) (st := [qi r212]) (fun _ => rfl) (TX10_fate ((xs (qw (a3 + 1)).toNat).toInt) ((xs (qw (a3 + 2)).toNat).toInt) h213) yv_X10_fate tw_1686 qC_10 qk_212 (by decide) rfl rfl (Nat.le_of_ble_eq_true rfl) dL_law_747 rfl (fun r217 h218 e219 => ?_)
                                        refine S_icmp_eq (tgt := 1621) dL_law_750 (by decide) rfl (fun _ => ?_) (fun _ => ?_)
                                        · refine S_iinc (lv' := [(3, qi (qw (a3 + 6))), (0, qr 227), (1, qr 0), (2, qr 212)]) 3 dL_law_1621 rfl (by decide) rfl rfl ?_
                                          refine S_goto (pc' := 18) dL_law_1624 (by decide) ?_
                                          refine S_sub [1, 2, 3, 0] rfl ?_
                                          exact ih (qw (a3 + 6)) h218
                                        · refine S_iconst (a := 0) dL_law_753 rfl (by decide) ?_
                                          exact S_zretl (by decide) dL_law_754
                                      · refine S_ite (fun g220 => ?_) (fun g220 => ?_)
                                        · refine S_tabIn (a0 := 17) (off := 722) (pc' := 755) dL_law_33 g220 (by decide) (by decide) rfl (by decide) ?_
                                          refine S_aload_n 1 dL_law_755 rfl rfl rfl ?_
                                          refine S_aload_n 0 dL_law_756 rfl rfl rfl ?_
                                          refine S_iload_n 3 dL_law_757 rfl rfl rfl ?_
                                          refine S_iconst (a := 1) dL_law_758 rfl (by decide) ?_
                                          refine S_iadd dL_law_759 rfl ?_
                                          refine S_ite (fun g221 => ?_) (fun _ => S_none)
                                          refine S_sld dL_law_760 rfl g221.1 g221.2 ?_
                                          refine S_aload_n 0 dL_law_761 rfl rfl rfl ?_
                                          refine S_iload_n 3 dL_law_762 rfl rfl rfl ?_
                                          refine S_iconst (a := 2) dL_law_763 rfl (by decide) ?_
                                          refine S_iadd dL_law_764 rfl ?_
                                          refine S_ite (fun g222 => ?_) (fun _ => S_none)
                                          refine S_sld dL_law_765 rfl g222.1 g222.2 ?_
                                          refine S_callV_i (as := [qi ((xs (qw (a3 + 1)).toNat).toInt), qi ((xs (qw (a3 + 2)).toNat).toInt)]) (st := []) (fun _ => rfl) (TX9_whereIn ((xs (qw (a3 + 1)).toNat).toInt) ((xs (qw (a3 + 2)).toNat).toInt) h) yv_X9_whereIn tw_997 qC_9 qk_0 (by decide) rfl rfl (Nat.le_of_ble_eq_true rfl) dL_law_766 rfl (fun r223 h224 e225 => ?_)
                                          refine S_aload_n 2 dL_law_769 rfl rfl rfl ?_
                                          refine S_aload_n 0 dL_law_770 rfl rfl rfl ?_
                                          refine S_iload_n 3 dL_law_771 rfl rfl rfl ?_
                                          refine S_iconst (a := 1) dL_law_772 rfl (by decide) ?_
                                          refine S_iadd dL_law_773 rfl ?_
                                          refine S_ite (fun g226 => ?_) (fun _ => S_none)
                                          refine S_sld dL_law_774 rfl g226.1 g226.2 ?_
                                          refine S_aload_n 0 dL_law_775 rfl rfl rfl ?_
                                          refine S_iload_n 3 dL_law_776 rfl rfl rfl ?_
                                          refine S_iconst (a := 2) dL_law_777 rfl (by decide) ?_
                                          refine S_iadd dL_law_778 rfl ?_
                                          refine S_ite (fun g227 => ?_) (fun _ => S_none)
                                          refine S_sld dL_law_779 rfl g227.1 g227.2 ?_
                                          refine S_callV_i (as := [qi ((xs (qw (a3 + 1)).toNat).toInt), qi ((xs (qw (a3 + 2)).toNat).toInt)]) (st := [qi r223]) (fun _ => rfl) (TX10_whereIn ((xs (qw (a3 + 1)).toNat).toInt) ((xs (qw (a3 + 2)).toNat).toInt) h224) yv_X10_whereIn tw_1696 qC_10 qk_212 (by decide) rfl rfl (Nat.le_of_ble_eq_true rfl) dL_law_780 rfl (fun r228 h229 e230 => ?_)
                                          refine S_icmp_eq (tgt := 1621) dL_law_783 (by decide) rfl (fun _ => ?_) (fun _ => ?_)
                                          · refine S_iinc (lv' := [(3, qi (qw (a3 + 6))), (0, qr 227), (1, qr 0), (2, qr 212)]) 3 dL_law_1621 rfl (by decide) rfl rfl ?_
                                            refine S_goto (pc' := 18) dL_law_1624 (by decide) ?_
                                            refine S_sub [1, 2, 3, 0] rfl ?_
                                            exact ih (qw (a3 + 6)) h229
                                          · refine S_iconst (a := 0) dL_law_786 rfl (by decide) ?_
                                            exact S_zretl (by decide) dL_law_787
                                        · refine S_ite (fun g231 => ?_) (fun g231 => ?_)
                                          · refine S_tabIn (a0 := 18) (off := 755) (pc' := 788) dL_law_33 g231 (by decide) (by decide) rfl (by decide) ?_
                                            refine S_aload_n 1 dL_law_788 rfl rfl rfl ?_
                                            refine S_aload_n 0 dL_law_789 rfl rfl rfl ?_
                                            refine S_iload_n 3 dL_law_790 rfl rfl rfl ?_
                                            refine S_iconst (a := 1) dL_law_791 rfl (by decide) ?_
                                            refine S_iadd dL_law_792 rfl ?_
                                            refine S_ite (fun g232 => ?_) (fun _ => S_none)
                                            refine S_sld dL_law_793 rfl g232.1 g232.2 ?_
                                            refine S_aload_n 0 dL_law_794 rfl rfl rfl ?_
                                            refine S_iload_n 3 dL_law_795 rfl rfl rfl ?_
                                            refine S_iconst (a := 2) dL_law_796 rfl (by decide) ?_
                                            refine S_iadd dL_law_797 rfl ?_
                                            refine S_ite (fun g233 => ?_) (fun _ => S_none)
                                            refine S_sld dL_law_798 rfl g233.1 g233.2 ?_
                                            refine S_callV_i (as := [qi ((xs (qw (a3 + 1)).toNat).toInt), qi ((xs (qw (a3 + 2)).toNat).toInt)]) (st := []) (fun _ => rfl) (TX9_comesTo ((xs (qw (a3 + 1)).toNat).toInt) ((xs (qw (a3 + 2)).toNat).toInt) h) yv_X9_comesTo tw_1006 qC_9 qk_0 (by decide) rfl rfl (Nat.le_of_ble_eq_true rfl) dL_law_799 rfl (fun r234 h235 e236 => ?_)
                                            refine S_aload_n 2 dL_law_802 rfl rfl rfl ?_
                                            refine S_aload_n 0 dL_law_803 rfl rfl rfl ?_
                                            refine S_iload_n 3 dL_law_804 rfl rfl rfl ?_
                                            refine S_iconst (a := 1) dL_law_805 rfl (by decide) ?_
                                            refine S_iadd dL_law_806 rfl ?_
                                            refine S_ite (fun g237 => ?_) (fun _ => S_none)
                                            refine S_sld dL_law_807 rfl g237.1 g237.2 ?_
                                            refine S_aload_n 0 dL_law_808 rfl rfl rfl ?_
                                            refine S_iload_n 3 dL_law_809 rfl rfl rfl ?_
                                            refine S_iconst (a := 2) dL_law_810 rfl (by decide) ?_
                                            refine S_iadd dL_law_811 rfl ?_
                                            refine S_ite (fun g238 => ?_) (fun _ => S_none)
                                            refine S_sld dL_law_812 rfl g238.1 g238.2 ?_
                                            refine S_callV_i (as := [qi ((xs (qw (a3 + 1)).toNat).toInt), qi ((xs (qw (a3 + 2)).toNat).toInt)]) (st := [qi r234]) (fun _ => rfl) (TX10_comesTo ((xs (qw (a3 + 1)).toNat).toInt) ((xs (qw (a3 + 2)).toNat).toInt) h235) yv_X10_comesTo tw_1705 qC_10 qk_212 (by decide) rfl rfl (Nat.le_of_ble_eq_true rfl) dL_law_813 rfl (fun r239 h240 e241 => ?_)
                                            refine S_icmp_eq (tgt := 1621) dL_law_816 (by decide) rfl (fun _ => ?_) (fun _ => ?_)
                                            · refine S_iinc (lv' := [(3, qi (qw (a3 + 6))), (0, qr 227), (1, qr 0), (2, qr 212)]) 3 dL_law_1621 rfl (by decide) rfl rfl ?_
                                              refine S_goto (pc' := 18) dL_law_1624 (by decide) ?_
                                              refine S_sub [1, 2, 3, 0] rfl ?_
                                              exact ih (qw (a3 + 6)) h240
                                            · refine S_iconst (a := 0) dL_law_819 rfl (by decide) ?_
                                              exact S_zretl (by decide) dL_law_820
                                          · refine S_ite (fun g242 => ?_) (fun g242 => ?_)
                                            · refine S_tabIn (a0 := 19) (off := 788) (pc' := 821) dL_law_33 g242 (by decide) (by decide) rfl (by decide) ?_
                                              refine S_aload_n 1 dL_law_821 rfl rfl rfl ?_
                                              refine S_aload_n 0 dL_law_822 rfl rfl rfl ?_
                                              refine S_iload_n 3 dL_law_823 rfl rfl rfl ?_
                                              refine S_iconst (a := 1) dL_law_824 rfl (by decide) ?_
                                              refine S_iadd dL_law_825 rfl ?_
                                              refine S_ite (fun g243 => ?_) (fun _ => S_none)
                                              refine S_sld dL_law_826 rfl g243.1 g243.2 ?_
                                              refine S_aload_n 0 dL_law_827 rfl rfl rfl ?_
                                              refine S_iload_n 3 dL_law_828 rfl rfl rfl ?_
                                              refine S_iconst (a := 2) dL_law_829 rfl (by decide) ?_
                                              refine S_iadd dL_law_830 rfl ?_
                                              refine S_ite (fun g244 => ?_) (fun _ => S_none)
                                              refine S_sld dL_law_831 rfl g244.1 g244.2 ?_
                                              refine S_aload_n 0 dL_law_832 rfl rfl rfl ?_
                                              refine S_iload_n 3 dL_law_833 rfl rfl rfl ?_
                                              refine S_iconst (a := 3) dL_law_834 rfl (by decide) ?_
                                              refine S_iadd dL_law_835 rfl ?_
                                              refine S_ite (fun g245 => ?_) (fun _ => S_none)
                                              refine S_sld dL_law_836 rfl g245.1 g245.2 ?_
                                              refine S_if_eq (tgt := 844) dL_law_837 (by decide) rfl (fun _ => ?_) (fun _ => ?_)
                                              · refine S_iconst (a := 0) dL_law_844 rfl (by decide) ?_
                                                exact TL_law_b845 hL (DL_law_l18 L xs n) ih a3 0 ((xs (qw (a3 + 2)).toNat).toInt) ((xs (qw (a3 + 1)).toNat).toInt) h
                                              · refine S_iconst (a := 1) dL_law_840 rfl (by decide) ?_
                                                refine S_goto (pc' := 845) dL_law_841 (by decide) ?_
                                                exact TL_law_b845 hL (DL_law_l18 L xs n) ih a3 1 ((xs (qw (a3 + 2)).toNat).toInt) ((xs (qw (a3 + 1)).toNat).toInt) h
                                            · refine S_ite (fun g246 => ?_) (fun g246 => ?_)
                                              · refine S_tabIn (a0 := 20) (off := 857) (pc' := 890) dL_law_33 g246 (by decide) (by decide) rfl (by decide) ?_
                                                refine S_aload_n 1 dL_law_890 rfl rfl rfl ?_
                                                refine S_aload_n 0 dL_law_891 rfl rfl rfl ?_
                                                refine S_iload_n 3 dL_law_892 rfl rfl rfl ?_
                                                refine S_iconst (a := 1) dL_law_893 rfl (by decide) ?_
                                                refine S_iadd dL_law_894 rfl ?_
                                                refine S_ite (fun g247 => ?_) (fun _ => S_none)
                                                refine S_sld dL_law_895 rfl g247.1 g247.2 ?_
                                                refine S_aload_n 0 dL_law_896 rfl rfl rfl ?_
                                                refine S_iload_n 3 dL_law_897 rfl rfl rfl ?_
                                                refine S_iconst (a := 2) dL_law_898 rfl (by decide) ?_
                                                refine S_iadd dL_law_899 rfl ?_
                                                refine S_ite (fun g248 => ?_) (fun _ => S_none)
                                                refine S_sld dL_law_900 rfl g248.1 g248.2 ?_
                                                refine S_aload_n 0 dL_law_901 rfl rfl rfl ?_
                                                refine S_iload_n 3 dL_law_902 rfl rfl rfl ?_
                                                refine S_iconst (a := 3) dL_law_903 rfl (by decide) ?_
                                                refine S_iadd dL_law_904 rfl ?_
                                                refine S_ite (fun g249 => ?_) (fun _ => S_none)
                                                refine S_sld dL_law_905 rfl g249.1 g249.2 ?_
                                                refine S_if_eq (tgt := 913) dL_law_906 (by decide) rfl (fun _ => ?_) (fun _ => ?_)
                                                · refine S_iconst (a := 0) dL_law_913 rfl (by decide) ?_
                                                  exact TL_law_b914 hL (DL_law_l18 L xs n) ih a3 0 ((xs (qw (a3 + 2)).toNat).toInt) ((xs (qw (a3 + 1)).toNat).toInt) h
                                                · refine S_iconst (a := 1) dL_law_909 rfl (by decide) ?_
                                                  refine S_goto (pc' := 914) dL_law_910 (by decide) ?_
                                                  exact TL_law_b914 hL (DL_law_l18 L xs n) ih a3 1 ((xs (qw (a3 + 2)).toNat).toInt) ((xs (qw (a3 + 1)).toNat).toInt) h
                                              · refine S_ite (fun g250 => ?_) (fun g250 => ?_)
                                                · refine S_tabIn (a0 := 21) (off := 926) (pc' := 959) dL_law_33 g250 (by decide) (by decide) rfl (by decide) ?_
                                                  refine S_aload_n 1 dL_law_959 rfl rfl rfl ?_
                                                  refine S_aload_n 0 dL_law_960 rfl rfl rfl ?_
                                                  refine S_iload_n 3 dL_law_961 rfl rfl rfl ?_
                                                  refine S_iconst (a := 1) dL_law_962 rfl (by decide) ?_
                                                  refine S_iadd dL_law_963 rfl ?_
                                                  refine S_ite (fun g251 => ?_) (fun _ => S_none)
                                                  refine S_sld dL_law_964 rfl g251.1 g251.2 ?_
                                                  refine S_aload_n 0 dL_law_965 rfl rfl rfl ?_
                                                  refine S_iload_n 3 dL_law_966 rfl rfl rfl ?_
                                                  refine S_iconst (a := 2) dL_law_967 rfl (by decide) ?_
                                                  refine S_iadd dL_law_968 rfl ?_
                                                  refine S_ite (fun g252 => ?_) (fun _ => S_none)
                                                  refine S_sld dL_law_969 rfl g252.1 g252.2 ?_
                                                  refine S_aload_n 0 dL_law_970 rfl rfl rfl ?_
                                                  refine S_iload_n 3 dL_law_971 rfl rfl rfl ?_
                                                  refine S_iconst (a := 3) dL_law_972 rfl (by decide) ?_
                                                  refine S_iadd dL_law_973 rfl ?_
                                                  refine S_ite (fun g253 => ?_) (fun _ => S_none)
                                                  refine S_sld dL_law_974 rfl g253.1 g253.2 ?_
                                                  refine S_callV_i (as := [qi ((xs (qw (a3 + 1)).toNat).toInt), qi ((xs (qw (a3 + 2)).toNat).toInt), qi ((xs (qw (a3 + 3)).toNat).toInt)]) (st := []) (fun _ => rfl) (TX9_best ((xs (qw (a3 + 1)).toNat).toInt) ((xs (qw (a3 + 2)).toNat).toInt) ((xs (qw (a3 + 3)).toNat).toInt) h) yv_X9_best tw_1038 qC_9 qk_0 (by decide) rfl rfl (Nat.le_of_ble_eq_true rfl) dL_law_975 rfl (fun r254 h255 e256 => ?_)
                                                  refine S_aload_n 2 dL_law_978 rfl rfl rfl ?_
                                                  refine S_aload_n 0 dL_law_979 rfl rfl rfl ?_
                                                  refine S_iload_n 3 dL_law_980 rfl rfl rfl ?_
                                                  refine S_iconst (a := 1) dL_law_981 rfl (by decide) ?_
                                                  refine S_iadd dL_law_982 rfl ?_
                                                  refine S_ite (fun g257 => ?_) (fun _ => S_none)
                                                  refine S_sld dL_law_983 rfl g257.1 g257.2 ?_
                                                  refine S_aload_n 0 dL_law_984 rfl rfl rfl ?_
                                                  refine S_iload_n 3 dL_law_985 rfl rfl rfl ?_
                                                  refine S_iconst (a := 2) dL_law_986 rfl (by decide) ?_
                                                  refine S_iadd dL_law_987 rfl ?_
                                                  refine S_ite (fun g258 => ?_) (fun _ => S_none)
                                                  refine S_sld dL_law_988 rfl g258.1 g258.2 ?_
                                                  refine S_aload_n 0 dL_law_989 rfl rfl rfl ?_
                                                  refine S_iload_n 3 dL_law_990 rfl rfl rfl ?_
                                                  refine S_iconst (a := 3) dL_law_991 rfl (by decide) ?_
                                                  refine S_iadd dL_law_992 rfl ?_
                                                  refine S_ite (fun g259 => ?_) (fun _ => S_none)
                                                  refine S_sld dL_law_993 rfl g259.1 g259.2 ?_
                                                  refine S_callV_i (as := [qi ((xs (qw (a3 + 1)).toNat).toInt), qi ((xs (qw (a3 + 2)).toNat).toInt), qi ((xs (qw (a3 + 3)).toNat).toInt)]) (st := [qi r254]) (fun _ => rfl) (TX10_best ((xs (qw (a3 + 1)).toNat).toInt) ((xs (qw (a3 + 2)).toNat).toInt) ((xs (qw (a3 + 3)).toNat).toInt) h255) yv_X10_best tw_1726 qC_10 qk_212 (by decide) rfl rfl (Nat.le_of_ble_eq_true rfl) dL_law_994 rfl (fun r260 h261 e262 => ?_)
                                                  refine S_icmp_eq (tgt := 1621) dL_law_997 (by decide) rfl (fun _ => ?_) (fun _ => ?_)
                                                  · refine S_iinc (lv' := [(3, qi (qw (a3 + 6))), (0, qr 227), (1, qr 0), (2, qr 212)]) 3 dL_law_1621 rfl (by decide) rfl rfl ?_
                                                    refine S_goto (pc' := 18) dL_law_1624 (by decide) ?_
                                                    refine S_sub [1, 2, 3, 0] rfl ?_
                                                    exact ih (qw (a3 + 6)) h261
                                                  · refine S_iconst (a := 0) dL_law_1000 rfl (by decide) ?_
                                                    exact S_zretl (by decide) dL_law_1001
                                                · refine S_ite (fun g263 => ?_) (fun g263 => ?_)
                                                  · refine S_tabIn (a0 := 22) (off := 969) (pc' := 1002) dL_law_33 g263 (by decide) (by decide) rfl (by decide) ?_
                                                    refine S_aload_n 1 dL_law_1002 rfl rfl rfl ?_
                                                    refine S_aload_n 0 dL_law_1003 rfl rfl rfl ?_
                                                    refine S_iload_n 3 dL_law_1004 rfl rfl rfl ?_
                                                    refine S_iconst (a := 1) dL_law_1005 rfl (by decide) ?_
                                                    refine S_iadd dL_law_1006 rfl ?_
                                                    refine S_ite (fun g264 => ?_) (fun _ => S_none)
                                                    refine S_sld dL_law_1007 rfl g264.1 g264.2 ?_
                                                    refine S_callV_i (as := [qi ((xs (qw (a3 + 1)).toNat).toInt)]) (st := []) (fun _ => rfl) (TX9_reachers ((xs (qw (a3 + 1)).toNat).toInt) h) yv_X9_reachers tw_1058 qC_9 qk_0 (by decide) rfl rfl (Nat.le_of_ble_eq_true rfl) dL_law_1008 rfl (fun r265 h266 e267 => ?_)
                                                    refine S_aload_n 2 dL_law_1011 rfl rfl rfl ?_
                                                    refine S_aload_n 0 dL_law_1012 rfl rfl rfl ?_
                                                    refine S_iload_n 3 dL_law_1013 rfl rfl rfl ?_
                                                    refine S_iconst (a := 1) dL_law_1014 rfl (by decide) ?_
                                                    refine S_iadd dL_law_1015 rfl ?_
                                                    refine S_ite (fun g268 => ?_) (fun _ => S_none)
                                                    refine S_sld dL_law_1016 rfl g268.1 g268.2 ?_
                                                    refine S_callV_i (as := [qi ((xs (qw (a3 + 1)).toNat).toInt)]) (st := [qi r265]) (fun _ => rfl) (TX10_reachers ((xs (qw (a3 + 1)).toNat).toInt) h266) yv_X10_reachers tw_1734 qC_10 qk_212 (by decide) rfl rfl (Nat.le_of_ble_eq_true rfl) dL_law_1017 rfl (fun r269 h270 e271 => ?_)
                                                    refine S_icmp_eq (tgt := 1621) dL_law_1020 (by decide) rfl (fun _ => ?_) (fun _ => ?_)
                                                    · refine S_iinc (lv' := [(3, qi (qw (a3 + 6))), (0, qr 227), (1, qr 0), (2, qr 212)]) 3 dL_law_1621 rfl (by decide) rfl rfl ?_
                                                      refine S_goto (pc' := 18) dL_law_1624 (by decide) ?_
                                                      refine S_sub [1, 2, 3, 0] rfl ?_
                                                      exact ih (qw (a3 + 6)) h270
                                                    · refine S_iconst (a := 0) dL_law_1023 rfl (by decide) ?_
                                                      exact S_zretl (by decide) dL_law_1024
                                                  · refine S_ite (fun g272 => ?_) (fun g272 => ?_)
                                                    · refine S_tabIn (a0 := 23) (off := 992) (pc' := 1025) dL_law_33 g272 (by decide) (by decide) rfl (by decide) ?_
                                                      refine S_aload_n 1 dL_law_1025 rfl rfl rfl ?_
                                                      refine S_aload_n 0 dL_law_1026 rfl rfl rfl ?_
                                                      refine S_iload_n 3 dL_law_1027 rfl rfl rfl ?_
                                                      refine S_iconst (a := 1) dL_law_1028 rfl (by decide) ?_
                                                      refine S_iadd dL_law_1029 rfl ?_
                                                      refine S_ite (fun g273 => ?_) (fun _ => S_none)
                                                      refine S_sld dL_law_1030 rfl g273.1 g273.2 ?_
                                                      refine S_aload_n 0 dL_law_1031 rfl rfl rfl ?_
                                                      refine S_iload_n 3 dL_law_1032 rfl rfl rfl ?_
                                                      refine S_iconst (a := 2) dL_law_1033 rfl (by decide) ?_
                                                      refine S_iadd dL_law_1034 rfl ?_
                                                      refine S_ite (fun g274 => ?_) (fun _ => S_none)
                                                      refine S_sld dL_law_1035 rfl g274.1 g274.2 ?_
                                                      refine S_aload_n 0 dL_law_1036 rfl rfl rfl ?_
                                                      refine S_iload_n 3 dL_law_1037 rfl rfl rfl ?_
                                                      refine S_iconst (a := 3) dL_law_1038 rfl (by decide) ?_
                                                      refine S_iadd dL_law_1039 rfl ?_
                                                      refine S_ite (fun g275 => ?_) (fun _ => S_none)
                                                      refine S_sld dL_law_1040 rfl g275.1 g275.2 ?_
                                                      refine S_callV_i (as := [qi ((xs (qw (a3 + 1)).toNat).toInt), qi ((xs (qw (a3 + 2)).toNat).toInt), qi ((xs (qw (a3 + 3)).toNat).toInt)]) (st := []) (fun _ => rfl) (TX9_relay ((xs (qw (a3 + 1)).toNat).toInt) ((xs (qw (a3 + 2)).toNat).toInt) ((xs (qw (a3 + 3)).toNat).toInt) h) yv_X9_relay tw_1062 qC_9 qk_0 (by decide) rfl rfl (Nat.le_of_ble_eq_true rfl) dL_law_1041 rfl (fun r276 h277 e278 => ?_)
                                                      refine S_aload_n 2 dL_law_1044 rfl rfl rfl ?_
                                                      refine S_aload_n 0 dL_law_1045 rfl rfl rfl ?_
                                                      refine S_iload_n 3 dL_law_1046 rfl rfl rfl ?_
                                                      refine S_iconst (a := 1) dL_law_1047 rfl (by decide) ?_
                                                      refine S_iadd dL_law_1048 rfl ?_
                                                      refine S_ite (fun g279 => ?_) (fun _ => S_none)
                                                      refine S_sld dL_law_1049 rfl g279.1 g279.2 ?_
                                                      refine S_aload_n 0 dL_law_1050 rfl rfl rfl ?_
                                                      refine S_iload_n 3 dL_law_1051 rfl rfl rfl ?_
                                                      refine S_iconst (a := 2) dL_law_1052 rfl (by decide) ?_
                                                      refine S_iadd dL_law_1053 rfl ?_
                                                      refine S_ite (fun g280 => ?_) (fun _ => S_none)
                                                      refine S_sld dL_law_1054 rfl g280.1 g280.2 ?_
                                                      refine S_aload_n 0 dL_law_1055 rfl rfl rfl ?_
                                                      refine S_iload_n 3 dL_law_1056 rfl rfl rfl ?_
                                                      refine S_iconst (a := 3) dL_law_1057 rfl (by decide) ?_
                                                      refine S_iadd dL_law_1058 rfl ?_
                                                      refine S_ite (fun g281 => ?_) (fun _ => S_none)
                                                      refine S_sld dL_law_1059 rfl g281.1 g281.2 ?_
                                                      refine S_callV_i (as := [qi ((xs (qw (a3 + 1)).toNat).toInt), qi ((xs (qw (a3 + 2)).toNat).toInt), qi ((xs (qw (a3 + 3)).toNat).toInt)]) (st := [qi r276]) (fun _ => rfl) (TX10_relay ((xs (qw (a3 + 1)).toNat).toInt) ((xs (qw (a3 + 2)).toNat).toInt) ((xs (qw (a3 + 3)).toNat).toInt) h277) yv_X10_relay tw_1738 qC_10 qk_212 (by decide) rfl rfl (Nat.le_of_ble_eq_true rfl) dL_law_1060 rfl (fun r282 h283 e284 => ?_)
                                                      refine S_icmp_eq (tgt := 1621) dL_law_1063 (by decide) rfl (fun _ => ?_) (fun _ => ?_)
                                                      · refine S_iinc (lv' := [(3, qi (qw (a3 + 6))), (0, qr 227), (1, qr 0), (2, qr 212)]) 3 dL_law_1621 rfl (by decide) rfl rfl ?_
                                                        refine S_goto (pc' := 18) dL_law_1624 (by decide) ?_
                                                        refine S_sub [1, 2, 3, 0] rfl ?_
                                                        exact ih (qw (a3 + 6)) h283
                                                      · refine S_iconst (a := 0) dL_law_1066 rfl (by decide) ?_
                                                        exact S_zretl (by decide) dL_law_1067
                                                    · refine S_ite (fun g285 => ?_) (fun g285 => ?_)
                                                      · refine S_tabIn (a0 := 24) (off := 1035) (pc' := 1068) dL_law_33 g285 (by decide) (by decide) rfl (by decide) ?_
                                                        refine S_aload_n 1 dL_law_1068 rfl rfl rfl ?_
                                                        refine S_aload_n 0 dL_law_1069 rfl rfl rfl ?_
                                                        refine S_iload_n 3 dL_law_1070 rfl rfl rfl ?_
                                                        refine S_iconst (a := 1) dL_law_1071 rfl (by decide) ?_
                                                        refine S_iadd dL_law_1072 rfl ?_
                                                        refine S_ite (fun g286 => ?_) (fun _ => S_none)
                                                        refine S_sld dL_law_1073 rfl g286.1 g286.2 ?_
                                                        refine S_callV_i (as := [qi ((xs (qw (a3 + 1)).toNat).toInt)]) (st := []) (fun _ => rfl) (TX9_keepers ((xs (qw (a3 + 1)).toNat).toInt) h) yv_X9_keepers tw_1086 qC_9 qk_0 (by decide) rfl rfl (Nat.le_of_ble_eq_true rfl) dL_law_1074 rfl (fun r287 h288 e289 => ?_)
                                                        refine S_aload_n 2 dL_law_1077 rfl rfl rfl ?_
                                                        refine S_aload_n 0 dL_law_1078 rfl rfl rfl ?_
                                                        refine S_iload_n 3 dL_law_1079 rfl rfl rfl ?_
                                                        refine S_iconst (a := 1) dL_law_1080 rfl (by decide) ?_
                                                        refine S_iadd dL_law_1081 rfl ?_
                                                        refine S_ite (fun g290 => ?_) (fun _ => S_none)
                                                        refine S_sld dL_law_1082 rfl g290.1 g290.2 ?_
                                                        refine S_callV_i (as := [qi ((xs (qw (a3 + 1)).toNat).toInt)]) (st := [qi r287]) (fun _ => rfl) (TX10_keepers ((xs (qw (a3 + 1)).toNat).toInt) h288) yv_X10_keepers tw_1746 qC_10 qk_212 (by decide) rfl rfl (Nat.le_of_ble_eq_true rfl) dL_law_1083 rfl (fun r291 h292 e293 => ?_)
                                                        refine S_icmp_eq (tgt := 1621) dL_law_1086 (by decide) rfl (fun _ => ?_) (fun _ => ?_)
                                                        · refine S_iinc (lv' := [(3, qi (qw (a3 + 6))), (0, qr 227), (1, qr 0), (2, qr 212)]) 3 dL_law_1621 rfl (by decide) rfl rfl ?_
                                                          refine S_goto (pc' := 18) dL_law_1624 (by decide) ?_
                                                          refine S_sub [1, 2, 3, 0] rfl ?_
                                                          exact ih (qw (a3 + 6)) h292
                                                        · refine S_iconst (a := 0) dL_law_1089 rfl (by decide) ?_
                                                          exact S_zretl (by decide) dL_law_1090
                                                      · refine S_ite (fun g294 => ?_) (fun g294 => ?_)
                                                        · refine S_tabIn (a0 := 25) (off := 1058) (pc' := 1091) dL_law_33 g294 (by decide) (by decide) rfl (by decide) ?_
                                                          refine S_aload_n 1 dL_law_1091 rfl rfl rfl ?_
                                                          refine S_aload_n 0 dL_law_1092 rfl rfl rfl ?_
                                                          refine S_iload_n 3 dL_law_1093 rfl rfl rfl ?_
                                                          refine S_iconst (a := 1) dL_law_1094 rfl (by decide) ?_
                                                          refine S_iadd dL_law_1095 rfl ?_
                                                          refine S_ite (fun g295 => ?_) (fun _ => S_none)
                                                          refine S_sld dL_law_1096 rfl g295.1 g295.2 ?_
                                                          refine S_aload_n 0 dL_law_1097 rfl rfl rfl ?_
                                                          refine S_iload_n 3 dL_law_1098 rfl rfl rfl ?_
                                                          refine S_iconst (a := 2) dL_law_1099 rfl (by decide) ?_
                                                          refine S_iadd dL_law_1100 rfl ?_
                                                          refine S_ite (fun g296 => ?_) (fun _ => S_none)
                                                          refine S_sld dL_law_1101 rfl g296.1 g296.2 ?_
                                                          refine S_aload_n 0 dL_law_1102 rfl rfl rfl ?_
                                                          refine S_iload_n 3 dL_law_1103 rfl rfl rfl ?_
                                                          refine S_iconst (a := 3) dL_law_1104 rfl (by decide) ?_
                                                          refine S_iadd dL_law_1105 rfl ?_
                                                          refine S_ite (fun g297 => ?_) (fun _ => S_none)
                                                          refine S_sld dL_law_1106 rfl g297.1 g297.2 ?_
                                                          refine S_callV_i (as := [qi ((xs (qw (a3 + 1)).toNat).toInt), qi ((xs (qw (a3 + 2)).toNat).toInt), qi ((xs (qw (a3 + 3)).toNat).toInt)]) (st := []) (fun _ => rfl) (TX9_without ((xs (qw (a3 + 1)).toNat).toInt) ((xs (qw (a3 + 2)).toNat).toInt) ((xs (qw (a3 + 3)).toNat).toInt) h) yv_X9_without tw_1090 qC_9 qk_0 (by decide) rfl rfl (Nat.le_of_ble_eq_true rfl) dL_law_1107 rfl (fun r298 h299 e300 => ?_)
                                                          refine S_aload_n 2 dL_law_1110 rfl rfl rfl ?_
                                                          refine S_aload_n 0 dL_law_1111 rfl rfl rfl ?_
                                                          refine S_iload_n 3 dL_law_1112 rfl rfl rfl ?_
                                                          refine S_iconst (a := 1) dL_law_1113 rfl (by decide) ?_
                                                          refine S_iadd dL_law_1114 rfl ?_
                                                          refine S_ite (fun g301 => ?_) (fun _ => S_none)
                                                          refine S_sld dL_law_1115 rfl g301.1 g301.2 ?_
                                                          refine S_aload_n 0 dL_law_1116 rfl rfl rfl ?_
                                                          refine S_iload_n 3 dL_law_1117 rfl rfl rfl ?_
                                                          refine S_iconst (a := 2) dL_law_1118 rfl (by decide) ?_
                                                          refine S_iadd dL_law_1119 rfl ?_
                                                          refine S_ite (fun g302 => ?_) (fun _ => S_none)
                                                          refine S_sld dL_law_1120 rfl g302.1 g302.2 ?_
                                                          refine S_aload_n 0 dL_law_1121 rfl rfl rfl ?_
                                                          refine S_iload_n 3 dL_law_1122 rfl rfl rfl ?_
                                                          refine S_iconst (a := 3) dL_law_1123 rfl (by decide) ?_
                                                          refine S_iadd dL_law_1124 rfl ?_
                                                          refine S_ite (fun g303 => ?_) (fun _ => S_none)
                                                          refine S_sld dL_law_1125 rfl g303.1 g303.2 ?_
                                                          refine S_callV_i (as := [qi ((xs (qw (a3 + 1)).toNat).toInt), qi ((xs (qw (a3 + 2)).toNat).toInt), qi ((xs (qw (a3 + 3)).toNat).toInt)]) (st := [qi r298]) (fun _ => rfl) (TX10_without ((xs (qw (a3 + 1)).toNat).toInt) ((xs (qw (a3 + 2)).toNat).toInt) ((xs (qw (a3 + 3)).toNat).toInt) h299) yv_X10_without tw_1750 qC_10 qk_212 (by decide) rfl rfl (Nat.le_of_ble_eq_true rfl) dL_law_1126 rfl (fun r304 h305 e306 => ?_)
                                                          refine S_icmp_eq (tgt := 1621) dL_law_1129 (by decide) rfl (fun _ => ?_) (fun _ => ?_)
                                                          · refine S_iinc (lv' := [(3, qi (qw (a3 + 6))), (0, qr 227), (1, qr 0), (2, qr 212)]) 3 dL_law_1621 rfl (by decide) rfl rfl ?_
                                                            refine S_goto (pc' := 18) dL_law_1624 (by decide) ?_
                                                            refine S_sub [1, 2, 3, 0] rfl ?_
                                                            exact ih (qw (a3 + 6)) h305
                                                          · refine S_iconst (a := 0) dL_law_1132 rfl (by decide) ?_
                                                            exact S_zretl (by decide) dL_law_1133
                                                        · refine S_ite (fun g307 => ?_) (fun g307 => ?_)
                                                          · refine S_tabIn (a0 := 26) (off := 1101) (pc' := 1134) dL_law_33 g307 (by decide) (by decide) rfl (by decide) ?_
                                                            refine S_aload_n 1 dL_law_1134 rfl rfl rfl ?_
                                                            refine S_aload_n 0 dL_law_1135 rfl rfl rfl ?_
                                                            refine S_iload_n 3 dL_law_1136 rfl rfl rfl ?_
                                                            refine S_iconst (a := 1) dL_law_1137 rfl (by decide) ?_
                                                            refine S_iadd dL_law_1138 rfl ?_
                                                            refine S_ite (fun g308 => ?_) (fun _ => S_none)
                                                            refine S_sld dL_law_1139 rfl g308.1 g308.2 ?_
                                                            refine S_aload_n 0 dL_law_1140 rfl rfl rfl ?_
                                                            refine S_iload_n 3 dL_law_1141 rfl rfl rfl ?_
                                                            refine S_iconst (a := 2) dL_law_1142 rfl (by decide) ?_
                                                            refine S_iadd dL_law_1143 rfl ?_
                                                            refine S_ite (fun g309 => ?_) (fun _ => S_none)
                                                            refine S_sld dL_law_1144 rfl g309.1 g309.2 ?_
                                                            refine S_callV_i (as := [qi ((xs (qw (a3 + 1)).toNat).toInt), qi ((xs (qw (a3 + 2)).toNat).toInt)]) (st := []) (fun _ => rfl) (TX9_catches ((xs (qw (a3 + 1)).toNat).toInt) ((xs (qw (a3 + 2)).toNat).toInt) h) yv_X9_catches tw_1094 qC_9 qk_0 (by decide) rfl rfl (Nat.le_of_ble_eq_true rfl) dL_law_1145 rfl (fun r310 h311 e312 => ?_)
                                                            refine S_aload_n 2 dL_law_1148 rfl rfl rfl ?_
                                                            refine S_aload_n 0 dL_law_1149 rfl rfl rfl ?_
                                                            refine S_iload_n 3 dL_law_1150 rfl rfl rfl ?_
                                                            refine S_iconst (a := 1) dL_law_1151 rfl (by decide) ?_
                                                            refine S_iadd dL_law_1152 rfl ?_
                                                            refine S_ite (fun g313 => ?_) (fun _ => S_none)
                                                            refine S_sld dL_law_1153 rfl g313.1 g313.2 ?_
                                                            refine S_aload_n 0 dL_law_1154 rfl rfl rfl ?_
                                                            refine S_iload_n 3 dL_law_1155 rfl rfl rfl ?_
                                                            refine S_iconst (a := 2) dL_law_1156 rfl (by decide) ?_
                                                            refine S_iadd dL_law_1157 rfl ?_
                                                            refine S_ite (fun g314 => ?_) (fun _ => S_none)
                                                            refine S_sld dL_law_1158 rfl g314.1 g314.2 ?_
                                                            refine S_callV_i (as := [qi ((xs (qw (a3 + 1)).toNat).toInt), qi ((xs (qw (a3 + 2)).toNat).toInt)]) (st := [qi r310]) (fun _ => rfl) (TX10_catches ((xs (qw (a3 + 1)).toNat).toInt) ((xs (qw (a3 + 2)).toNat).toInt) h311) yv_X10_catches tw_1754 qC_10 qk_212 (by decide) rfl rfl (Nat.le_of_ble_eq_true rfl) dL_law_1159 rfl (fun r315 h316 e317 => ?_)
                                                            refine S_icmp_eq (tgt := 1621) dL_law_1162 (by decide) rfl (fun _ => ?_) (fun _ => ?_)
                                                            · refine S_iinc (lv' := [(3, qi (qw (a3 + 6))), (0, qr 227), (1, qr 0), (2, qr 212)]) 3 dL_law_1621 rfl (by decide) rfl rfl ?_
                                                              refine S_goto (pc' := 18) dL_law_1624 (by decide) ?_
                                                              refine S_sub [1, 2, 3, 0] rfl ?_
                                                              exact ih (qw (a3 + 6)) h316
                                                            · refine S_iconst (a := 0) dL_law_1165 rfl (by decide) ?_
                                                              exact S_zretl (by decide) dL_law_1166
                                                          · refine S_ite (fun g318 => ?_) (fun g318 => ?_)
                                                            · refine S_tabIn (a0 := 27) (off := 1134) (pc' := 1167) dL_law_33 g318 (by decide) (by decide) rfl (by decide) ?_
                                                              refine S_aload_n 1 dL_law_1167 rfl rfl rfl ?_
                                                              refine S_aload_n 0 dL_law_1168 rfl rfl rfl ?_
                                                              refine S_iload_n 3 dL_law_1169 rfl rfl rfl ?_
                                                              refine S_iconst (a := 1) dL_law_1170 rfl (by decide) ?_
                                                              refine S_iadd dL_law_1171 rfl ?_
                                                              refine S_ite (fun g319 => ?_) (fun _ => S_none)
                                                              refine S_sld dL_law_1172 rfl g319.1 g319.2 ?_
                                                              refine S_aload_n 0 dL_law_1173 rfl rfl rfl ?_
                                                              refine S_iload_n 3 dL_law_1174 rfl rfl rfl ?_
                                                              refine S_iconst (a := 2) dL_law_1175 rfl (by decide) ?_
                                                              refine S_iadd dL_law_1176 rfl ?_
                                                              refine S_ite (fun g320 => ?_) (fun _ => S_none)
                                                              refine S_sld dL_law_1177 rfl g320.1 g320.2 ?_
                                                              refine S_callV_i (as := [qi ((xs (qw (a3 + 1)).toNat).toInt), qi ((xs (qw (a3 + 2)).toNat).toInt)]) (st := []) (fun _ => rfl) (TX9_net ((xs (qw (a3 + 1)).toNat).toInt) ((xs (qw (a3 + 2)).toNat).toInt) h) yv_X9_net tw_1110 qC_9 qk_0 (by decide) rfl rfl (Nat.le_of_ble_eq_true rfl) dL_law_1178 rfl (fun r321 h322 e323 => ?_)
                                                              refine S_aload_n 2 dL_law_1181 rfl rfl rfl ?_
                                                              refine S_aload_n 0 dL_law_1182 rfl rfl rfl ?_
                                                              refine S_iload_n 3 dL_law_1183 rfl rfl rfl ?_
                                                              refine S_iconst (a := 1) dL_law_1184 rfl (by decide) ?_
                                                              refine S_iadd dL_law_1185 rfl ?_
                                                              refine S_ite (fun g324 => ?_) (fun _ => S_none)
                                                              refine S_sld dL_law_1186 rfl g324.1 g324.2 ?_
                                                              refine S_aload_n 0 dL_law_1187 rfl rfl rfl ?_
                                                              refine S_iload_n 3 dL_law_1188 rfl rfl rfl ?_
                                                              refine S_iconst (a := 2) dL_law_1189 rfl (by decide) ?_
                                                              refine S_iadd dL_law_1190 rfl ?_
                                                              refine S_ite (fun g325 => ?_) (fun _ => S_none)
                                                              refine S_sld dL_law_1191 rfl g325.1 g325.2 ?_
                                                              refine S_callV_i (as := [qi ((xs (qw (a3 + 1)).toNat).toInt), qi ((xs (qw (a3 + 2)).toNat).toInt)]) (st := [qi r321]) (fun _ => rfl) (TX10_net ((xs (qw (a3 + 1)).toNat).toInt) ((xs (qw (a3 + 2)).toNat).toInt) h322) yv_X10_net tw_1767 qC_10 qk_212 (by decide) rfl rfl (Nat.le_of_ble_eq_true rfl) dL_law_1192 rfl (fun r326 h327 e328 => ?_)
                                                              refine S_icmp_eq (tgt := 1621) dL_law_1195 (by decide) rfl (fun _ => ?_) (fun _ => ?_)
                                                              · refine S_iinc (lv' := [(3, qi (qw (a3 + 6))), (0, qr 227), (1, qr 0), (2, qr 212)]) 3 dL_law_1621 rfl (by decide) rfl rfl ?_
                                                                refine S_goto (pc' := 18) dL_law_1624 (by decide) ?_
                                                                refine S_sub [1, 2, 3, 0] rfl ?_
                                                                exact ih (qw (a3 + 6)) h327
                                                              · refine S_iconst (a := 0) dL_law_1198 rfl (by decide) ?_
                                                                exact S_zretl (by decide) dL_law_1199
                                                            · refine S_ite (fun g329 => ?_) (fun g329 => ?_)
                                                              · refine S_tabIn (a0 := 28) (off := 1167) (pc' := 1200) dL_law_33 g329 (by decide) (by decide) rfl (by decide) ?_
                                                                refine S_aload_n 1 dL_law_1200 rfl rfl rfl ?_
                                                                refine S_aload_n 0 dL_law_1201 rfl rfl rfl ?_
                                                                refine S_iload_n 3 dL_law_1202 rfl rfl rfl ?_
                                                                refine S_iconst (a := 1) dL_law_1203 rfl (by decide) ?_
                                                                refine S_iadd dL_law_1204 rfl ?_
                                                                refine S_ite (fun g330 => ?_) (fun _ => S_none)
                                                                refine S_sld dL_law_1205 rfl g330.1 g330.2 ?_
                                                                refine S_callV_l (as := [qi ((xs (qw (a3 + 1)).toNat).toInt)]) (st := []) (fun _ => rfl) (TX9_calm ((xs (qw (a3 + 1)).toNat).toInt) h) yv_X9_calm tw_1124 qC_9 qk_0 (by decide) rfl rfl (Nat.le_of_ble_eq_true rfl) dL_law_1206 rfl (fun r331 h332 e333 => ?_)
                                                                refine S_aload_n 2 dL_law_1209 rfl rfl rfl ?_
                                                                refine S_aload_n 0 dL_law_1210 rfl rfl rfl ?_
                                                                refine S_iload_n 3 dL_law_1211 rfl rfl rfl ?_
                                                                refine S_iconst (a := 1) dL_law_1212 rfl (by decide) ?_
                                                                refine S_iadd dL_law_1213 rfl ?_
                                                                refine S_ite (fun g334 => ?_) (fun _ => S_none)
                                                                refine S_sld dL_law_1214 rfl g334.1 g334.2 ?_
                                                                refine S_callV_l (as := [qi ((xs (qw (a3 + 1)).toNat).toInt)]) (st := [ql r331]) (fun _ => rfl) (TX10_calm ((xs (qw (a3 + 1)).toNat).toInt) h332) yv_X10_calm tw_1774 qC_10 qk_212 (by decide) rfl rfl (Nat.le_of_ble_eq_true rfl) dL_law_1215 rfl (fun r335 h336 e337 => ?_)
                                                                refine S_lcmp dL_law_1218 rfl ?_
                                                                refine S_if_eq (tgt := 1621) dL_law_1219 (by decide) rfl (fun _ => ?_) (fun _ => ?_)
                                                                · refine S_iinc (lv' := [(3, qi (qw (a3 + 6))), (0, qr 227), (1, qr 0), (2, qr 212)]) 3 dL_law_1621 rfl (by decide) rfl rfl ?_
                                                                  refine S_goto (pc' := 18) dL_law_1624 (by decide) ?_
                                                                  refine S_sub [1, 2, 3, 0] rfl ?_
                                                                  exact ih (qw (a3 + 6)) h336
                                                                · refine S_iconst (a := 0) dL_law_1222 rfl (by decide) ?_
                                                                  exact S_zretl (by decide) dL_law_1223
                                                              · refine S_ite (fun g338 => ?_) (fun g338 => ?_)
                                                                · refine S_tabIn (a0 := 29) (off := 1191) (pc' := 1224) dL_law_33 g338 (by decide) (by decide) rfl (by decide) ?_
                                                                  refine S_aload_n 1 dL_law_1224 rfl rfl rfl ?_
                                                                  refine S_aload_n 0 dL_law_1225 rfl rfl rfl ?_
                                                                  refine S_iload_n 3 dL_law_1226 rfl rfl rfl ?_
                                                                  refine S_iconst (a := 1) dL_law_1227 rfl (by decide) ?_
                                                                  refine S_iadd dL_law_1228 rfl ?_
                                                                  refine S_ite (fun g339 => ?_) (fun _ => S_none)
                                                                  refine S_sld dL_law_1229 rfl g339.1 g339.2 ?_
                                                                  refine S_if_eq (tgt := 1237) dL_law_1230 (by decide) rfl (fun _ => ?_) (fun _ => ?_)
                                                                  · refine S_iconst (a := 0) dL_law_1237 rfl (by decide) ?_
                                                                    exact TL_law_b1238 hL (DL_law_l18 L xs n) ih a3 0 h
                                                                  · refine S_iconst (a := 1) dL_law_1233 rfl (by decide) ?_
                                                                    refine S_goto (pc' := 1238) dL_law_1234 (by decide) ?_
                                                                    exact TL_law_b1238 hL (DL_law_l18 L xs n) ih a3 1 h
                                                                · refine S_ite (fun g340 => ?_) (fun g340 => ?_)
                                                                  · refine S_tabIn (a0 := 30) (off := 1231) (pc' := 1264) dL_law_33 g340 (by decide) (by decide) rfl (by decide) ?_
                                                                    refine S_aload_n 1 dL_law_1264 rfl rfl rfl ?_
                                                                    refine S_aload_n 0 dL_law_1265 rfl rfl rfl ?_
                                                                    refine S_iload_n 3 dL_law_1266 rfl rfl rfl ?_
                                                                    refine S_iconst (a := 1) dL_law_1267 rfl (by decide) ?_
                                                                    refine S_iadd dL_law_1268 rfl ?_
                                                                    refine S_ite (fun g341 => ?_) (fun _ => S_none)
                                                                    refine S_sld dL_law_1269 rfl g341.1 g341.2 ?_
                                                                    refine S_aload_n 0 dL_law_1270 rfl rfl rfl ?_
                                                                    refine S_iload_n 3 dL_law_1271 rfl rfl rfl ?_
                                                                    refine S_iconst (a := 2) dL_law_1272 rfl (by decide) ?_
                                                                    refine S_iadd dL_law_1273 rfl ?_
                                                                    refine S_ite (fun g342 => ?_) (fun _ => S_none)
                                                                    refine S_sld dL_law_1274 rfl g342.1 g342.2 ?_
                                                                    refine S_if_eq (tgt := 1282) dL_law_1275 (by decide) rfl (fun _ => ?_) (fun _ => ?_)
                                                                    · refine S_iconst (a := 0) dL_law_1282 rfl (by decide) ?_
                                                                      exact TL_law_b1283 hL (DL_law_l18 L xs n) ih a3 0 ((xs (qw (a3 + 1)).toNat).toInt) h
                                                                    · refine S_iconst (a := 1) dL_law_1278 rfl (by decide) ?_
                                                                      refine S_goto (pc' := 1283) dL_law_1279 (by decide) ?_
                                                                      exact TL_law_b1283 hL (DL_law_l18 L xs n) ih a3 1 ((xs (qw (a3 + 1)).toNat).toInt) h
                                                                  · refine S_ite (fun g343 => ?_) (fun g343 => ?_)
                                                                    · refine S_tabIn (a0 := 31) (off := 1280) (pc' := 1313) dL_law_33 g343 (by decide) (by decide) rfl (by decide) ?_
                                                                      refine S_aload_n 1 dL_law_1313 rfl rfl rfl ?_
                                                                      refine S_aload_n 0 dL_law_1314 rfl rfl rfl ?_
                                                                      refine S_iload_n 3 dL_law_1315 rfl rfl rfl ?_
                                                                      refine S_iconst (a := 1) dL_law_1316 rfl (by decide) ?_
                                                                      refine S_iadd dL_law_1317 rfl ?_
                                                                      refine S_ite (fun g344 => ?_) (fun _ => S_none)
                                                                      refine S_sld dL_law_1318 rfl g344.1 g344.2 ?_
                                                                      refine S_callV_i (as := [qi ((xs (qw (a3 + 1)).toNat).toInt)]) (st := []) (fun _ => rfl) (TX9_seen ((xs (qw (a3 + 1)).toNat).toInt) h) yv_X9_seen tw_1141 qC_9 qk_0 (by decide) rfl rfl (Nat.le_of_ble_eq_true rfl) dL_law_1319 rfl (fun r345 h346 e347 => ?_)
                                                                      refine S_aload_n 2 dL_law_1322 rfl rfl rfl ?_
                                                                      refine S_aload_n 0 dL_law_1323 rfl rfl rfl ?_
                                                                      refine S_iload_n 3 dL_law_1324 rfl rfl rfl ?_
                                                                      refine S_iconst (a := 1) dL_law_1325 rfl (by decide) ?_
                                                                      refine S_iadd dL_law_1326 rfl ?_
                                                                      refine S_ite (fun g348 => ?_) (fun _ => S_none)
                                                                      refine S_sld dL_law_1327 rfl g348.1 g348.2 ?_
                                                                      refine S_callV_i (as := [qi ((xs (qw (a3 + 1)).toNat).toInt)]) (st := [qi r345]) (fun _ => rfl) (TX10_seen ((xs (qw (a3 + 1)).toNat).toInt) h346) yv_X10_seen tw_1791 qC_10 qk_212 (by decide) rfl rfl (Nat.le_of_ble_eq_true rfl) dL_law_1328 rfl (fun r349 h350 e351 => ?_)
                                                                      refine S_icmp_eq (tgt := 1621) dL_law_1331 (by decide) rfl (fun _ => ?_) (fun _ => ?_)
                                                                      · refine S_iinc (lv' := [(3, qi (qw (a3 + 6))), (0, qr 227), (1, qr 0), (2, qr 212)]) 3 dL_law_1621 rfl (by decide) rfl rfl ?_
                                                                        refine S_goto (pc' := 18) dL_law_1624 (by decide) ?_
                                                                        refine S_sub [1, 2, 3, 0] rfl ?_
                                                                        exact ih (qw (a3 + 6)) h350
                                                                      · refine S_iconst (a := 0) dL_law_1334 rfl (by decide) ?_
                                                                        exact S_zretl (by decide) dL_law_1335
                                                                    · refine S_ite (fun g352 => ?_) (fun g352 => ?_)
                                                                      · refine S_tabIn (a0 := 32) (off := 1303) (pc' := 1336) dL_law_33 g352 (by decide) (by decide) rfl (by decide) ?_
                                                                        refine S_aload_n 1 dL_law_1336 rfl rfl rfl ?_
                                                                        refine S_aload_n 0 dL_law_1337 rfl rfl rfl ?_
                                                                        refine S_iload_n 3 dL_law_1338 rfl rfl rfl ?_
                                                                        refine S_iconst (a := 1) dL_law_1339 rfl (by decide) ?_
                                                                        refine S_iadd dL_law_1340 rfl ?_
                                                                        refine S_ite (fun g353 => ?_) (fun _ => S_none)
                                                                        refine S_sld dL_law_1341 rfl g353.1 g353.2 ?_
                                                                        refine S_aload_n 0 dL_law_1342 rfl rfl rfl ?_
                                                                        refine S_iload_n 3 dL_law_1343 rfl rfl rfl ?_
                                                                        refine S_iconst (a := 2) dL_law_1344 rfl (by decide) ?_
                                                                        refine S_iadd dL_law_1345 rfl ?_
                                                                        refine S_ite (fun g354 => ?_) (fun _ => S_none)
                                                                        refine S_sld dL_law_1346 rfl g354.1 g354.2 ?_
                                                                        refine S_aload_n 0 dL_law_1347 rfl rfl rfl ?_
                                                                        refine S_iload_n 3 dL_law_1348 rfl rfl rfl ?_
                                                                        refine S_iconst (a := 3) dL_law_1349 rfl (by decide) ?_
                                                                        refine S_iadd dL_law_1350 rfl ?_
                                                                        refine S_ite (fun g355 => ?_) (fun _ => S_none)
                                                                        refine S_sld dL_law_1351 rfl g355.1 g355.2 ?_
                                                                        refine S_callV_i (as := [qi ((xs (qw (a3 + 1)).toNat).toInt), qi ((xs (qw (a3 + 2)).toNat).toInt), qi ((xs (qw (a3 + 3)).toNat).toInt)]) (st := []) (fun _ => rfl) (TX9_thrower ((xs (qw (a3 + 1)).toNat).toInt) ((xs (qw (a3 + 2)).toNat).toInt) ((xs (qw (a3 + 3)).toNat).toInt) h) yv_X9_thrower tw_1167 qC_9 qk_0 (by decide) rfl rfl (Nat.le_of_ble_eq_true rfl) dL_law_1352 rfl (fun r356 h357 e358 => ?_)
                                                                        refine S_aload_n 2 dL_law_1355 rfl rfl rfl ?_
                                                                        refine S_aload_n 0 dL_law_1356 rfl rfl rfl ?_
                                                                        refine S_iload_n 3 dL_law_1357 rfl rfl rfl ?_
                                                                        refine S_iconst (a := 1) dL_law_1358 rfl (by decide) ?_
                                                                        refine S_iadd dL_law_1359 rfl ?_
                                                                        refine S_ite (fun g359 => ?_) (fun _ => S_none)
                                                                        refine S_sld dL_law_1360 rfl g359.1 g359.2 ?_
                                                                        refine S_aload_n 0 dL_law_1361 rfl rfl rfl ?_
                                                                        refine S_iload_n 3 dL_law_1362 rfl rfl rfl ?_
                                                                        refine S_iconst (a := 2) dL_law_1363 rfl (by decide) ?_
                                                                        refine S_iadd dL_law_1364 rfl ?_
                                                                        refine S_ite (fun g360 => ?_) (fun _ => S_none)
                                                                        refine S_sld dL_law_1365 rfl g360.1 g360.2 ?_
                                                                        refine S_aload_n 0 dL_law_1366 rfl rfl rfl ?_
                                                                        refine S_iload_n 3 dL_law_1367 rfl rfl rfl ?_
                                                                        refine S_iconst (a := 3) dL_law_1368 rfl (by decide) ?_
                                                                        refine S_iadd dL_law_1369 rfl ?_
                                                                        refine S_ite (fun g361 => ?_) (fun _ => S_none)
                                                                        refine S_sld dL_law_1370 rfl g361.1 g361.2 ?_
                                                                        refine S_callV_i (as := [qi ((xs (qw (a3 + 1)).toNat).toInt), qi ((xs (qw (a3 + 2)).toNat).toInt), qi ((xs (qw (a3 + 3)).toNat).toInt)]) (st := [qi r356]) (fun _ => rfl) (TX10_thrower ((xs (qw (a3 + 1)).toNat).toInt) ((xs (qw (a3 + 2)).toNat).toInt) ((xs (qw (a3 + 3)).toNat).toInt) h357) yv_X10_thrower tw_1812 qC_10 qk_212 (by decide) rfl rfl (Nat.le_of_ble_eq_true rfl) dL_law_1371 rfl (fun r362 h363 e364 => ?_)
                                                                        refine S_icmp_eq (tgt := 1621) dL_law_1374 (by decide) rfl (fun _ => ?_) (fun _ => ?_)
                                                                        · refine S_iinc (lv' := [(3, qi (qw (a3 + 6))), (0, qr 227), (1, qr 0), (2, qr 212)]) 3 dL_law_1621 rfl (by decide) rfl rfl ?_
                                                                          refine S_goto (pc' := 18) dL_law_1624 (by decide) ?_
                                                                          refine S_sub [1, 2, 3, 0] rfl ?_
                                                                          exact ih (qw (a3 + 6)) h363
                                                                        · refine S_iconst (a := 0) dL_law_1377 rfl (by decide) ?_
                                                                          exact S_zretl (by decide) dL_law_1378
                                                                      · refine S_ite (fun g365 => ?_) (fun g365 => ?_)
                                                                        · refine S_tabIn (a0 := 33) (off := 1346) (pc' := 1379) dL_law_33 g365 (by decide) (by decide) rfl (by decide) ?_
                                                                          refine S_aload_n 1 dL_law_1379 rfl rfl rfl ?_
                                                                          refine S_aload_n 0 dL_law_1380 rfl rfl rfl ?_
                                                                          refine S_iload_n 3 dL_law_1381 rfl rfl rfl ?_
                                                                          refine S_iconst (a := 1) dL_law_1382 rfl (by decide) ?_
                                                                          refine S_iadd dL_law_1383 rfl ?_
                                                                          refine S_ite (fun g366 => ?_) (fun _ => S_none)
                                                                          refine S_sld dL_law_1384 rfl g366.1 g366.2 ?_
                                                                          refine S_callV_i (as := [qi ((xs (qw (a3 + 1)).toNat).toInt)]) (st := []) (fun _ => rfl) (TX9_suspects ((xs (qw (a3 + 1)).toNat).toInt) h) yv_X9_suspects tw_1171 qC_9 qk_0 (by decide) rfl rfl (Nat.le_of_ble_eq_true rfl) dL_law_1385 rfl (fun r367 h368 e369 => ?_)
                                                                          refine S_aload_n 2 dL_law_1388 rfl rfl rfl ?_
                                                                          refine S_aload_n 0 dL_law_1389 rfl rfl rfl ?_
                                                                          refine S_iload_n 3 dL_law_1390 rfl rfl rfl ?_
                                                                          refine S_iconst (a := 1) dL_law_1391 rfl (by decide) ?_
                                                                          refine S_iadd dL_law_1392 rfl ?_
                                                                          refine S_ite (fun g370 => ?_) (fun _ => S_none)
                                                                          refine S_sld dL_law_1393 rfl g370.1 g370.2 ?_
                                                                          refine S_callV_i (as := [qi ((xs (qw (a3 + 1)).toNat).toInt)]) (st := [qi r367]) (fun _ => rfl) (TX10_suspects ((xs (qw (a3 + 1)).toNat).toInt) h368) yv_X10_suspects tw_1816 qC_10 qk_212 (by decide) rfl rfl (Nat.le_of_ble_eq_true rfl) dL_law_1394 rfl (fun r371 h372 e373 => ?_)
                                                                          refine S_icmp_eq (tgt := 1621) dL_law_1397 (by decide) rfl (fun _ => ?_) (fun _ => ?_)
                                                                          · refine S_iinc (lv' := [(3, qi (qw (a3 + 6))), (0, qr 227), (1, qr 0), (2, qr 212)]) 3 dL_law_1621 rfl (by decide) rfl rfl ?_
                                                                            refine S_goto (pc' := 18) dL_law_1624 (by decide) ?_
                                                                            refine S_sub [1, 2, 3, 0] rfl ?_
                                                                            exact ih (qw (a3 + 6)) h372
                                                                          · refine S_iconst (a := 0) dL_law_1400 rfl (by decide) ?_
                                                                            exact S_zretl (by decide) dL_law_1401
                                                                        · refine S_ite (fun g374 => ?_) (fun g374 => ?_)
                                                                          · refine S_tabIn (a0 := 34) (off := 1369) (pc' := 1402) dL_law_33 g374 (by decide) (by decide) rfl (by decide) ?_
                                                                            refine S_aload_n 1 dL_law_1402 rfl rfl rfl ?_
                                                                            refine S_aload_n 0 dL_law_1403 rfl rfl rfl ?_
                                                                            refine S_iload_n 3 dL_law_1404 rfl rfl rfl ?_
                                                                            refine S_iconst (a := 1) dL_law_1405 rfl (by decide) ?_
                                                                            refine S_iadd dL_law_1406 rfl ?_
                                                                            refine S_ite (fun g375 => ?_) (fun _ => S_none)
                                                                            refine S_sld dL_law_1407 rfl g375.1 g375.2 ?_
                                                                            refine S_aload_n 0 dL_law_1408 rfl rfl rfl ?_
                                                                            refine S_iload_n 3 dL_law_1409 rfl rfl rfl ?_
                                                                            refine S_iconst (a := 2) dL_law_1410 rfl (by decide) ?_
                                                                            refine S_iadd dL_law_1411 rfl ?_
                                                                            refine S_ite (fun g376 => ?_) (fun _ => S_none)
                                                                            refine S_sld dL_law_1412 rfl g376.1 g376.2 ?_
                                                                            refine S_aload_n 0 dL_law_1413 rfl rfl rfl ?_
                                                                            refine S_iload_n 3 dL_law_1414 rfl rfl rfl ?_
                                                                            refine S_iconst (a := 3) dL_law_1415 rfl (by decide) ?_
                                                                            refine S_iadd dL_law_1416 rfl ?_
                                                                            refine S_ite (fun g377 => ?_) (fun _ => S_none)
                                                                            refine S_sld dL_law_1417 rfl g377.1 g377.2 ?_
                                                                            refine S_callV_i (as := [qi ((xs (qw (a3 + 1)).toNat).toInt), qi ((xs (qw (a3 + 2)).toNat).toInt), qi ((xs (qw (a3 + 3)).toNat).toInt)]) (st := []) (fun _ => rfl) (TX9_numbers ((xs (qw (a3 + 1)).toNat).toInt) ((xs (qw (a3 + 2)).toNat).toInt) ((xs (qw (a3 + 3)).toNat).toInt) h) yv_X9_numbers tw_1175 qC_9 qk_0 (by decide) rfl rfl (Nat.le_of_ble_eq_true rfl) dL_law_1418 rfl (fun r378 h379 e380 => ?_)
                                                                            refine S_aload_n 2 dL_law_1421 rfl rfl rfl ?_
                                                                            refine S_aload_n 0 dL_law_1422 rfl rfl rfl ?_
                                                                            refine S_iload_n 3 dL_law_1423 rfl rfl rfl ?_
                                                                            refine S_iconst (a := 1) dL_law_1424 rfl (by decide) ?_
                                                                            refine S_iadd dL_law_1425 rfl ?_
                                                                            refine S_ite (fun g381 => ?_) (fun _ => S_none)
                                                                            refine S_sld dL_law_1426 rfl g381.1 g381.2 ?_
                                                                            refine S_aload_n 0 dL_law_1427 rfl rfl rfl ?_
                                                                            refine S_iload_n 3 dL_law_1428 rfl rfl rfl ?_
                                                                            refine S_iconst (a := 2) dL_law_1429 rfl (by decide) ?_
                                                                            refine S_iadd dL_law_1430 rfl ?_
                                                                            refine S_ite (fun g382 => ?_) (fun _ => S_none)
                                                                            refine S_sld dL_law_1431 rfl g382.1 g382.2 ?_
                                                                            refine S_aload_n 0 dL_law_1432 rfl rfl rfl ?_
                                                                            refine S_iload_n 3 dL_law_1433 rfl rfl rfl ?_
                                                                            refine S_iconst (a := 3) dL_law_1434 rfl (by decide) ?_
                                                                            refine S_iadd dL_law_1435 rfl ?_
                                                                            refine S_ite (fun g383 => ?_) (fun _ => S_none)
                                                                            refine S_sld dL_law_1436 rfl g383.1 g383.2 ?_
                                                                            refine S_callV_i (as := [qi ((xs (qw (a3 + 1)).toNat).toInt), qi ((xs (qw (a3 + 2)).toNat).toInt), qi ((xs (qw (a3 + 3)).toNat).toInt)]) (st := [qi r378]) (fun _ => rfl) (TX10_numbers ((xs (qw (a3 + 1)).toNat).toInt) ((xs (qw (a3 + 2)).toNat).toInt) ((xs (qw (a3 + 3)).toNat).toInt) h379) yv_X10_numbers tw_1820 qC_10 qk_212 (by decide) rfl rfl (Nat.le_of_ble_eq_true rfl) dL_law_1437 rfl (fun r384 h385 e386 => ?_)
                                                                            refine S_icmp_eq (tgt := 1621) dL_law_1440 (by decide) rfl (fun _ => ?_) (fun _ => ?_)
                                                                            · refine S_iinc (lv' := [(3, qi (qw (a3 + 6))), (0, qr 227), (1, qr 0), (2, qr 212)]) 3 dL_law_1621 rfl (by decide) rfl rfl ?_
                                                                              refine S_goto (pc' := 18) dL_law_1624 (by decide) ?_
                                                                              refine S_sub [1, 2, 3, 0] rfl ?_
                                                                              exact ih (qw (a3 + 6)) h385
                                                                            · refine S_iconst (a := 0) dL_law_1443 rfl (by decide) ?_
                                                                              exact S_zretl (by decide) dL_law_1444
                                                                          · refine S_ite (fun g387 => ?_) (fun g387 => ?_)
                                                                            · refine S_tabIn (a0 := 35) (off := 1412) (pc' := 1445) dL_law_33 g387 (by decide) (by decide) rfl (by decide) ?_
                                                                              refine S_aload_n 1 dL_law_1445 rfl rfl rfl ?_
                                                                              refine S_aload_n 0 dL_law_1446 rfl rfl rfl ?_
                                                                              refine S_iload_n 3 dL_law_1447 rfl rfl rfl ?_
                                                                              refine S_iconst (a := 1) dL_law_1448 rfl (by decide) ?_
                                                                              refine S_iadd dL_law_1449 rfl ?_
                                                                              refine S_ite (fun g388 => ?_) (fun _ => S_none)
                                                                              refine S_sld dL_law_1450 rfl g388.1 g388.2 ?_
                                                                              refine S_aload_n 0 dL_law_1451 rfl rfl rfl ?_
                                                                              refine S_iload_n 3 dL_law_1452 rfl rfl rfl ?_
                                                                              refine S_iconst (a := 2) dL_law_1453 rfl (by decide) ?_
                                                                              refine S_iadd dL_law_1454 rfl ?_
                                                                              refine S_ite (fun g389 => ?_) (fun _ => S_none)
                                                                              refine S_sld dL_law_1455 rfl g389.1 g389.2 ?_
                                                                              refine S_aload_n 0 dL_law_1456 rfl rfl rfl ?_
                                                                              refine S_iload_n 3 dL_law_1457 rfl rfl rfl ?_
                                                                              refine S_iconst (a := 3) dL_law_1458 rfl (by decide) ?_
                                                                              refine S_iadd dL_law_1459 rfl ?_
                                                                              refine S_ite (fun g390 => ?_) (fun _ => S_none)
                                                                              refine S_sld dL_law_1460 rfl g390.1 g390.2 ?_
                                                                              refine S_i2l dL_law_1461 rfl ?_
                                                                              refine S_bipush (a := 32) dL_law_1462 rfl (by decide) (by decide) ?_
                                                                              refine S_lshl dL_law_1464 rfl ?_
                                                                              refine S_aload_n 0 dL_law_1465 rfl rfl rfl ?_
                                                                              refine S_iload_n 3 dL_law_1466 rfl rfl rfl ?_
                                                                              refine S_iconst (a := 4) dL_law_1467 rfl (by decide) ?_
                                                                              refine S_iadd dL_law_1468 rfl ?_
                                                                              refine S_ite (fun g391 => ?_) (fun _ => S_none)
                                                                              refine S_sld dL_law_1469 rfl g391.1 g391.2 ?_
                                                                              refine S_i2l dL_law_1470 rfl ?_
                                                                              refine S_ldc2 (a := 4294967295) dL_law_1471 rfl (by rw [show Int64.ofInt 4294967295 = (4294967295 : Int64) from by decide]; exact tw_1852) (by decide) ?_
                                                                              refine S_land dL_law_1474 rfl ?_
                                                                              refine S_lor dL_law_1475 rfl ?_
                                                                              refine S_callV_l (as := [qi ((xs (qw (a3 + 1)).toNat).toInt), qi ((xs (qw (a3 + 2)).toNat).toInt), ql (qorl (qshll ((xs (qw (a3 + 3)).toNat).toInt) 32) (qandl ((xs (qw (a3 + 4)).toNat).toInt) 4294967295))]) (st := []) (fun _ => rfl) (TX9_write ((xs (qw (a3 + 1)).toNat).toInt) ((xs (qw (a3 + 2)).toNat).toInt) (qorl (qshll ((xs (qw (a3 + 3)).toNat).toInt) 32) (qandl ((xs (qw (a3 + 4)).toNat).toInt) 4294967295)) h) yv_X9_write tw_1186 qC_9 qk_0 (by decide) rfl rfl (Nat.le_of_ble_eq_true rfl) dL_law_1476 rfl (fun r392 h393 e394 => ?_)
                                                                              refine S_aload_n 2 dL_law_1479 rfl rfl rfl ?_
                                                                              refine S_aload_n 0 dL_law_1480 rfl rfl rfl ?_
                                                                              refine S_iload_n 3 dL_law_1481 rfl rfl rfl ?_
                                                                              refine S_iconst (a := 1) dL_law_1482 rfl (by decide) ?_
                                                                              refine S_iadd dL_law_1483 rfl ?_
                                                                              refine S_ite (fun g395 => ?_) (fun _ => S_none)
                                                                              refine S_sld dL_law_1484 rfl g395.1 g395.2 ?_
                                                                              refine S_aload_n 0 dL_law_1485 rfl rfl rfl ?_
                                                                              refine S_iload_n 3 dL_law_1486 rfl rfl rfl ?_
                                                                              refine S_iconst (a := 2) dL_law_1487 rfl (by decide) ?_
                                                                              refine S_iadd dL_law_1488 rfl ?_
                                                                              refine S_ite (fun g396 => ?_) (fun _ => S_none)
                                                                              refine S_sld dL_law_1489 rfl g396.1 g396.2 ?_
                                                                              refine S_aload_n 0 dL_law_1490 rfl rfl rfl ?_
                                                                              refine S_iload_n 3 dL_law_1491 rfl rfl rfl ?_
                                                                              refine S_iconst (a := 3) dL_law_1492 rfl (by decide) ?_
                                                                              refine S_iadd dL_law_1493 rfl ?_
                                                                              refine S_ite (fun g397 => ?_) (fun _ => S_none)
                                                                              refine S_sld dL_law_1494 rfl g397.1 g397.2 ?_
                                                                              refine S_i2l dL_law_1495 rfl ?_
                                                                              refine S_bipush (a := 32) dL_law_1496 rfl (by decide) (by decide) ?_
                                                                              refine S_lshl dL_law_1498 rfl ?_
                                                                              refine S_aload_n 0 dL_law_1499 rfl rfl rfl ?_
                                                                              refine S_iload_n 3 dL_law_1500 rfl rfl rfl ?_
                                                                              refine S_iconst (a := 4) dL_law_1501 rfl (by decide) ?_
                                                                              refine S_iadd dL_law_1502 rfl ?_
                                                                              refine S_ite (fun g398 => ?_) (fun _ => S_none)
                                                                              refine S_sld dL_law_1503 rfl g398.1 g398.2 ?_
                                                                              refine S_i2l dL_law_1504 rfl ?_
                                                                              refine S_ldc2 (a := 4294967295) dL_law_1505 rfl (by rw [show Int64.ofInt 4294967295 = (4294967295 : Int64) from by decide]; exact tw_1852) (by decide) ?_
                                                                              refine S_land dL_law_1508 rfl ?_
                                                                              refine S_lor dL_law_1509 rfl ?_
                                                                              refine S_callV_l (as := [qi ((xs (qw (a3 + 1)).toNat).toInt), qi ((xs (qw (a3 + 2)).toNat).toInt), ql (qorl (qshll ((xs (qw (a3 + 3)).toNat).toInt) 32) (qandl ((xs (qw (a3 + 4)).toNat).toInt) 4294967295))]) (st := [ql r392]) (fun _ => rfl) (TX10_write ((xs (qw (a3 + 1)).toNat).toInt) ((xs (qw (a3 + 2)).toNat).toInt) (qorl (qshll ((xs (qw (a3 + 3)).toNat).toInt) 32) (qandl ((xs (qw (a3 + 4)).toNat).toInt) 4294967295)) h393) yv_X10_write tw_1824 qC_10 qk_212 (by decide) rfl rfl (Nat.le_of_ble_eq_true rfl) dL_law_1510 rfl (fun r399 h400 e401 => ?_)
                                                                              refine S_lcmp dL_law_1513 rfl ?_
                                                                              refine S_if_eq (tgt := 1621) dL_law_1514 (by decide) rfl (fun _ => ?_) (fun _ => ?_)
                                                                              · refine S_iinc (lv' := [(3, qi (qw (a3 + 6))), (0, qr 227), (1, qr 0), (2, qr 212)]) 3 dL_law_1621 rfl (by decide) rfl rfl ?_
                                                                                refine S_goto (pc' := 18) dL_law_1624 (by decide) ?_
                                                                                refine S_sub [1, 2, 3, 0] rfl ?_
                                                                                exact ih (qw (a3 + 6)) h400
                                                                              · refine S_iconst (a := 0) dL_law_1517 rfl (by decide) ?_
                                                                                exact S_zretl (by decide) dL_law_1518
                                                                            · refine S_ite (fun g402 => ?_) (fun g402 => ?_)
                                                                              · refine S_tabIn (a0 := 36) (off := 1486) (pc' := 1519) dL_law_33 g402 (by decide) (by decide) rfl (by decide) ?_
                                                                                refine S_aload_n 1 dL_law_1519 rfl rfl rfl ?_
                                                                                refine S_aload_n 0 dL_law_1520 rfl rfl rfl ?_
                                                                                refine S_iload_n 3 dL_law_1521 rfl rfl rfl ?_
                                                                                refine S_iconst (a := 1) dL_law_1522 rfl (by decide) ?_
                                                                                refine S_iadd dL_law_1523 rfl ?_
                                                                                refine S_ite (fun g403 => ?_) (fun _ => S_none)
                                                                                refine S_sld dL_law_1524 rfl g403.1 g403.2 ?_
                                                                                refine S_aload_n 0 dL_law_1525 rfl rfl rfl ?_
                                                                                refine S_iload_n 3 dL_law_1526 rfl rfl rfl ?_
                                                                                refine S_iconst (a := 2) dL_law_1527 rfl (by decide) ?_
                                                                                refine S_iadd dL_law_1528 rfl ?_
                                                                                refine S_ite (fun g404 => ?_) (fun _ => S_none)
                                                                                refine S_sld dL_law_1529 rfl g404.1 g404.2 ?_
                                                                                refine S_callV_i (as := [qi ((xs (qw (a3 + 1)).toNat).toInt), qi ((xs (qw (a3 + 2)).toNat).toInt)]) (st := []) (fun _ => rfl) (TX9_lists ((xs (qw (a3 + 1)).toNat).toInt) ((xs (qw (a3 + 2)).toNat).toInt) h) yv_X9_lists tw_1201 qC_9 qk_0 (by decide) rfl rfl (Nat.le_of_ble_eq_true rfl) dL_law_1530 rfl (fun r405 h406 e407 => ?_)
                                                                                refine S_aload_n 2 dL_law_1533 rfl rfl rfl ?_
                                                                                refine S_aload_n 0 dL_law_1534 rfl rfl rfl ?_
                                                                                refine S_iload_n 3 dL_law_1535 rfl rfl rfl ?_
                                                                                refine S_iconst (a := 1) dL_law_1536 rfl (by decide) ?_
                                                                                refine S_iadd dL_law_1537 rfl ?_
                                                                                refine S_ite (fun g408 => ?_) (fun _ => S_none)
                                                                                refine S_sld dL_law_1538 rfl g408.1 g408.2 ?_
                                                                                refine S_aload_n 0 dL_law_1539 rfl rfl rfl ?_
                                                                                refine S_iload_n 3 dL_law_1540 rfl rfl rfl ?_
                                                                                refine S_iconst (a := 2) dL_law_1541 rfl (by decide) ?_
                                                                                refine S_iadd dL_law_1542 rfl ?_
                                                                                refine S_ite (fun g409 => ?_) (fun _ => S_none)
                                                                                refine S_sld dL_law_1543 rfl g409.1 g409.2 ?_
                                                                                refine S_callV_i (as := [qi ((xs (qw (a3 + 1)).toNat).toInt), qi ((xs (qw (a3 + 2)).toNat).toInt)]) (st := [qi r405]) (fun _ => rfl) (TX10_lists ((xs (qw (a3 + 1)).toNat).toInt) ((xs (qw (a3 + 2)).toNat).toInt) h406) yv_X10_lists tw_1832 qC_10 qk_212 (by decide) rfl rfl (Nat.le_of_ble_eq_true rfl) dL_law_1544 rfl (fun r410 h411 e412 => ?_)
                                                                                refine S_icmp_eq (tgt := 1621) dL_law_1547 (by decide) rfl (fun _ => ?_) (fun _ => ?_)
                                                                                · refine S_iinc (lv' := [(3, qi (qw (a3 + 6))), (0, qr 227), (1, qr 0), (2, qr 212)]) 3 dL_law_1621 rfl (by decide) rfl rfl ?_
                                                                                  refine S_goto (pc' := 18) dL_law_1624 (by decide) ?_
                                                                                  refine S_sub [1, 2, 3, 0] rfl ?_
                                                                                  exact ih (qw (a3 + 6)) h411
                                                                                · refine S_iconst (a := 0) dL_law_1550 rfl (by decide) ?_
                                                                                  exact S_zretl (by decide) dL_law_1551
                                                                              · refine S_ite (fun g413 => ?_) (fun g413 => ?_)
                                                                                · refine S_tabIn (a0 := 37) (off := 1519) (pc' := 1552) dL_law_33 g413 (by decide) (by decide) rfl (by decide) ?_
                                                                                  refine S_aload_n 1 dL_law_1552 rfl rfl rfl ?_
                                                                                  refine S_aload_n 0 dL_law_1553 rfl rfl rfl ?_
                                                                                  refine S_iload_n 3 dL_law_1554 rfl rfl rfl ?_
                                                                                  refine S_iconst (a := 1) dL_law_1555 rfl (by decide) ?_
                                                                                  refine S_iadd dL_law_1556 rfl ?_
                                                                                  refine S_ite (fun g414 => ?_) (fun _ => S_none)
                                                                                  refine S_sld dL_law_1557 rfl g414.1 g414.2 ?_
                                                                                  refine S_callV_i (as := [qi ((xs (qw (a3 + 1)).toNat).toInt)]) (st := []) (fun _ => rfl) (TX9_image ((xs (qw (a3 + 1)).toNat).toInt) h) yv_X9_image tw_1205 qC_9 qk_0 (by decide) rfl rfl (Nat.le_of_ble_eq_true rfl) dL_law_1558 rfl (fun r415 h416 e417 => ?_)
                                                                                  refine S_aload_n 2 dL_law_1561 rfl rfl rfl ?_
                                                                                  refine S_aload_n 0 dL_law_1562 rfl rfl rfl ?_
                                                                                  refine S_iload_n 3 dL_law_1563 rfl rfl rfl ?_
                                                                                  refine S_iconst (a := 1) dL_law_1564 rfl (by decide) ?_
                                                                                  refine S_iadd dL_law_1565 rfl ?_
                                                                                  refine S_ite (fun g418 => ?_) (fun _ => S_none)
                                                                                  refine S_sld dL_law_1566 rfl g418.1 g418.2 ?_
                                                                                  refine S_callV_i (as := [qi ((xs (qw (a3 + 1)).toNat).toInt)]) (st := [qi r415]) (fun _ => rfl) (TX10_image ((xs (qw (a3 + 1)).toNat).toInt) h416) yv_X10_image tw_1836 qC_10 qk_212 (by decide) rfl rfl (Nat.le_of_ble_eq_true rfl) dL_law_1567 rfl (fun r419 h420 e421 => ?_)
                                                                                  refine S_icmp_eq (tgt := 1621) dL_law_1570 (by decide) rfl (fun _ => ?_) (fun _ => ?_)
                                                                                  · refine S_iinc (lv' := [(3, qi (qw (a3 + 6))), (0, qr 227), (1, qr 0), (2, qr 212)]) 3 dL_law_1621 rfl (by decide) rfl rfl ?_
                                                                                    refine S_goto (pc' := 18) dL_law_1624 (by decide) ?_
                                                                                    refine S_sub [1, 2, 3, 0] rfl ?_
                                                                                    exact ih (qw (a3 + 6)) h420
                                                                                  · refine S_iconst (a := 0) dL_law_1573 rfl (by decide) ?_
                                                                                    exact S_zretl (by decide) dL_law_1574
                                                                                · refine S_ite (fun g422 => ?_) (fun g422 => ?_)
                                                                                  · refine S_tabIn (a0 := 38) (off := 1542) (pc' := 1575) dL_law_33 g422 (by decide) (by decide) rfl (by decide) ?_
                                                                                    refine S_aload_n 1 dL_law_1575 rfl rfl rfl ?_
                                                                                    refine S_aload_n 0 dL_law_1576 rfl rfl rfl ?_
                                                                                    refine S_iload_n 3 dL_law_1577 rfl rfl rfl ?_
                                                                                    refine S_iconst (a := 1) dL_law_1578 rfl (by decide) ?_
                                                                                    refine S_iadd dL_law_1579 rfl ?_
                                                                                    refine S_ite (fun g423 => ?_) (fun _ => S_none)
                                                                                    refine S_sld dL_law_1580 rfl g423.1 g423.2 ?_
                                                                                    refine S_callV_i (as := [qi ((xs (qw (a3 + 1)).toNat).toInt)]) (st := []) (fun _ => rfl) (TX9_restore ((xs (qw (a3 + 1)).toNat).toInt) h) yv_X9_restore tw_1209 qC_9 qk_0 (by decide) rfl rfl (Nat.le_of_ble_eq_true rfl) dL_law_1581 rfl (fun r424 h425 e426 => ?_)
                                                                                    refine S_aload_n 2 dL_law_1584 rfl rfl rfl ?_
                                                                                    refine S_aload_n 0 dL_law_1585 rfl rfl rfl ?_
                                                                                    refine S_iload_n 3 dL_law_1586 rfl rfl rfl ?_
                                                                                    refine S_iconst (a := 1) dL_law_1587 rfl (by decide) ?_
                                                                                    refine S_iadd dL_law_1588 rfl ?_
                                                                                    refine S_ite (fun g427 => ?_) (fun _ => S_none)
                                                                                    refine S_sld dL_law_1589 rfl g427.1 g427.2 ?_
                                                                                    refine S_callV_i (as := [qi ((xs (qw (a3 + 1)).toNat).toInt)]) (st := [qi r424]) (fun _ => rfl) (TX10_restore ((xs (qw (a3 + 1)).toNat).toInt) h425) yv_X10_restore tw_1840 qC_10 qk_212 (by decide) rfl rfl (Nat.le_of_ble_eq_true rfl) dL_law_1590 rfl (fun r428 h429 e430 => ?_)
                                                                                    refine S_icmp_eq (tgt := 1621) dL_law_1593 (by decide) rfl (fun _ => ?_) (fun _ => ?_)
                                                                                    · refine S_iinc (lv' := [(3, qi (qw (a3 + 6))), (0, qr 227), (1, qr 0), (2, qr 212)]) 3 dL_law_1621 rfl (by decide) rfl rfl ?_
                                                                                      refine S_goto (pc' := 18) dL_law_1624 (by decide) ?_
                                                                                      refine S_sub [1, 2, 3, 0] rfl ?_
                                                                                      exact ih (qw (a3 + 6)) h429
                                                                                    · refine S_iconst (a := 0) dL_law_1596 rfl (by decide) ?_
                                                                                      exact S_zretl (by decide) dL_law_1597
                                                                                  · refine S_ite (fun g431 => ?_) (fun g431 => ?_)
                                                                                    · refine S_tabIn (a0 := 39) (off := 1565) (pc' := 1598) dL_law_33 g431 (by decide) (by decide) rfl (by decide) ?_
                                                                                      refine S_aload_n 1 dL_law_1598 rfl rfl rfl ?_
                                                                                      refine S_aload_n 0 dL_law_1599 rfl rfl rfl ?_
                                                                                      refine S_iload_n 3 dL_law_1600 rfl rfl rfl ?_
                                                                                      refine S_iconst (a := 1) dL_law_1601 rfl (by decide) ?_
                                                                                      refine S_iadd dL_law_1602 rfl ?_
                                                                                      refine S_ite (fun g432 => ?_) (fun _ => S_none)
                                                                                      refine S_sld dL_law_1603 rfl g432.1 g432.2 ?_
                                                                                      refine S_callV_i (as := [qi ((xs (qw (a3 + 1)).toNat).toInt)]) (st := []) (fun _ => rfl) (TX9_count ((xs (qw (a3 + 1)).toNat).toInt) h) yv_X9_count tw_1213 qC_9 qk_0 (by decide) rfl rfl (Nat.le_of_ble_eq_true rfl) dL_law_1604 rfl (fun r433 h434 e435 => ?_)
                                                                                      refine S_aload_n 2 dL_law_1607 rfl rfl rfl ?_
                                                                                      refine S_aload_n 0 dL_law_1608 rfl rfl rfl ?_
                                                                                      refine S_iload_n 3 dL_law_1609 rfl rfl rfl ?_
                                                                                      refine S_iconst (a := 1) dL_law_1610 rfl (by decide) ?_
                                                                                      refine S_iadd dL_law_1611 rfl ?_
                                                                                      refine S_ite (fun g436 => ?_) (fun _ => S_none)
                                                                                      refine S_sld dL_law_1612 rfl g436.1 g436.2 ?_
                                                                                      refine S_callV_i (as := [qi ((xs (qw (a3 + 1)).toNat).toInt)]) (st := [qi r433]) (fun _ => rfl) (TX10_count ((xs (qw (a3 + 1)).toNat).toInt) h434) yv_X10_count tw_1844 qC_10 qk_212 (by decide) rfl rfl (Nat.le_of_ble_eq_true rfl) dL_law_1613 rfl (fun r437 h438 e439 => ?_)
                                                                                      refine S_icmp_eq (tgt := 1621) dL_law_1616 (by decide) rfl (fun _ => ?_) (fun _ => ?_)
                                                                                      · refine S_iinc (lv' := [(3, qi (qw (a3 + 6))), (0, qr 227), (1, qr 0), (2, qr 212)]) 3 dL_law_1621 rfl (by decide) rfl rfl ?_
                                                                                        refine S_goto (pc' := 18) dL_law_1624 (by decide) ?_
                                                                                        refine S_sub [1, 2, 3, 0] rfl ?_
                                                                                        exact ih (qw (a3 + 6)) h438
                                                                                      · refine S_iconst (a := 0) dL_law_1619 rfl (by decide) ?_
                                                                                        exact S_zretl (by decide) dL_law_1620
                                                                                    · refine S_tabOut (pc' := 1621) dL_law_33 (by omega) (by decide) ?_
                                                                                      refine S_iinc (lv' := [(3, qi (qw (a3 + 6))), (0, qr 227), (1, qr 0), (2, qr 212)]) 3 dL_law_1621 rfl (by decide) rfl rfl ?_
                                                                                      refine S_goto (pc' := 18) dL_law_1624 (by decide) ?_
                                                                                      refine S_sub [1, 2, 3, 0] rfl ?_
                                                                                      exact ih (qw (a3 + 6)) h

/-! THE LAW'S BODY: its table, its callees (printed by wip/whole/gen/law99.py). -/
theorem chk_law : ∀ pc, am_chk code k_law pc = true := fun pc => by
  have key : ∀ a n, (List.range' a n).all (am_chk code k_law) = true → a ≤ pc → pc < a + n → am_chk code k_law pc = true := fun a n h h1 h2 => List.all_eq_true.mp h pc (List.mem_range'_1.mpr ⟨h1, h2⟩)
  by_cases c0 : pc < 60
  · exact key 0 60 chk_law_0 (by omega) (by omega)
  by_cases c60 : pc < 120
  · exact key 60 60 chk_law_60 (by omega) (by omega)
  by_cases c120 : pc < 180
  · exact key 120 60 chk_law_120 (by omega) (by omega)
  by_cases c180 : pc < 240
  · exact key 180 60 chk_law_180 (by omega) (by omega)
  by_cases c240 : pc < 300
  · exact key 240 60 chk_law_240 (by omega) (by omega)
  by_cases c300 : pc < 360
  · exact key 300 60 chk_law_300 (by omega) (by omega)
  by_cases c360 : pc < 420
  · exact key 360 60 chk_law_360 (by omega) (by omega)
  by_cases c420 : pc < 480
  · exact key 420 60 chk_law_420 (by omega) (by omega)
  by_cases c480 : pc < 540
  · exact key 480 60 chk_law_480 (by omega) (by omega)
  by_cases c540 : pc < 600
  · exact key 540 60 chk_law_540 (by omega) (by omega)
  by_cases c600 : pc < 660
  · exact key 600 60 chk_law_600 (by omega) (by omega)
  by_cases c660 : pc < 720
  · exact key 660 60 chk_law_660 (by omega) (by omega)
  by_cases c720 : pc < 780
  · exact key 720 60 chk_law_720 (by omega) (by omega)
  by_cases c780 : pc < 840
  · exact key 780 60 chk_law_780 (by omega) (by omega)
  by_cases c840 : pc < 900
  · exact key 840 60 chk_law_840 (by omega) (by omega)
  by_cases c900 : pc < 960
  · exact key 900 60 chk_law_900 (by omega) (by omega)
  by_cases c960 : pc < 1020
  · exact key 960 60 chk_law_960 (by omega) (by omega)
  by_cases c1020 : pc < 1080
  · exact key 1020 60 chk_law_1020 (by omega) (by omega)
  by_cases c1080 : pc < 1140
  · exact key 1080 60 chk_law_1080 (by omega) (by omega)
  by_cases c1140 : pc < 1200
  · exact key 1140 60 chk_law_1140 (by omega) (by omega)
  by_cases c1200 : pc < 1260
  · exact key 1200 60 chk_law_1200 (by omega) (by omega)
  by_cases c1260 : pc < 1320
  · exact key 1260 60 chk_law_1260 (by omega) (by omega)
  by_cases c1320 : pc < 1380
  · exact key 1320 60 chk_law_1320 (by omega) (by omega)
  by_cases c1380 : pc < 1440
  · exact key 1380 60 chk_law_1380 (by omega) (by omega)
  by_cases c1440 : pc < 1500
  · exact key 1440 60 chk_law_1440 (by omega) (by omega)
  by_cases c1500 : pc < 1560
  · exact key 1500 60 chk_law_1500 (by omega) (by omega)
  by_cases c1560 : pc < 1620
  · exact key 1560 60 chk_law_1560 (by omega) (by omega)
  by_cases c1620 : pc < 1680
  · exact key 1620 60 chk_law_1620 (by omega) (by omega)
  by_cases c1680 : pc < 1740
  · exact key 1680 60 chk_law_1680 (by omega) (by omega)
  by_cases c1740 : pc < 1762
  · exact key 1740 22 chk_law_1740 (by omega) (by omega)
  unfold am_chk
  have e : k_law pc = am_nop := by unfold k_law; rw [Nat.ble_eq_true_of_le (show 1762 ≤ pc by omega)]; rfl
  rw [e]
  rfl
def ROL (L : Nat) : List Sh := RO ++ [(5, L, [])]
theorem lk_law_93 : am_lnk RL 93 (dG 1 dL_layover) := ⟨⟨by decide, by decide⟩, am_tb 0 (by decide +kernel) rfl, Or.inl ⟨by decide, rfl, am_tb 676 (by decide +kernel) rfl, Or.inl ⟨by decide, am_tb 675 (by decide +kernel) rfl⟩⟩⟩
theorem ok_law_93 {l : Launch} (hl : l.stackTraces = false) (L : Nat) : am_Ok l WL (ROL L) (dG 1 dL_layover) := ok_g 1 (by decide +kernel) (Nat.le_of_ble_eq_true rfl) (okL_layover hl [(5, L, [])])
theorem vM_layover {ro : List Sh} : ∀ as h v, g_val (c_g (d_M_layover 16) WM ro as h) = some v → isN v = true := by
  intro as h v
  show g_val (g_M_layover WM ro as h) = some v → _
  unfold g_M_layover
  split
  · exact fun z => by cases z; rfl
  · exact fun z => nomatch z
theorem lk_law_98 : am_lnk RL 98 (dPl plM 0 WM (d_M_layover 16)) := ⟨⟨by decide, by decide⟩, am_tb 8 (by decide +kernel) rfl, Or.inr ⟨by decide, rfl, am_tb 939 (by decide +kernel) rfl, am_tb 940 (by decide +kernel) rfl, ⟨TX6, 16, rfl⟩, Or.inl (am_tb 938 (by decide +kernel) rfl)⟩⟩
theorem ok_law_98 {l : Launch} (hl : l.stackTraces = false) (L : Nat) : am_Ok l WL (ROL L) (dPl plM 0 WM (d_M_layover 16)) := okM_in (ok_M_layover hl [] _ 16) vM_layover
theorem vM_thrown {ro : List Sh} : ∀ as h v, g_val (c_g (d_M_thrown 16) WM ro as h) = some v → isN v = true := by
  intro as h v
  show g_val (g_M_thrown WM ro as h) = some v → _
  unfold g_M_thrown
  split
  · exact fun z => by cases z; rfl
  · exact fun z => nomatch z
theorem lk_law_99 : am_lnk RL 99 (dPl plM 0 WM (d_M_thrown 16)) := ⟨⟨by decide, by decide⟩, am_tb 8 (by decide +kernel) rfl, Or.inr ⟨by decide, rfl, am_tb 935 (by decide +kernel) rfl, am_tb 936 (by decide +kernel) rfl, ⟨TX6, 16, rfl⟩, Or.inl (am_tb 934 (by decide +kernel) rfl)⟩⟩
theorem ok_law_99 {l : Launch} (hl : l.stackTraces = false) (L : Nat) : am_Ok l WL (ROL L) (dPl plM 0 WM (d_M_thrown 16)) := okM_in (ok_M_thrown hl [] _ 16) vM_thrown
theorem lk_law_102 : am_lnk RL 102 (dG 1 dL_relief) := ⟨⟨by decide, by decide⟩, am_tb 0 (by decide +kernel) rfl, Or.inl ⟨by decide, rfl, am_tb 686 (by decide +kernel) rfl, Or.inl ⟨by decide, am_tb 685 (by decide +kernel) rfl⟩⟩⟩
theorem ok_law_102 {l : Launch} (hl : l.stackTraces = false) (L : Nat) : am_Ok l WL (ROL L) (dG 1 dL_relief) := ok_g 1 (by decide +kernel) (Nat.le_of_ble_eq_true rfl) (okL_relief hl [(5, L, [])])
theorem vM_relief {ro : List Sh} : ∀ as h v, g_val (c_g (d_M_relief 16) WM ro as h) = some v → isN v = true := by
  intro as h v
  show g_val (g_M_relief WM ro as h) = some v → _
  unfold g_M_relief
  split
  · exact fun z => by cases z; rfl
  · exact fun z => nomatch z
theorem lk_law_105 : am_lnk RL 105 (dPl plM 0 WM (d_M_relief 16)) := ⟨⟨by decide, by decide⟩, am_tb 8 (by decide +kernel) rfl, Or.inr ⟨by decide, rfl, am_tb 960 (by decide +kernel) rfl, am_tb 961 (by decide +kernel) rfl, ⟨TX6, 16, rfl⟩, Or.inl (am_tb 959 (by decide +kernel) rfl)⟩⟩
theorem ok_law_105 {l : Launch} (hl : l.stackTraces = false) (L : Nat) : am_Ok l WL (ROL L) (dPl plM 0 WM (d_M_relief 16)) := okM_in (ok_M_relief hl [] _ 16) vM_relief
theorem lk_law_106 : am_lnk RL 106 (dG 1 dL_trip) := ⟨⟨by decide, by decide⟩, am_tb 0 (by decide +kernel) rfl, Or.inl ⟨by decide, rfl, am_tb 693 (by decide +kernel) rfl, Or.inl ⟨by decide, am_tb 692 (by decide +kernel) rfl⟩⟩⟩
theorem ok_law_106 {l : Launch} (hl : l.stackTraces = false) (L : Nat) : am_Ok l WL (ROL L) (dG 1 dL_trip) := ok_g 1 (by decide +kernel) (Nat.le_of_ble_eq_true rfl) (okL_trip hl [(5, L, [])])
theorem vM_trip {ro : List Sh} : ∀ as h v, g_val (c_g (d_M_trip 16) WM ro as h) = some v → isN v = true := by
  intro as h v
  show g_val (g_M_trip WM ro as h) = some v → _
  unfold g_M_trip
  split
  · exact fun z => by cases z; rfl
  · exact fun z => nomatch z
theorem lk_law_109 : am_lnk RL 109 (dPl plM 0 WM (d_M_trip 16)) := ⟨⟨by decide, by decide⟩, am_tb 8 (by decide +kernel) rfl, Or.inr ⟨by decide, rfl, am_tb 964 (by decide +kernel) rfl, am_tb 965 (by decide +kernel) rfl, ⟨TX6, 16, rfl⟩, Or.inl (am_tb 963 (by decide +kernel) rfl)⟩⟩
theorem ok_law_109 {l : Launch} (hl : l.stackTraces = false) (L : Nat) : am_Ok l WL (ROL L) (dPl plM 0 WM (d_M_trip 16)) := okM_in (ok_M_trip hl [] _ 16) vM_trip
theorem lk_law_110 : am_lnk RL 110 (dG 1 dL_shift) := ⟨⟨by decide, by decide⟩, am_tb 0 (by decide +kernel) rfl, Or.inl ⟨by decide, rfl, am_tb 706 (by decide +kernel) rfl, Or.inl ⟨by decide, am_tb 705 (by decide +kernel) rfl⟩⟩⟩
theorem ok_law_110 {l : Launch} (hl : l.stackTraces = false) (L : Nat) : am_Ok l WL (ROL L) (dG 1 dL_shift) := ok_g 1 (by decide +kernel) (Nat.le_of_ble_eq_true rfl) (okL_shift hl [(5, L, [])])
theorem vM_shift {ro : List Sh} : ∀ as h v, g_val (c_g (d_M_shift 16) WM ro as h) = some v → isN v = true := by
  intro as h v
  show g_val (g_M_shift WM ro as h) = some v → _
  unfold g_M_shift
  split
  · exact fun z => by cases z; rfl
  · exact fun z => nomatch z
theorem lk_law_112 : am_lnk RL 112 (dPl plM 0 WM (d_M_shift 16)) := ⟨⟨by decide, by decide⟩, am_tb 8 (by decide +kernel) rfl, Or.inr ⟨by decide, rfl, am_tb 979 (by decide +kernel) rfl, am_tb 980 (by decide +kernel) rfl, ⟨TX6, 16, rfl⟩, Or.inl (am_tb 978 (by decide +kernel) rfl)⟩⟩
theorem ok_law_112 {l : Launch} (hl : l.stackTraces = false) (L : Nat) : am_Ok l WL (ROL L) (dPl plM 0 WM (d_M_shift 16)) := okM_in (ok_M_shift hl [] _ 16) vM_shift
theorem lk_law_113 : am_lnk RL 113 (dG 1 dL_set) := ⟨⟨by decide, by decide⟩, am_tb 0 (by decide +kernel) rfl, Or.inl ⟨by decide, rfl, am_tb 721 (by decide +kernel) rfl, Or.inl ⟨by decide, am_tb 720 (by decide +kernel) rfl⟩⟩⟩
theorem ok_law_113 {l : Launch} (hl : l.stackTraces = false) (L : Nat) : am_Ok l WL (ROL L) (dG 1 dL_set) := ok_g 1 (by decide +kernel) (Nat.le_of_ble_eq_true rfl) (okL_set hl [(5, L, [])])
theorem vM_set {ro : List Sh} : ∀ as h v, g_val (c_g (d_M_set 16) WM ro as h) = some v → isN v = true := by
  intro as h v
  show g_val (g_M_set WM ro as h) = some v → _
  unfold g_M_set
  split
  · exact fun z => by cases z; rfl
  · exact fun z => nomatch z
theorem lk_law_115 : am_lnk RL 115 (dPl plM 0 WM (d_M_set 16)) := ⟨⟨by decide, by decide⟩, am_tb 8 (by decide +kernel) rfl, Or.inr ⟨by decide, rfl, am_tb 1007 (by decide +kernel) rfl, am_tb 1008 (by decide +kernel) rfl, ⟨TX6, 16, rfl⟩, Or.inl (am_tb 1006 (by decide +kernel) rfl)⟩⟩
theorem ok_law_115 {l : Launch} (hl : l.stackTraces = false) (L : Nat) : am_Ok l WL (ROL L) (dPl plM 0 WM (d_M_set 16)) := okM_in (ok_M_set hl [] _ 16) vM_set
theorem lk_law_116 : am_lnk RL 116 (dG 1 dL_follow) := ⟨⟨by decide, by decide⟩, am_tb 0 (by decide +kernel) rfl, Or.inl ⟨by decide, rfl, am_tb 736 (by decide +kernel) rfl, Or.inl ⟨by decide, am_tb 735 (by decide +kernel) rfl⟩⟩⟩
theorem ok_law_116 {l : Launch} (hl : l.stackTraces = false) (L : Nat) : am_Ok l WL (ROL L) (dG 1 dL_follow) := ok_g 1 (by decide +kernel) (Nat.le_of_ble_eq_true rfl) (okL_follow hl [(5, L, [])])
theorem vM_follow {ro : List Sh} : ∀ as h v, g_val (c_g (d_M_follow 16) WM ro as h) = some v → isN v = true := by
  intro as h v
  show g_val (g_M_follow WM ro as h) = some v → _
  unfold g_M_follow
  split
  · exact fun z => by cases z; rfl
  · exact fun z => nomatch z
theorem lk_law_118 : am_lnk RL 118 (dPl plM 0 WM (d_M_follow 16)) := ⟨⟨by decide, by decide⟩, am_tb 8 (by decide +kernel) rfl, Or.inr ⟨by decide, rfl, am_tb 1014 (by decide +kernel) rfl, am_tb 1015 (by decide +kernel) rfl, ⟨TX6, 16, rfl⟩, Or.inl (am_tb 1013 (by decide +kernel) rfl)⟩⟩
theorem ok_law_118 {l : Launch} (hl : l.stackTraces = false) (L : Nat) : am_Ok l WL (ROL L) (dPl plM 0 WM (d_M_follow 16)) := okM_in (ok_M_follow hl [] _ 16) vM_follow
theorem lk_law_119 : am_lnk RL 119 (dG 1 dL_part) := ⟨⟨by decide, by decide⟩, am_tb 0 (by decide +kernel) rfl, Or.inl ⟨by decide, rfl, am_tb 745 (by decide +kernel) rfl, Or.inl ⟨by decide, am_tb 744 (by decide +kernel) rfl⟩⟩⟩
theorem ok_law_119 {l : Launch} (hl : l.stackTraces = false) (L : Nat) : am_Ok l WL (ROL L) (dG 1 dL_part) := ok_g 1 (by decide +kernel) (Nat.le_of_ble_eq_true rfl) (okL_part hl [(5, L, [])])
theorem vM_part {ro : List Sh} : ∀ as h v, g_val (c_g (d_M_part 16) WM ro as h) = some v → isN v = true := by
  intro as h v
  show g_val (g_M_part WM ro as h) = some v → _
  unfold g_M_part
  split
  · exact fun z => by cases z; rfl
  · exact fun z => nomatch z
theorem lk_law_121 : am_lnk RL 121 (dPl plM 0 WM (d_M_part 16)) := ⟨⟨by decide, by decide⟩, am_tb 8 (by decide +kernel) rfl, Or.inr ⟨by decide, rfl, am_tb 1030 (by decide +kernel) rfl, am_tb 1031 (by decide +kernel) rfl, ⟨TX6, 16, rfl⟩, Or.inl (am_tb 1029 (by decide +kernel) rfl)⟩⟩
theorem ok_law_121 {l : Launch} (hl : l.stackTraces = false) (L : Nat) : am_Ok l WL (ROL L) (dPl plM 0 WM (d_M_part 16)) := okM_in (ok_M_part hl [] _ 16) vM_part
theorem vB_blockAll {ro : List Sh} : ∀ as h v, g_val (c_g (d_B_blockAll 15) WB ro as h) = some v → isN v = true := by
  intro as h v
  show g_val (g_B_blockAll WB ro as h) = some v → _
  unfold g_B_blockAll
  split
  · exact fun z => by cases z; rfl
  · exact fun z => nomatch z
theorem lk_law_122 : am_lnk RL 122 (dPl plB 38 WB (d_B_blockAll 15)) := ⟨⟨by decide, by decide⟩, am_tb 1 (by decide +kernel) rfl, Or.inr ⟨by decide, rfl, am_tb 227 (by decide +kernel) rfl, am_tb 228 (by decide +kernel) rfl, ⟨TX5, 10, rfl⟩, Or.inl (am_tb 226 (by decide +kernel) rfl)⟩⟩
theorem ok_law_122 {l : Launch} (hl : l.stackTraces = false) (L : Nat) : am_Ok l WL (ROL L) (dPl plB 38 WB (d_B_blockAll 15)) := okB_in (ok_B_blockAll hl [] [(5, L, [])] 15) vB_blockAll
theorem vM_blockAll {ro : List Sh} : ∀ as h v, g_val (c_g (d_M_blockAll 16) WM ro as h) = some v → isN v = true := by
  intro as h v
  show g_val (g_M_blockAll WM ro as h) = some v → _
  unfold g_M_blockAll
  split
  · exact fun z => by cases z; rfl
  · exact fun z => nomatch z
theorem lk_law_125 : am_lnk RL 125 (dPl plM 0 WM (d_M_blockAll 16)) := ⟨⟨by decide, by decide⟩, am_tb 8 (by decide +kernel) rfl, Or.inr ⟨by decide, rfl, am_tb 1034 (by decide +kernel) rfl, am_tb 1035 (by decide +kernel) rfl, ⟨TX6, 16, rfl⟩, Or.inl (am_tb 1033 (by decide +kernel) rfl)⟩⟩
theorem ok_law_125 {l : Launch} (hl : l.stackTraces = false) (L : Nat) : am_Ok l WL (ROL L) (dPl plM 0 WM (d_M_blockAll 16)) := okM_in (ok_M_blockAll hl [] _ 16) vM_blockAll
theorem lk_law_126 : am_lnk RL 126 (dG 1 dL_fail) := ⟨⟨by decide, by decide⟩, am_tb 0 (by decide +kernel) rfl, Or.inl ⟨by decide, rfl, am_tb 753 (by decide +kernel) rfl, Or.inl ⟨by decide, am_tb 752 (by decide +kernel) rfl⟩⟩⟩
theorem ok_law_126 {l : Launch} (hl : l.stackTraces = false) (L : Nat) : am_Ok l WL (ROL L) (dG 1 dL_fail) := ok_g 1 (by decide +kernel) (Nat.le_of_ble_eq_true rfl) (okL_fail hl [(5, L, [])])
theorem vM_fail {ro : List Sh} : ∀ as h v, g_val (c_g (d_M_fail 16) WM ro as h) = some v → isN v = true := by
  intro as h v
  show g_val (g_M_fail WM ro as h) = some v → _
  unfold g_M_fail
  split
  · exact fun z => by cases z; rfl
  · exact fun z => nomatch z
theorem lk_law_128 : am_lnk RL 128 (dPl plM 0 WM (d_M_fail 16)) := ⟨⟨by decide, by decide⟩, am_tb 8 (by decide +kernel) rfl, Or.inr ⟨by decide, rfl, am_tb 1058 (by decide +kernel) rfl, am_tb 1059 (by decide +kernel) rfl, ⟨TX6, 16, rfl⟩, Or.inl (am_tb 1057 (by decide +kernel) rfl)⟩⟩
theorem ok_law_128 {l : Launch} (hl : l.stackTraces = false) (L : Nat) : am_Ok l WL (ROL L) (dPl plM 0 WM (d_M_fail 16)) := okM_in (ok_M_fail hl [] _ 16) vM_fail
theorem lk_law_129 : am_lnk RL 129 (dG 1 dL_append) := ⟨⟨by decide, by decide⟩, am_tb 0 (by decide +kernel) rfl, Or.inl ⟨by decide, rfl, am_tb 767 (by decide +kernel) rfl, Or.inl ⟨by decide, am_tb 766 (by decide +kernel) rfl⟩⟩⟩
theorem ok_law_129 {l : Launch} (hl : l.stackTraces = false) (L : Nat) : am_Ok l WL (ROL L) (dG 1 dL_append) := ok_g 1 (by decide +kernel) (Nat.le_of_ble_eq_true rfl) (okL_append hl [(5, L, [])])
theorem vM_append {ro : List Sh} : ∀ as h v, g_val (c_g (d_M_append 16) WM ro as h) = some v → isN v = true := by
  intro as h v
  show g_val (g_M_append WM ro as h) = some v → _
  unfold g_M_append
  split
  · exact fun z => by cases z; rfl
  · exact fun z => nomatch z
theorem lk_law_131 : am_lnk RL 131 (dPl plM 0 WM (d_M_append 16)) := ⟨⟨by decide, by decide⟩, am_tb 8 (by decide +kernel) rfl, Or.inr ⟨by decide, rfl, am_tb 1070 (by decide +kernel) rfl, am_tb 1071 (by decide +kernel) rfl, ⟨TX6, 16, rfl⟩, Or.inl (am_tb 1069 (by decide +kernel) rfl)⟩⟩
theorem ok_law_131 {l : Launch} (hl : l.stackTraces = false) (L : Nat) : am_Ok l WL (ROL L) (dPl plM 0 WM (d_M_append 16)) := okM_in (ok_M_append hl [] _ 16) vM_append
theorem vB_clearBuffer {ro : List Sh} : ∀ as h v, g_val (c_g (d_B_clearBuffer 15) WB ro as h) = some v → isN v = true := by
  intro as h v
  show g_val (g_B_clearBuffer WB ro as h) = some v → _
  unfold g_B_clearBuffer
  split
  · exact fun z => by cases z; rfl
  · exact fun z => nomatch z
theorem lk_law_132 : am_lnk RL 132 (dPl plB 38 WB (d_B_clearBuffer 15)) := ⟨⟨by decide, by decide⟩, am_tb 1 (by decide +kernel) rfl, Or.inr ⟨by decide, rfl, am_tb 306 (by decide +kernel) rfl, am_tb 307 (by decide +kernel) rfl, ⟨TX5, 10, rfl⟩, Or.inl (am_tb 305 (by decide +kernel) rfl)⟩⟩
theorem ok_law_132 {l : Launch} (hl : l.stackTraces = false) (L : Nat) : am_Ok l WL (ROL L) (dPl plB 38 WB (d_B_clearBuffer 15)) := okB_in (ok_B_clearBuffer hl [] [(5, L, [])] 15) vB_clearBuffer
theorem vM_clearBuffer {ro : List Sh} : ∀ as h v, g_val (c_g (d_M_clearBuffer 16) WM ro as h) = some v → isN v = true := by
  intro as h v
  show g_val (g_M_clearBuffer WM ro as h) = some v → _
  unfold g_M_clearBuffer
  split
  · exact fun z => by cases z; rfl
  · exact fun z => nomatch z
theorem lk_law_135 : am_lnk RL 135 (dPl plM 0 WM (d_M_clearBuffer 16)) := ⟨⟨by decide, by decide⟩, am_tb 8 (by decide +kernel) rfl, Or.inr ⟨by decide, rfl, am_tb 1074 (by decide +kernel) rfl, am_tb 1075 (by decide +kernel) rfl, ⟨TX6, 16, rfl⟩, Or.inl (am_tb 1073 (by decide +kernel) rfl)⟩⟩
theorem ok_law_135 {l : Launch} (hl : l.stackTraces = false) (L : Nat) : am_Ok l WL (ROL L) (dPl plM 0 WM (d_M_clearBuffer 16)) := okM_in (ok_M_clearBuffer hl [] _ 16) vM_clearBuffer
theorem vB_firstError {ro : List Sh} : ∀ as h v, g_val (c_g (d_B_firstError 15) WB ro as h) = some v → isN v = true := by
  intro as h v
  show g_val (g_B_firstError WB ro as h) = some v → _
  unfold g_B_firstError
  split
  · exact fun z => by cases z; rfl
  · exact fun z => nomatch z
theorem lk_law_136 : am_lnk RL 136 (dPl plB 38 WB (d_B_firstError 15)) := ⟨⟨by decide, by decide⟩, am_tb 1 (by decide +kernel) rfl, Or.inr ⟨by decide, rfl, am_tb 310 (by decide +kernel) rfl, am_tb 311 (by decide +kernel) rfl, ⟨TX5, 10, rfl⟩, Or.inl (am_tb 309 (by decide +kernel) rfl)⟩⟩
theorem ok_law_136 {l : Launch} (hl : l.stackTraces = false) (L : Nat) : am_Ok l WL (ROL L) (dPl plB 38 WB (d_B_firstError 15)) := okB_in (ok_B_firstError hl [] [(5, L, [])] 15) vB_firstError
theorem vM_firstError {ro : List Sh} : ∀ as h v, g_val (c_g (d_M_firstError 16) WM ro as h) = some v → isN v = true := by
  intro as h v
  show g_val (g_M_firstError WM ro as h) = some v → _
  unfold g_M_firstError
  split
  · exact fun z => by cases z; rfl
  · exact fun z => nomatch z
theorem lk_law_139 : am_lnk RL 139 (dPl plM 0 WM (d_M_firstError 16)) := ⟨⟨by decide, by decide⟩, am_tb 8 (by decide +kernel) rfl, Or.inr ⟨by decide, rfl, am_tb 1078 (by decide +kernel) rfl, am_tb 1079 (by decide +kernel) rfl, ⟨TX6, 16, rfl⟩, Or.inl (am_tb 1077 (by decide +kernel) rfl)⟩⟩
theorem ok_law_139 {l : Launch} (hl : l.stackTraces = false) (L : Nat) : am_Ok l WL (ROL L) (dPl plM 0 WM (d_M_firstError 16)) := okM_in (ok_M_firstError hl [] _ 16) vM_firstError
theorem lk_law_140 : am_lnk RL 140 (dG 1 dL_load) := ⟨⟨by decide, by decide⟩, am_tb 0 (by decide +kernel) rfl, Or.inl ⟨by decide, rfl, am_tb 779 (by decide +kernel) rfl, Or.inl ⟨by decide, am_tb 778 (by decide +kernel) rfl⟩⟩⟩
theorem ok_law_140 {l : Launch} (hl : l.stackTraces = false) (L : Nat) : am_Ok l WL (ROL L) (dG 1 dL_load) := ok_g 1 (by decide +kernel) (Nat.le_of_ble_eq_true rfl) (okL_load hl [(5, L, [])])
theorem vM_load {ro : List Sh} : ∀ as h v, g_val (c_g (d_M_load 16) WM ro as h) = some v → isN v = true := by
  intro as h v
  show g_val (g_M_load WM ro as h) = some v → _
  unfold g_M_load
  split
  · exact fun z => by cases z; rfl
  · exact fun z => nomatch z
theorem lk_law_143 : am_lnk RL 143 (dPl plM 0 WM (d_M_load 16)) := ⟨⟨by decide, by decide⟩, am_tb 8 (by decide +kernel) rfl, Or.inr ⟨by decide, rfl, am_tb 1106 (by decide +kernel) rfl, am_tb 1107 (by decide +kernel) rfl, ⟨TX6, 16, rfl⟩, Or.inl (am_tb 1105 (by decide +kernel) rfl)⟩⟩
theorem ok_law_143 {l : Launch} (hl : l.stackTraces = false) (L : Nat) : am_Ok l WL (ROL L) (dPl plM 0 WM (d_M_load 16)) := okM_in (ok_M_load hl [] _ 16) vM_load
theorem lk_law_144 : am_lnk RL 144 (dG 1 dL_keep) := ⟨⟨by decide, by decide⟩, am_tb 0 (by decide +kernel) rfl, Or.inl ⟨by decide, rfl, am_tb 806 (by decide +kernel) rfl, Or.inl ⟨by decide, am_tb 805 (by decide +kernel) rfl⟩⟩⟩
theorem ok_law_144 {l : Launch} (hl : l.stackTraces = false) (L : Nat) : am_Ok l WL (ROL L) (dG 1 dL_keep) := ok_g 1 (by decide +kernel) (Nat.le_of_ble_eq_true rfl) (okL_keep hl [(5, L, [])])
theorem vM_keep {ro : List Sh} : ∀ as h v, g_val (c_g (d_M_keep 16) WM ro as h) = some v → isN v = true := by
  intro as h v
  show g_val (g_M_keep WM ro as h) = some v → _
  unfold g_M_keep
  split
  · exact fun z => by cases z; rfl
  · exact fun z => nomatch z
theorem lk_law_146 : am_lnk RL 146 (dPl plM 0 WM (d_M_keep 16)) := ⟨⟨by decide, by decide⟩, am_tb 8 (by decide +kernel) rfl, Or.inr ⟨by decide, rfl, am_tb 1110 (by decide +kernel) rfl, am_tb 1111 (by decide +kernel) rfl, ⟨TX6, 16, rfl⟩, Or.inl (am_tb 1109 (by decide +kernel) rfl)⟩⟩
theorem ok_law_146 {l : Launch} (hl : l.stackTraces = false) (L : Nat) : am_Ok l WL (ROL L) (dPl plM 0 WM (d_M_keep 16)) := okM_in (ok_M_keep hl [] _ 16) vM_keep
theorem lk_law_147 : am_lnk RL 147 (dG 1 dL_goBack) := ⟨⟨by decide, by decide⟩, am_tb 0 (by decide +kernel) rfl, Or.inl ⟨by decide, rfl, am_tb 813 (by decide +kernel) rfl, Or.inl ⟨by decide, am_tb 812 (by decide +kernel) rfl⟩⟩⟩
theorem ok_law_147 {l : Launch} (hl : l.stackTraces = false) (L : Nat) : am_Ok l WL (ROL L) (dG 1 dL_goBack) := ok_g 1 (by decide +kernel) (Nat.le_of_ble_eq_true rfl) (okL_goBack hl [(5, L, [])])
theorem vM_goBack {ro : List Sh} : ∀ as h v, g_val (c_g (d_M_goBack 16) WM ro as h) = some v → isN v = true := by
  intro as h v
  show g_val (g_M_goBack WM ro as h) = some v → _
  unfold g_M_goBack
  split
  · exact fun z => by cases z; rfl
  · exact fun z => nomatch z
theorem lk_law_149 : am_lnk RL 149 (dPl plM 0 WM (d_M_goBack 16)) := ⟨⟨by decide, by decide⟩, am_tb 8 (by decide +kernel) rfl, Or.inr ⟨by decide, rfl, am_tb 1114 (by decide +kernel) rfl, am_tb 1115 (by decide +kernel) rfl, ⟨TX6, 16, rfl⟩, Or.inl (am_tb 1113 (by decide +kernel) rfl)⟩⟩
theorem ok_law_149 {l : Launch} (hl : l.stackTraces = false) (L : Nat) : am_Ok l WL (ROL L) (dPl plM 0 WM (d_M_goBack 16)) := okM_in (ok_M_goBack hl [] _ 16) vM_goBack
theorem lk_law_150 : am_lnk RL 150 (dG 1 dL_undo) := ⟨⟨by decide, by decide⟩, am_tb 0 (by decide +kernel) rfl, Or.inl ⟨by decide, rfl, am_tb 825 (by decide +kernel) rfl, Or.inl ⟨by decide, am_tb 824 (by decide +kernel) rfl⟩⟩⟩
theorem ok_law_150 {l : Launch} (hl : l.stackTraces = false) (L : Nat) : am_Ok l WL (ROL L) (dG 1 dL_undo) := ok_g 1 (by decide +kernel) (Nat.le_of_ble_eq_true rfl) (okL_undo hl [(5, L, [])])
theorem vM_undo {ro : List Sh} : ∀ as h v, g_val (c_g (d_M_undo 16) WM ro as h) = some v → isN v = true := by
  intro as h v
  show g_val (g_M_undo WM ro as h) = some v → _
  unfold g_M_undo
  split
  · exact fun z => by cases z; rfl
  · exact fun z => nomatch z
theorem lk_law_152 : am_lnk RL 152 (dPl plM 0 WM (d_M_undo 16)) := ⟨⟨by decide, by decide⟩, am_tb 8 (by decide +kernel) rfl, Or.inr ⟨by decide, rfl, am_tb 1118 (by decide +kernel) rfl, am_tb 1119 (by decide +kernel) rfl, ⟨TX6, 16, rfl⟩, Or.inl (am_tb 1117 (by decide +kernel) rfl)⟩⟩
theorem ok_law_152 {l : Launch} (hl : l.stackTraces = false) (L : Nat) : am_Ok l WL (ROL L) (dPl plM 0 WM (d_M_undo 16)) := okM_in (ok_M_undo hl [] _ 16) vM_undo
theorem lk_law_153 : am_lnk RL 153 (dG 1 dL_terminalOf) := ⟨⟨by decide, by decide⟩, am_tb 0 (by decide +kernel) rfl, Or.inl ⟨by decide, rfl, am_tb 833 (by decide +kernel) rfl, Or.inl ⟨by decide, am_tb 832 (by decide +kernel) rfl⟩⟩⟩
theorem ok_law_153 {l : Launch} (hl : l.stackTraces = false) (L : Nat) : am_Ok l WL (ROL L) (dG 1 dL_terminalOf) := ok_g 1 (by decide +kernel) (Nat.le_of_ble_eq_true rfl) (okL_terminalOf hl [(5, L, [])])
theorem vM_terminalOf {ro : List Sh} : ∀ as h v, g_val (c_g (d_M_terminalOf 16) WM ro as h) = some v → isN v = true := by
  intro as h v
  show g_val (g_M_terminalOf WM ro as h) = some v → _
  unfold g_M_terminalOf
  split
  · exact fun z => by cases z; rfl
  · exact fun z => nomatch z
theorem lk_law_155 : am_lnk RL 155 (dPl plM 0 WM (d_M_terminalOf 16)) := ⟨⟨by decide, by decide⟩, am_tb 8 (by decide +kernel) rfl, Or.inr ⟨by decide, rfl, am_tb 1122 (by decide +kernel) rfl, am_tb 1123 (by decide +kernel) rfl, ⟨TX6, 16, rfl⟩, Or.inl (am_tb 1121 (by decide +kernel) rfl)⟩⟩
theorem ok_law_155 {l : Launch} (hl : l.stackTraces = false) (L : Nat) : am_Ok l WL (ROL L) (dPl plM 0 WM (d_M_terminalOf 16)) := okM_in (ok_M_terminalOf hl [] _ 16) vM_terminalOf
theorem lk_law_156 : am_lnk RL 156 (dG 1 dL_tripOf) := ⟨⟨by decide, by decide⟩, am_tb 0 (by decide +kernel) rfl, Or.inl ⟨by decide, rfl, am_tb 837 (by decide +kernel) rfl, Or.inl ⟨by decide, am_tb 836 (by decide +kernel) rfl⟩⟩⟩
theorem ok_law_156 {l : Launch} (hl : l.stackTraces = false) (L : Nat) : am_Ok l WL (ROL L) (dG 1 dL_tripOf) := ok_g 1 (by decide +kernel) (Nat.le_of_ble_eq_true rfl) (okL_tripOf hl [(5, L, [])])
theorem vM_tripOf {ro : List Sh} : ∀ as h v, g_val (c_g (d_M_tripOf 16) WM ro as h) = some v → isN v = true := by
  intro as h v
  show g_val (g_M_tripOf WM ro as h) = some v → _
  unfold g_M_tripOf
  split
  · exact fun z => by cases z; rfl
  · exact fun z => nomatch z
theorem lk_law_158 : am_lnk RL 158 (dPl plM 0 WM (d_M_tripOf 16)) := ⟨⟨by decide, by decide⟩, am_tb 8 (by decide +kernel) rfl, Or.inr ⟨by decide, rfl, am_tb 1150 (by decide +kernel) rfl, am_tb 1151 (by decide +kernel) rfl, ⟨TX6, 16, rfl⟩, Or.inl (am_tb 1149 (by decide +kernel) rfl)⟩⟩
theorem ok_law_158 {l : Launch} (hl : l.stackTraces = false) (L : Nat) : am_Ok l WL (ROL L) (dPl plM 0 WM (d_M_tripOf 16)) := okM_in (ok_M_tripOf hl [] _ 16) vM_tripOf
theorem lk_law_159 : am_lnk RL 159 (dG 1 dL_blockOf) := ⟨⟨by decide, by decide⟩, am_tb 0 (by decide +kernel) rfl, Or.inl ⟨by decide, rfl, am_tb 841 (by decide +kernel) rfl, Or.inl ⟨by decide, am_tb 840 (by decide +kernel) rfl⟩⟩⟩
theorem ok_law_159 {l : Launch} (hl : l.stackTraces = false) (L : Nat) : am_Ok l WL (ROL L) (dG 1 dL_blockOf) := ok_g 1 (by decide +kernel) (Nat.le_of_ble_eq_true rfl) (okL_blockOf hl [(5, L, [])])
theorem vM_blockOf {ro : List Sh} : ∀ as h v, g_val (c_g (d_M_blockOf 16) WM ro as h) = some v → isN v = true := by
  intro as h v
  show g_val (g_M_blockOf WM ro as h) = some v → _
  unfold g_M_blockOf
  split
  · exact fun z => by cases z; rfl
  · exact fun z => nomatch z
theorem lk_law_161 : am_lnk RL 161 (dPl plM 0 WM (d_M_blockOf 16)) := ⟨⟨by decide, by decide⟩, am_tb 8 (by decide +kernel) rfl, Or.inr ⟨by decide, rfl, am_tb 1166 (by decide +kernel) rfl, am_tb 1167 (by decide +kernel) rfl, ⟨TX6, 16, rfl⟩, Or.inl (am_tb 1165 (by decide +kernel) rfl)⟩⟩
theorem ok_law_161 {l : Launch} (hl : l.stackTraces = false) (L : Nat) : am_Ok l WL (ROL L) (dPl plM 0 WM (d_M_blockOf 16)) := okM_in (ok_M_blockOf hl [] _ 16) vM_blockOf
theorem lk_law_162 : am_lnk RL 162 (dG 1 dL_duty) := ⟨⟨by decide, by decide⟩, am_tb 0 (by decide +kernel) rfl, Or.inl ⟨by decide, rfl, am_tb 845 (by decide +kernel) rfl, Or.inl ⟨by decide, am_tb 844 (by decide +kernel) rfl⟩⟩⟩
theorem ok_law_162 {l : Launch} (hl : l.stackTraces = false) (L : Nat) : am_Ok l WL (ROL L) (dG 1 dL_duty) := ok_g 1 (by decide +kernel) (Nat.le_of_ble_eq_true rfl) (okL_duty hl [(5, L, [])])
theorem vM_duty {ro : List Sh} : ∀ as h v, g_val (c_g (d_M_duty 16) WM ro as h) = some v → isN v = true := by
  intro as h v
  show g_val (g_M_duty WM ro as h) = some v → _
  unfold g_M_duty
  split
  · exact fun z => by cases z; rfl
  · exact fun z => nomatch z
theorem lk_law_165 : am_lnk RL 165 (dPl plM 0 WM (d_M_duty 16)) := ⟨⟨by decide, by decide⟩, am_tb 8 (by decide +kernel) rfl, Or.inr ⟨by decide, rfl, am_tb 1218 (by decide +kernel) rfl, am_tb 1219 (by decide +kernel) rfl, ⟨TX6, 16, rfl⟩, Or.inl (am_tb 1217 (by decide +kernel) rfl)⟩⟩
theorem ok_law_165 {l : Launch} (hl : l.stackTraces = false) (L : Nat) : am_Ok l WL (ROL L) (dPl plM 0 WM (d_M_duty 16)) := okM_in (ok_M_duty hl [] _ 16) vM_duty
theorem lk_law_166 : am_lnk RL 166 (dG 1 dL_count) := ⟨⟨by decide, by decide⟩, am_tb 0 (by decide +kernel) rfl, Or.inl ⟨by decide, rfl, am_tb 849 (by decide +kernel) rfl, Or.inl ⟨by decide, am_tb 848 (by decide +kernel) rfl⟩⟩⟩
theorem ok_law_166 {l : Launch} (hl : l.stackTraces = false) (L : Nat) : am_Ok l WL (ROL L) (dG 1 dL_count) := ok_g 1 (by decide +kernel) (Nat.le_of_ble_eq_true rfl) (okL_count hl [(5, L, [])])
theorem vM_count {ro : List Sh} : ∀ as h v, g_val (c_g (d_M_count 16) WM ro as h) = some v → isN v = true := by
  intro as h v
  show g_val (g_M_count WM ro as h) = some v → _
  unfold g_M_count
  split
  · exact fun z => by cases z; rfl
  · exact fun z => nomatch z
theorem lk_law_168 : am_lnk RL 168 (dPl plM 0 WM (d_M_count 16)) := ⟨⟨by decide, by decide⟩, am_tb 8 (by decide +kernel) rfl, Or.inr ⟨by decide, rfl, am_tb 1226 (by decide +kernel) rfl, am_tb 1227 (by decide +kernel) rfl, ⟨TX6, 16, rfl⟩, Or.inl (am_tb 1225 (by decide +kernel) rfl)⟩⟩
theorem ok_law_168 {l : Launch} (hl : l.stackTraces = false) (L : Nat) : am_Ok l WL (ROL L) (dPl plM 0 WM (d_M_count 16)) := okM_in (ok_M_count hl [] _ 16) vM_count
theorem lk_law_169 : am_lnk RL 169 (dG 1 dL_setting) := ⟨⟨by decide, by decide⟩, am_tb 0 (by decide +kernel) rfl, Or.inl ⟨by decide, rfl, am_tb 853 (by decide +kernel) rfl, Or.inl ⟨by decide, am_tb 852 (by decide +kernel) rfl⟩⟩⟩
theorem ok_law_169 {l : Launch} (hl : l.stackTraces = false) (L : Nat) : am_Ok l WL (ROL L) (dG 1 dL_setting) := ok_g 1 (by decide +kernel) (Nat.le_of_ble_eq_true rfl) (okL_setting hl [(5, L, [])])
theorem vM_setting {ro : List Sh} : ∀ as h v, g_val (c_g (d_M_setting 16) WM ro as h) = some v → isN v = true := by
  intro as h v
  show g_val (g_M_setting WM ro as h) = some v → _
  unfold g_M_setting
  split
  · exact fun z => by cases z; rfl
  · exact fun z => nomatch z
theorem lk_law_171 : am_lnk RL 171 (dPl plM 0 WM (d_M_setting 16)) := ⟨⟨by decide, by decide⟩, am_tb 8 (by decide +kernel) rfl, Or.inr ⟨by decide, rfl, am_tb 1254 (by decide +kernel) rfl, am_tb 1255 (by decide +kernel) rfl, ⟨TX6, 16, rfl⟩, Or.inl (am_tb 1253 (by decide +kernel) rfl)⟩⟩
theorem ok_law_171 {l : Launch} (hl : l.stackTraces = false) (L : Nat) : am_Ok l WL (ROL L) (dPl plM 0 WM (d_M_setting 16)) := okM_in (ok_M_setting hl [] _ 16) vM_setting
theorem lk_law_172 : am_lnk RL 172 (dG 1 dL_whyNot) := ⟨⟨by decide, by decide⟩, am_tb 0 (by decide +kernel) rfl, Or.inl ⟨by decide, rfl, am_tb 860 (by decide +kernel) rfl, Or.inl ⟨by decide, am_tb 859 (by decide +kernel) rfl⟩⟩⟩
theorem ok_law_172 {l : Launch} (hl : l.stackTraces = false) (L : Nat) : am_Ok l WL (ROL L) (dG 1 dL_whyNot) := ok_g 1 (by decide +kernel) (Nat.le_of_ble_eq_true rfl) (okL_whyNot hl [(5, L, [])])
theorem vM_whyNot {ro : List Sh} : ∀ as h v, g_val (c_g (d_M_whyNot 16) WM ro as h) = some v → isN v = true := by
  intro as h v
  show g_val (g_M_whyNot WM ro as h) = some v → _
  unfold g_M_whyNot
  split
  · exact fun z => by cases z; rfl
  · exact fun z => nomatch z
theorem lk_law_174 : am_lnk RL 174 (dPl plM 0 WM (d_M_whyNot 16)) := ⟨⟨by decide, by decide⟩, am_tb 8 (by decide +kernel) rfl, Or.inr ⟨by decide, rfl, am_tb 1258 (by decide +kernel) rfl, am_tb 1259 (by decide +kernel) rfl, ⟨TX6, 16, rfl⟩, Or.inl (am_tb 1257 (by decide +kernel) rfl)⟩⟩
theorem ok_law_174 {l : Launch} (hl : l.stackTraces = false) (L : Nat) : am_Ok l WL (ROL L) (dPl plM 0 WM (d_M_whyNot 16)) := okM_in (ok_M_whyNot hl [] _ 16) vM_whyNot
theorem lk_law_175 : am_lnk RL 175 (dG 1 dL_ifTrip) := ⟨⟨by decide, by decide⟩, am_tb 0 (by decide +kernel) rfl, Or.inl ⟨by decide, rfl, am_tb 867 (by decide +kernel) rfl, Or.inl ⟨by decide, am_tb 866 (by decide +kernel) rfl⟩⟩⟩
theorem ok_law_175 {l : Launch} (hl : l.stackTraces = false) (L : Nat) : am_Ok l WL (ROL L) (dG 1 dL_ifTrip) := ok_g 1 (by decide +kernel) (Nat.le_of_ble_eq_true rfl) (okL_ifTrip hl [(5, L, [])])
theorem vM_ifTrip {ro : List Sh} : ∀ as h v, g_val (c_g (d_M_ifTrip 16) WM ro as h) = some v → isN v = true := by
  intro as h v
  show g_val (g_M_ifTrip WM ro as h) = some v → _
  unfold g_M_ifTrip
  split
  · exact fun z => by cases z; rfl
  · exact fun z => nomatch z
theorem lk_law_177 : am_lnk RL 177 (dPl plM 0 WM (d_M_ifTrip 16)) := ⟨⟨by decide, by decide⟩, am_tb 8 (by decide +kernel) rfl, Or.inr ⟨by decide, rfl, am_tb 1262 (by decide +kernel) rfl, am_tb 1263 (by decide +kernel) rfl, ⟨TX6, 16, rfl⟩, Or.inl (am_tb 1261 (by decide +kernel) rfl)⟩⟩
theorem ok_law_177 {l : Launch} (hl : l.stackTraces = false) (L : Nat) : am_Ok l WL (ROL L) (dPl plM 0 WM (d_M_ifTrip 16)) := okM_in (ok_M_ifTrip hl [] _ 16) vM_ifTrip
theorem lk_law_178 : am_lnk RL 178 (dG 1 dL_bestTime) := ⟨⟨by decide, by decide⟩, am_tb 0 (by decide +kernel) rfl, Or.inl ⟨by decide, rfl, am_tb 871 (by decide +kernel) rfl, Or.inl ⟨by decide, am_tb 870 (by decide +kernel) rfl⟩⟩⟩
theorem ok_law_178 {l : Launch} (hl : l.stackTraces = false) (L : Nat) : am_Ok l WL (ROL L) (dG 1 dL_bestTime) := ok_g 1 (by decide +kernel) (Nat.le_of_ble_eq_true rfl) (okL_bestTime hl [(5, L, [])])
theorem vM_bestTime {ro : List Sh} : ∀ as h v, g_val (c_g (d_M_bestTime 16) WM ro as h) = some v → isN v = true := by
  intro as h v
  show g_val (g_M_bestTime WM ro as h) = some v → _
  unfold g_M_bestTime
  split
  · exact fun z => by cases z; rfl
  · exact fun z => nomatch z
theorem lk_law_180 : am_lnk RL 180 (dPl plM 0 WM (d_M_bestTime 16)) := ⟨⟨by decide, by decide⟩, am_tb 8 (by decide +kernel) rfl, Or.inr ⟨by decide, rfl, am_tb 1270 (by decide +kernel) rfl, am_tb 1271 (by decide +kernel) rfl, ⟨TX6, 16, rfl⟩, Or.inl (am_tb 1269 (by decide +kernel) rfl)⟩⟩
theorem ok_law_180 {l : Launch} (hl : l.stackTraces = false) (L : Nat) : am_Ok l WL (ROL L) (dPl plM 0 WM (d_M_bestTime 16)) := okM_in (ok_M_bestTime hl [] _ 16) vM_bestTime
theorem lk_law_181 : am_lnk RL 181 (dG 1 dL_ifFailed) := ⟨⟨by decide, by decide⟩, am_tb 0 (by decide +kernel) rfl, Or.inl ⟨by decide, rfl, am_tb 875 (by decide +kernel) rfl, Or.inl ⟨by decide, am_tb 874 (by decide +kernel) rfl⟩⟩⟩
theorem ok_law_181 {l : Launch} (hl : l.stackTraces = false) (L : Nat) : am_Ok l WL (ROL L) (dG 1 dL_ifFailed) := ok_g 1 (by decide +kernel) (Nat.le_of_ble_eq_true rfl) (okL_ifFailed hl [(5, L, [])])
theorem vM_ifFailed {ro : List Sh} : ∀ as h v, g_val (c_g (d_M_ifFailed 16) WM ro as h) = some v → isN v = true := by
  intro as h v
  show g_val (g_M_ifFailed WM ro as h) = some v → _
  unfold g_M_ifFailed
  split
  · exact fun z => by cases z; rfl
  · exact fun z => nomatch z
theorem lk_law_183 : am_lnk RL 183 (dPl plM 0 WM (d_M_ifFailed 16)) := ⟨⟨by decide, by decide⟩, am_tb 8 (by decide +kernel) rfl, Or.inr ⟨by decide, rfl, am_tb 1278 (by decide +kernel) rfl, am_tb 1279 (by decide +kernel) rfl, ⟨TX6, 16, rfl⟩, Or.inl (am_tb 1277 (by decide +kernel) rfl)⟩⟩
theorem ok_law_183 {l : Launch} (hl : l.stackTraces = false) (L : Nat) : am_Ok l WL (ROL L) (dPl plM 0 WM (d_M_ifFailed 16)) := okM_in (ok_M_ifFailed hl [] _ 16) vM_ifFailed
theorem vB_drivenShare {ro : List Sh} : ∀ as h v, g_val (c_g (d_B_drivenShare 15) WB ro as h) = some v → isN v = true := by
  intro as h v
  show g_val (g_B_drivenShare WB ro as h) = some v → _
  unfold g_B_drivenShare
  split
  · exact fun z => by cases z; rfl
  · exact fun z => nomatch z
theorem lk_law_184 : am_lnk RL 184 (dPl plB 38 WB (d_B_drivenShare 15)) := ⟨⟨by decide, by decide⟩, am_tb 1 (by decide +kernel) rfl, Or.inr ⟨by decide, rfl, am_tb 343 (by decide +kernel) rfl, am_tb 344 (by decide +kernel) rfl, ⟨TX5, 10, rfl⟩, Or.inl (am_tb 342 (by decide +kernel) rfl)⟩⟩
theorem ok_law_184 {l : Launch} (hl : l.stackTraces = false) (L : Nat) : am_Ok l WL (ROL L) (dPl plB 38 WB (d_B_drivenShare 15)) := okB_in (ok_B_drivenShare hl [] [(5, L, [])] 15) vB_drivenShare
theorem vM_drivenShare {ro : List Sh} : ∀ as h v, g_val (c_g (d_M_drivenShare 16) WM ro as h) = some v → isN v = true := by
  intro as h v
  show g_val (g_M_drivenShare WM ro as h) = some v → _
  unfold g_M_drivenShare
  split
  · exact fun z => by cases z; rfl
  · exact fun z => nomatch z
theorem lk_law_188 : am_lnk RL 188 (dPl plM 0 WM (d_M_drivenShare 16)) := ⟨⟨by decide, by decide⟩, am_tb 8 (by decide +kernel) rfl, Or.inr ⟨by decide, rfl, am_tb 1286 (by decide +kernel) rfl, am_tb 1287 (by decide +kernel) rfl, ⟨TX6, 16, rfl⟩, Or.inl (am_tb 1285 (by decide +kernel) rfl)⟩⟩
theorem ok_law_188 {l : Launch} (hl : l.stackTraces = false) (L : Nat) : am_Ok l WL (ROL L) (dPl plM 0 WM (d_M_drivenShare 16)) := okM_in (ok_M_drivenShare hl [] _ 16) vM_drivenShare
theorem vB_digest {ro : List Sh} : ∀ as h v, g_val (c_g (d_B_digest 15) WB ro as h) = some v → isN v = true := by
  intro as h v
  show g_val (g_B_digest WB ro as h) = some v → _
  unfold g_B_digest
  split
  · exact fun z => by cases z; rfl
  · exact fun z => nomatch z
theorem lk_law_189 : am_lnk RL 189 (dPl plB 38 WB (d_B_digest 15)) := ⟨⟨by decide, by decide⟩, am_tb 1 (by decide +kernel) rfl, Or.inr ⟨by decide, rfl, am_tb 360 (by decide +kernel) rfl, am_tb 361 (by decide +kernel) rfl, ⟨TX5, 10, rfl⟩, Or.inl (am_tb 359 (by decide +kernel) rfl)⟩⟩
theorem ok_law_189 {l : Launch} (hl : l.stackTraces = false) (L : Nat) : am_Ok l WL (ROL L) (dPl plB 38 WB (d_B_digest 15)) := okB_in (ok_B_digest hl [] [(5, L, [])] 15) vB_digest
theorem vM_digest {ro : List Sh} : ∀ as h v, g_val (c_g (d_M_digest 16) WM ro as h) = some v → isN v = true := by
  intro as h v
  show g_val (g_M_digest WM ro as h) = some v → _
  unfold g_M_digest
  split
  · exact fun z => by cases z; rfl
  · exact fun z => nomatch z
theorem lk_law_193 : am_lnk RL 193 (dPl plM 0 WM (d_M_digest 16)) := ⟨⟨by decide, by decide⟩, am_tb 8 (by decide +kernel) rfl, Or.inr ⟨by decide, rfl, am_tb 1294 (by decide +kernel) rfl, am_tb 1295 (by decide +kernel) rfl, ⟨TX6, 16, rfl⟩, Or.inl (am_tb 1293 (by decide +kernel) rfl)⟩⟩
theorem ok_law_193 {l : Launch} (hl : l.stackTraces = false) (L : Nat) : am_Ok l WL (ROL L) (dPl plM 0 WM (d_M_digest 16)) := okM_in (ok_M_digest hl [] _ 16) vM_digest
noncomputable def i_law : List (Nat × CD) := [(93, dG 1 dL_layover), (98, dPl plM 0 WM (d_M_layover 16)), (99, dPl plM 0 WM (d_M_thrown 16)), (102, dG 1 dL_relief), (105, dPl plM 0 WM (d_M_relief 16)), (106, dG 1 dL_trip), (109, dPl plM 0 WM (d_M_trip 16)), (110, dG 1 dL_shift), (112, dPl plM 0 WM (d_M_shift 16)), (113, dG 1 dL_set), (115, dPl plM 0 WM (d_M_set 16)), (116, dG 1 dL_follow), (118, dPl plM 0 WM (d_M_follow 16)), (119, dG 1 dL_part), (121, dPl plM 0 WM (d_M_part 16)), (122, dPl plB 38 WB (d_B_blockAll 15)), (125, dPl plM 0 WM (d_M_blockAll 16)), (126, dG 1 dL_fail), (128, dPl plM 0 WM (d_M_fail 16)), (129, dG 1 dL_append), (131, dPl plM 0 WM (d_M_append 16)), (132, dPl plB 38 WB (d_B_clearBuffer 15)), (135, dPl plM 0 WM (d_M_clearBuffer 16)), (136, dPl plB 38 WB (d_B_firstError 15)), (139, dPl plM 0 WM (d_M_firstError 16)), (140, dG 1 dL_load), (143, dPl plM 0 WM (d_M_load 16)), (144, dG 1 dL_keep), (146, dPl plM 0 WM (d_M_keep 16)), (147, dG 1 dL_goBack), (149, dPl plM 0 WM (d_M_goBack 16)), (150, dG 1 dL_undo), (152, dPl plM 0 WM (d_M_undo 16)), (153, dG 1 dL_terminalOf), (155, dPl plM 0 WM (d_M_terminalOf 16)), (156, dG 1 dL_tripOf), (158, dPl plM 0 WM (d_M_tripOf 16)), (159, dG 1 dL_blockOf), (161, dPl plM 0 WM (d_M_blockOf 16)), (162, dG 1 dL_duty), (165, dPl plM 0 WM (d_M_duty 16)), (166, dG 1 dL_count), (168, dPl plM 0 WM (d_M_count 16)), (169, dG 1 dL_setting), (171, dPl plM 0 WM (d_M_setting 16)), (172, dG 1 dL_whyNot), (174, dPl plM 0 WM (d_M_whyNot 16)), (175, dG 1 dL_ifTrip), (177, dPl plM 0 WM (d_M_ifTrip 16)), (178, dG 1 dL_bestTime), (180, dPl plM 0 WM (d_M_bestTime 16)), (181, dG 1 dL_ifFailed), (183, dPl plM 0 WM (d_M_ifFailed 16)), (184, dPl plB 38 WB (d_B_drivenShare 15)), (188, dPl plM 0 WM (d_M_drivenShare 16)), (189, dPl plB 38 WB (d_B_digest 15)), (193, dPl plM 0 WM (d_M_digest 16))]
theorem lk_law : ∀ q ∈ i_law, am_lnk RL q.1 q.2 := am_c lk_law_93 (am_c lk_law_98 (am_c lk_law_99 (am_c lk_law_102 (am_c lk_law_105 (am_c lk_law_106 (am_c lk_law_109 (am_c lk_law_110 (am_c lk_law_112 (am_c lk_law_113 (am_c lk_law_115 (am_c lk_law_116 (am_c lk_law_118 (am_c lk_law_119 (am_c lk_law_121 (am_c lk_law_122 (am_c lk_law_125 (am_c lk_law_126 (am_c lk_law_128 (am_c lk_law_129 (am_c lk_law_131 (am_c lk_law_132 (am_c lk_law_135 (am_c lk_law_136 (am_c lk_law_139 (am_c lk_law_140 (am_c lk_law_143 (am_c lk_law_144 (am_c lk_law_146 (am_c lk_law_147 (am_c lk_law_149 (am_c lk_law_150 (am_c lk_law_152 (am_c lk_law_153 (am_c lk_law_155 (am_c lk_law_156 (am_c lk_law_158 (am_c lk_law_159 (am_c lk_law_161 (am_c lk_law_162 (am_c lk_law_165 (am_c lk_law_166 (am_c lk_law_168 (am_c lk_law_169 (am_c lk_law_171 (am_c lk_law_172 (am_c lk_law_174 (am_c lk_law_175 (am_c lk_law_177 (am_c lk_law_178 (am_c lk_law_180 (am_c lk_law_181 (am_c lk_law_183 (am_c lk_law_184 (am_c lk_law_188 (am_c lk_law_189 (am_c lk_law_193 (am_n)))))))))))))))))))))))))))))))))))))))))))))))))))))))))
theorem ok_law {l : Launch} (hl : l.stackTraces = false) (L : Nat) : ∀ q ∈ i_law, am_Ok l WL (ROL L) q.2 := am_c (P := fun q : Nat × CD => am_Ok l WL (ROL L) q.2) (ok_law_93 hl L) (am_c (P := fun q : Nat × CD => am_Ok l WL (ROL L) q.2) (ok_law_98 hl L) (am_c (P := fun q : Nat × CD => am_Ok l WL (ROL L) q.2) (ok_law_99 hl L) (am_c (P := fun q : Nat × CD => am_Ok l WL (ROL L) q.2) (ok_law_102 hl L) (am_c (P := fun q : Nat × CD => am_Ok l WL (ROL L) q.2) (ok_law_105 hl L) (am_c (P := fun q : Nat × CD => am_Ok l WL (ROL L) q.2) (ok_law_106 hl L) (am_c (P := fun q : Nat × CD => am_Ok l WL (ROL L) q.2) (ok_law_109 hl L) (am_c (P := fun q : Nat × CD => am_Ok l WL (ROL L) q.2) (ok_law_110 hl L) (am_c (P := fun q : Nat × CD => am_Ok l WL (ROL L) q.2) (ok_law_112 hl L) (am_c (P := fun q : Nat × CD => am_Ok l WL (ROL L) q.2) (ok_law_113 hl L) (am_c (P := fun q : Nat × CD => am_Ok l WL (ROL L) q.2) (ok_law_115 hl L) (am_c (P := fun q : Nat × CD => am_Ok l WL (ROL L) q.2) (ok_law_116 hl L) (am_c (P := fun q : Nat × CD => am_Ok l WL (ROL L) q.2) (ok_law_118 hl L) (am_c (P := fun q : Nat × CD => am_Ok l WL (ROL L) q.2) (ok_law_119 hl L) (am_c (P := fun q : Nat × CD => am_Ok l WL (ROL L) q.2) (ok_law_121 hl L) (am_c (P := fun q : Nat × CD => am_Ok l WL (ROL L) q.2) (ok_law_122 hl L) (am_c (P := fun q : Nat × CD => am_Ok l WL (ROL L) q.2) (ok_law_125 hl L) (am_c (P := fun q : Nat × CD => am_Ok l WL (ROL L) q.2) (ok_law_126 hl L) (am_c (P := fun q : Nat × CD => am_Ok l WL (ROL L) q.2) (ok_law_128 hl L) (am_c (P := fun q : Nat × CD => am_Ok l WL (ROL L) q.2) (ok_law_129 hl L) (am_c (P := fun q : Nat × CD => am_Ok l WL (ROL L) q.2) (ok_law_131 hl L) (am_c (P := fun q : Nat × CD => am_Ok l WL (ROL L) q.2) (ok_law_132 hl L) (am_c (P := fun q : Nat × CD => am_Ok l WL (ROL L) q.2) (ok_law_135 hl L) (am_c (P := fun q : Nat × CD => am_Ok l WL (ROL L) q.2) (ok_law_136 hl L) (am_c (P := fun q : Nat × CD => am_Ok l WL (ROL L) q.2) (ok_law_139 hl L) (am_c (P := fun q : Nat × CD => am_Ok l WL (ROL L) q.2) (ok_law_140 hl L) (am_c (P := fun q : Nat × CD => am_Ok l WL (ROL L) q.2) (ok_law_143 hl L) (am_c (P := fun q : Nat × CD => am_Ok l WL (ROL L) q.2) (ok_law_144 hl L) (am_c (P := fun q : Nat × CD => am_Ok l WL (ROL L) q.2) (ok_law_146 hl L) (am_c (P := fun q : Nat × CD => am_Ok l WL (ROL L) q.2) (ok_law_147 hl L) (am_c (P := fun q : Nat × CD => am_Ok l WL (ROL L) q.2) (ok_law_149 hl L) (am_c (P := fun q : Nat × CD => am_Ok l WL (ROL L) q.2) (ok_law_150 hl L) (am_c (P := fun q : Nat × CD => am_Ok l WL (ROL L) q.2) (ok_law_152 hl L) (am_c (P := fun q : Nat × CD => am_Ok l WL (ROL L) q.2) (ok_law_153 hl L) (am_c (P := fun q : Nat × CD => am_Ok l WL (ROL L) q.2) (ok_law_155 hl L) (am_c (P := fun q : Nat × CD => am_Ok l WL (ROL L) q.2) (ok_law_156 hl L) (am_c (P := fun q : Nat × CD => am_Ok l WL (ROL L) q.2) (ok_law_158 hl L) (am_c (P := fun q : Nat × CD => am_Ok l WL (ROL L) q.2) (ok_law_159 hl L) (am_c (P := fun q : Nat × CD => am_Ok l WL (ROL L) q.2) (ok_law_161 hl L) (am_c (P := fun q : Nat × CD => am_Ok l WL (ROL L) q.2) (ok_law_162 hl L) (am_c (P := fun q : Nat × CD => am_Ok l WL (ROL L) q.2) (ok_law_165 hl L) (am_c (P := fun q : Nat × CD => am_Ok l WL (ROL L) q.2) (ok_law_166 hl L) (am_c (P := fun q : Nat × CD => am_Ok l WL (ROL L) q.2) (ok_law_168 hl L) (am_c (P := fun q : Nat × CD => am_Ok l WL (ROL L) q.2) (ok_law_169 hl L) (am_c (P := fun q : Nat × CD => am_Ok l WL (ROL L) q.2) (ok_law_171 hl L) (am_c (P := fun q : Nat × CD => am_Ok l WL (ROL L) q.2) (ok_law_172 hl L) (am_c (P := fun q : Nat × CD => am_Ok l WL (ROL L) q.2) (ok_law_174 hl L) (am_c (P := fun q : Nat × CD => am_Ok l WL (ROL L) q.2) (ok_law_175 hl L) (am_c (P := fun q : Nat × CD => am_Ok l WL (ROL L) q.2) (ok_law_177 hl L) (am_c (P := fun q : Nat × CD => am_Ok l WL (ROL L) q.2) (ok_law_178 hl L) (am_c (P := fun q : Nat × CD => am_Ok l WL (ROL L) q.2) (ok_law_180 hl L) (am_c (P := fun q : Nat × CD => am_Ok l WL (ROL L) q.2) (ok_law_181 hl L) (am_c (P := fun q : Nat × CD => am_Ok l WL (ROL L) q.2) (ok_law_183 hl L) (am_c (P := fun q : Nat × CD => am_Ok l WL (ROL L) q.2) (ok_law_184 hl L) (am_c (P := fun q : Nat × CD => am_Ok l WL (ROL L) q.2) (ok_law_188 hl L) (am_c (P := fun q : Nat × CD => am_Ok l WL (ROL L) q.2) (ok_law_189 hl L) (am_c (P := fun q : Nat × CD => am_Ok l WL (ROL L) q.2) (ok_law_193 hl L) (am_n)))))))))))))))))))))))))))))))))))))))))))))))))))))))))
noncomputable def m_law : MI := (k_law, [], i_law, [], [], [], [], 13, 504, some .boolean, fun h => am_ix (h.1 2000 0), 2000)


/-! cases, on -/
section LWC
variable {p : Program} {e : Env} {s : State} {m : MethodId} {below : List Frame} {meth : Method} {c : Code} {H : Heap} {locs : List Loc} {Q : State → Prop} {ls : Array Slot} {rest : List Value} {b L I : Nat} {xs : Nat → Int32} {Z : ow_Z} {X M : ow_S}
theorem lw_c22 (l : Launch) (C : lw_C p s m c b L xs Z) (hI : I + 7 ≤ L) (hl : lv_has ls 4 (lw_lv Z b I)) (hW : lw_W Z X M s H locs) (kk : ∀ (X M : ow_S) (H : Heap) (locs : List Loc), lw_W Z X M s H locs → W p l e room_1 s m #[Value.ref b] below meth c H locs 76 4667 Q (F0 m 1656 ls [])) : W p l e room_1 s m #[Value.ref b] below meth c H locs 76 4667 Q (F0 m 905 ls []) := by
  obtain ⟨hx, hb, hml, hown, hts, hX, hbl, hG, hd, hL⟩ := C
  obtain ⟨h8, h9, hR⟩ := hW
  obtain ⟨r, X1, M1, f8, f9, hR1⟩ := o_share 1000 (Nat.le_refl _) (xs (I + 1)) (xs (I + 2)) X M hR
  have hS := h8.2.2.1
  refine lv_aload_n hx hb dL_law_905 rfl (lv_at hl 2 rfl) ?_
  refine lw_arg 1 hx hb hX hbl hL hS hl hI (by decide) dL_law_906 dL_law_907 dL_law_908 rfl dL_law_909 dL_law_910 ?_
  refine lw_arg 2 hx hb hX hbl hL hS hl hI (by decide) dL_law_911 dL_law_912 dL_law_913 rfl dL_law_914 dL_law_915 ?_
  refine o_calli (va_runV (As := [.int (xs (I + 1)), .int (xs (I + 2))]) (rest := []) ⟨hx, hb, hml, hown, hts⟩ (c_X8_share l Z 1000 (xs (I + 1)) (xs (I + 2)) X r X1 f8) (cwV 2 hts gL_law_X8_share rfl rfl rfl (by decide +kernel) ⟨(Nat.le_of_ble_eq_true rfl), (Nat.le_of_ble_eq_true rfl)⟩) (o_preV hG h8 ow_i0 (by decide) rfl) rfl rfl hl.1 rfl (lv_room (Nat.le_of_ble_eq_true rfl)) dL_law_916 ⟨(Nat.le_of_ble_eq_true rfl), (Nat.le_of_ble_eq_true rfl)⟩) h8 (fun H1 locs1 h8 hz hk => ?_)
  have h9 := h9.kept h8.2.2.1 hk (fun q h1 h2 => hd q h2 h1)
  have hS := h8.2.2.1
  refine lv_aload_n hx hb dL_law_919 rfl (lv_at hl 1 rfl) ?_
  refine lw_arg 1 hx hb hX hbl hL hS hl hI (by decide) dL_law_920 dL_law_921 dL_law_922 rfl dL_law_923 dL_law_924 ?_
  refine lw_arg 2 hx hb hX hbl hL hS hl hI (by decide) dL_law_925 dL_law_926 dL_law_927 rfl dL_law_928 dL_law_929 ?_
  refine o_calli (va_runV (As := [.int (xs (I + 1)), .int (xs (I + 2))]) (rest := [.int r]) ⟨hx, hb, hml, hown, hts⟩ (c_X9_share l Z 1000 (xs (I + 1)) (xs (I + 2)) M r M1 f9) (cwV 2 hts gL_law_X9_share rfl rfl rfl (by decide +kernel) ⟨(Nat.le_of_ble_eq_true rfl), (Nat.le_of_ble_eq_true rfl)⟩) (o_preV hG h9 ow_i56 (by decide) rfl) rfl rfl hl.1 rfl (lv_room (Nat.le_of_ble_eq_true rfl)) dL_law_930 ⟨(Nat.le_of_ble_eq_true rfl), (Nat.le_of_ble_eq_true rfl)⟩) h9 (fun H2 locs2 h9 hz2 hk2 => ?_)
  have h8 := h8.kept h9.2.2.1 hk2 hd
  exact lv_icmp_eq (tgt := 1656) hx hb dL_law_933 (by decide) (fun _ => kk _ _ _ _ ⟨h8, h9, hR1⟩) (fun c => absurd rfl c)
theorem lw_c23 (l : Launch) (C : lw_C p s m c b L xs Z) (hI : I + 7 ≤ L) (hl : lv_has ls 4 (lw_lv Z b I)) (hW : lw_W Z X M s H locs) (kk : ∀ (X M : ow_S) (H : Heap) (locs : List Loc), lw_W Z X M s H locs → W p l e room_1 s m #[Value.ref b] below meth c H locs 76 4667 Q (F0 m 1656 ls [])) : W p l e room_1 s m #[Value.ref b] below meth c H locs 76 4667 Q (F0 m 938 ls []) := by
  obtain ⟨hx, hb, hml, hown, hts, hX, hbl, hG, hd, hL⟩ := C
  obtain ⟨h8, h9, hR⟩ := hW
  obtain ⟨r, X1, M1, f8, f9, hR1⟩ := o_states 1000 (Nat.le_refl _) (xs (I + 1)) (xs (I + 2)) (xs (I + 3)) X M hR
  have hS := h8.2.2.1
  refine lv_aload_n hx hb dL_law_938 rfl (lv_at hl 2 rfl) ?_
  refine lw_arg 1 hx hb hX hbl hL hS hl hI (by decide) dL_law_939 dL_law_940 dL_law_941 rfl dL_law_942 dL_law_943 ?_
  refine lw_arg 2 hx hb hX hbl hL hS hl hI (by decide) dL_law_944 dL_law_945 dL_law_946 rfl dL_law_947 dL_law_948 ?_
  refine lw_arg 3 hx hb hX hbl hL hS hl hI (by decide) dL_law_949 dL_law_950 dL_law_951 rfl dL_law_952 dL_law_953 ?_
  refine o_calli (va_runV (As := [.int (xs (I + 1)), .int (xs (I + 2)), .int (xs (I + 3))]) (rest := []) ⟨hx, hb, hml, hown, hts⟩ (c_X8_states l Z 1000 (xs (I + 1)) (xs (I + 2)) (xs (I + 3)) X r X1 f8) (cwV 3 hts gL_law_X8_states rfl rfl rfl (by decide +kernel) ⟨(Nat.le_of_ble_eq_true rfl), (Nat.le_of_ble_eq_true rfl)⟩) (o_preV hG h8 ow_i0 (by decide) rfl) rfl rfl hl.1 rfl (lv_room (Nat.le_of_ble_eq_true rfl)) dL_law_954 ⟨(Nat.le_of_ble_eq_true rfl), (Nat.le_of_ble_eq_true rfl)⟩) h8 (fun H1 locs1 h8 hz hk => ?_)
  have h9 := h9.kept h8.2.2.1 hk (fun q h1 h2 => hd q h2 h1)
  have hS := h8.2.2.1
  refine lv_aload_n hx hb dL_law_957 rfl (lv_at hl 1 rfl) ?_
  refine lw_arg 1 hx hb hX hbl hL hS hl hI (by decide) dL_law_958 dL_law_959 dL_law_960 rfl dL_law_961 dL_law_962 ?_
  refine lw_arg 2 hx hb hX hbl hL hS hl hI (by decide) dL_law_963 dL_law_964 dL_law_965 rfl dL_law_966 dL_law_967 ?_
  refine lw_arg 3 hx hb hX hbl hL hS hl hI (by decide) dL_law_968 dL_law_969 dL_law_970 rfl dL_law_971 dL_law_972 ?_
  refine o_calli (va_runV (As := [.int (xs (I + 1)), .int (xs (I + 2)), .int (xs (I + 3))]) (rest := [.int r]) ⟨hx, hb, hml, hown, hts⟩ (c_X9_states l Z 1000 (xs (I + 1)) (xs (I + 2)) (xs (I + 3)) M r M1 f9) (cwV 3 hts gL_law_X9_states rfl rfl rfl (by decide +kernel) ⟨(Nat.le_of_ble_eq_true rfl), (Nat.le_of_ble_eq_true rfl)⟩) (o_preV hG h9 ow_i56 (by decide) rfl) rfl rfl hl.1 rfl (lv_room (Nat.le_of_ble_eq_true rfl)) dL_law_973 ⟨(Nat.le_of_ble_eq_true rfl), (Nat.le_of_ble_eq_true rfl)⟩) h9 (fun H2 locs2 h9 hz2 hk2 => ?_)
  have h8 := h8.kept h9.2.2.1 hk2 hd
  exact lv_icmp_eq (tgt := 1656) hx hb dL_law_976 (by decide) (fun _ => kk _ _ _ _ ⟨h8, h9, hR1⟩) (fun c => absurd rfl c)
theorem lw_c24 (l : Launch) (C : lw_C p s m c b L xs Z) (hI : I + 7 ≤ L) (hl : lv_has ls 4 (lw_lv Z b I)) (hW : lw_W Z X M s H locs) (kk : ∀ (X M : ow_S) (H : Heap) (locs : List Loc), lw_W Z X M s H locs → W p l e room_1 s m #[Value.ref b] below meth c H locs 76 4667 Q (F0 m 1656 ls [])) : W p l e room_1 s m #[Value.ref b] below meth c H locs 76 4667 Q (F0 m 981 ls []) := by
  obtain ⟨hx, hb, hml, hown, hts, hX, hbl, hG, hd, hL⟩ := C
  obtain ⟨h8, h9, hR⟩ := hW
  obtain ⟨r, X1, M1, f8, f9, hR1⟩ := o_drop 1000 (Nat.le_refl _) (xs (I + 1)) (xs (I + 2)) X M hR
  have hS := h8.2.2.1
  refine lv_aload_n hx hb dL_law_981 rfl (lv_at hl 2 rfl) ?_
  refine lw_arg 1 hx hb hX hbl hL hS hl hI (by decide) dL_law_982 dL_law_983 dL_law_984 rfl dL_law_985 dL_law_986 ?_
  refine lw_arg 2 hx hb hX hbl hL hS hl hI (by decide) dL_law_987 dL_law_988 dL_law_989 rfl dL_law_990 dL_law_991 ?_
  refine o_calli (va_runV (As := [.int (xs (I + 1)), .int (xs (I + 2))]) (rest := []) ⟨hx, hb, hml, hown, hts⟩ (c_X8_drop l Z 1000 (xs (I + 1)) (xs (I + 2)) X r X1 f8) (cwV 2 hts gL_law_X8_drop rfl rfl rfl (by decide +kernel) ⟨(Nat.le_of_ble_eq_true rfl), (Nat.le_of_ble_eq_true rfl)⟩) (o_preV hG h8 ow_i0 (by decide) rfl) rfl rfl hl.1 rfl (lv_room (Nat.le_of_ble_eq_true rfl)) dL_law_992 ⟨(Nat.le_of_ble_eq_true rfl), (Nat.le_of_ble_eq_true rfl)⟩) h8 (fun H1 locs1 h8 hz hk => ?_)
  have h9 := h9.kept h8.2.2.1 hk (fun q h1 h2 => hd q h2 h1)
  have hS := h8.2.2.1
  refine lv_aload_n hx hb dL_law_995 rfl (lv_at hl 1 rfl) ?_
  refine lw_arg 1 hx hb hX hbl hL hS hl hI (by decide) dL_law_996 dL_law_997 dL_law_998 rfl dL_law_999 dL_law_1000 ?_
  refine lw_arg 2 hx hb hX hbl hL hS hl hI (by decide) dL_law_1001 dL_law_1002 dL_law_1003 rfl dL_law_1004 dL_law_1005 ?_
  refine o_calli (va_runV (As := [.int (xs (I + 1)), .int (xs (I + 2))]) (rest := [.int r]) ⟨hx, hb, hml, hown, hts⟩ (c_X9_drop l Z 1000 (xs (I + 1)) (xs (I + 2)) M r M1 f9) (cwV 2 hts gL_law_X9_drop rfl rfl rfl (by decide +kernel) ⟨(Nat.le_of_ble_eq_true rfl), (Nat.le_of_ble_eq_true rfl)⟩) (o_preV hG h9 ow_i56 (by decide) rfl) rfl rfl hl.1 rfl (lv_room (Nat.le_of_ble_eq_true rfl)) dL_law_1006 ⟨(Nat.le_of_ble_eq_true rfl), (Nat.le_of_ble_eq_true rfl)⟩) h9 (fun H2 locs2 h9 hz2 hk2 => ?_)
  have h8 := h8.kept h9.2.2.1 hk2 hd
  exact lv_icmp_eq (tgt := 1656) hx hb dL_law_1009 (by decide) (fun _ => kk _ _ _ _ ⟨h8, h9, hR1⟩) (fun c => absurd rfl c)
theorem lw_c25 (l : Launch) (C : lw_C p s m c b L xs Z) (hI : I + 7 ≤ L) (hl : lv_has ls 4 (lw_lv Z b I)) (hW : lw_W Z X M s H locs) (kk : ∀ (X M : ow_S) (H : Heap) (locs : List Loc), lw_W Z X M s H locs → W p l e room_1 s m #[Value.ref b] below meth c H locs 76 4667 Q (F0 m 1656 ls [])) : W p l e room_1 s m #[Value.ref b] below meth c H locs 76 4667 Q (F0 m 1014 ls []) := by
  obtain ⟨hx, hb, hml, hown, hts, hX, hbl, hG, hd, hL⟩ := C
  obtain ⟨h8, h9, hR⟩ := hW
  obtain ⟨r, X1, M1, f8, f9, hR1⟩ := o_often 1000 (Nat.le_refl _) (xs (I + 1)) (xs (I + 2)) (xs (I + 3)) X M hR
  have hS := h8.2.2.1
  refine lv_aload_n hx hb dL_law_1014 rfl (lv_at hl 2 rfl) ?_
  refine lw_arg 1 hx hb hX hbl hL hS hl hI (by decide) dL_law_1015 dL_law_1016 dL_law_1017 rfl dL_law_1018 dL_law_1019 ?_
  refine lw_arg 2 hx hb hX hbl hL hS hl hI (by decide) dL_law_1020 dL_law_1021 dL_law_1022 rfl dL_law_1023 dL_law_1024 ?_
  refine lw_arg 3 hx hb hX hbl hL hS hl hI (by decide) dL_law_1025 dL_law_1026 dL_law_1027 rfl dL_law_1028 dL_law_1029 ?_
  refine o_calli (va_runV (As := [.int (xs (I + 1)), .int (xs (I + 2)), .int (xs (I + 3))]) (rest := []) ⟨hx, hb, hml, hown, hts⟩ (c_X8_often l Z 1000 (xs (I + 1)) (xs (I + 2)) (xs (I + 3)) X r X1 f8) (cwV 3 hts gL_law_X8_often rfl rfl rfl (by decide +kernel) ⟨(Nat.le_of_ble_eq_true rfl), (Nat.le_of_ble_eq_true rfl)⟩) (o_preV hG h8 ow_i0 (by decide) rfl) rfl rfl hl.1 rfl (lv_room (Nat.le_of_ble_eq_true rfl)) dL_law_1030 ⟨(Nat.le_of_ble_eq_true rfl), (Nat.le_of_ble_eq_true rfl)⟩) h8 (fun H1 locs1 h8 hz hk => ?_)
  have h9 := h9.kept h8.2.2.1 hk (fun q h1 h2 => hd q h2 h1)
  have hS := h8.2.2.1
  refine lv_aload_n hx hb dL_law_1033 rfl (lv_at hl 1 rfl) ?_
  refine lw_arg 1 hx hb hX hbl hL hS hl hI (by decide) dL_law_1034 dL_law_1035 dL_law_1036 rfl dL_law_1037 dL_law_1038 ?_
  refine lw_arg 2 hx hb hX hbl hL hS hl hI (by decide) dL_law_1039 dL_law_1040 dL_law_1041 rfl dL_law_1042 dL_law_1043 ?_
  refine lw_arg 3 hx hb hX hbl hL hS hl hI (by decide) dL_law_1044 dL_law_1045 dL_law_1046 rfl dL_law_1047 dL_law_1048 ?_
  refine o_calli (va_runV (As := [.int (xs (I + 1)), .int (xs (I + 2)), .int (xs (I + 3))]) (rest := [.int r]) ⟨hx, hb, hml, hown, hts⟩ (c_X9_often l Z 1000 (xs (I + 1)) (xs (I + 2)) (xs (I + 3)) M r M1 f9) (cwV 3 hts gL_law_X9_often rfl rfl rfl (by decide +kernel) ⟨(Nat.le_of_ble_eq_true rfl), (Nat.le_of_ble_eq_true rfl)⟩) (o_preV hG h9 ow_i56 (by decide) rfl) rfl rfl hl.1 rfl (lv_room (Nat.le_of_ble_eq_true rfl)) dL_law_1049 ⟨(Nat.le_of_ble_eq_true rfl), (Nat.le_of_ble_eq_true rfl)⟩) h9 (fun H2 locs2 h9 hz2 hk2 => ?_)
  have h8 := h8.kept h9.2.2.1 hk2 hd
  exact lv_icmp_eq (tgt := 1656) hx hb dL_law_1052 (by decide) (fun _ => kk _ _ _ _ ⟨h8, h9, hR1⟩) (fun c => absurd rfl c)
theorem lw_c26 (l : Launch) (C : lw_C p s m c b L xs Z) (hI : I + 7 ≤ L) (hl : lv_has ls 4 (lw_lv Z b I)) (hW : lw_W Z X M s H locs) (kk : ∀ (X M : ow_S) (H : Heap) (locs : List Loc), lw_W Z X M s H locs → W p l e room_1 s m #[Value.ref b] below meth c H locs 76 4667 Q (F0 m 1656 ls [])) : W p l e room_1 s m #[Value.ref b] below meth c H locs 76 4667 Q (F0 m 1057 ls []) := by
  obtain ⟨hx, hb, hml, hown, hts, hX, hbl, hG, hd, hL⟩ := C
  obtain ⟨h8, h9, hR⟩ := hW
  obtain ⟨r, X1, M1, f8, f9, hR1⟩ := o_who 1000 (Nat.le_refl _) (xs (I + 1)) X M hR
  have hS := h8.2.2.1
  refine lv_aload_n hx hb dL_law_1057 rfl (lv_at hl 2 rfl) ?_
  refine lw_arg 1 hx hb hX hbl hL hS hl hI (by decide) dL_law_1058 dL_law_1059 dL_law_1060 rfl dL_law_1061 dL_law_1062 ?_
  refine o_calli (va_runV (As := [.int (xs (I + 1))]) (rest := []) ⟨hx, hb, hml, hown, hts⟩ (c_X8_who l Z 1000 (xs (I + 1)) X r X1 f8) (cwV 1 hts gL_law_X8_who rfl rfl rfl (by decide +kernel) ⟨(Nat.le_of_ble_eq_true rfl), (Nat.le_of_ble_eq_true rfl)⟩) (o_preV hG h8 ow_i0 (by decide) rfl) rfl rfl hl.1 rfl (lv_room (Nat.le_of_ble_eq_true rfl)) dL_law_1063 ⟨(Nat.le_of_ble_eq_true rfl), (Nat.le_of_ble_eq_true rfl)⟩) h8 (fun H1 locs1 h8 hz hk => ?_)
  have h9 := h9.kept h8.2.2.1 hk (fun q h1 h2 => hd q h2 h1)
  have hS := h8.2.2.1
  refine lv_aload_n hx hb dL_law_1066 rfl (lv_at hl 1 rfl) ?_
  refine lw_arg 1 hx hb hX hbl hL hS hl hI (by decide) dL_law_1067 dL_law_1068 dL_law_1069 rfl dL_law_1070 dL_law_1071 ?_
  refine o_calli (va_runV (As := [.int (xs (I + 1))]) (rest := [.int r]) ⟨hx, hb, hml, hown, hts⟩ (c_X9_who l Z 1000 (xs (I + 1)) M r M1 f9) (cwV 1 hts gL_law_X9_who rfl rfl rfl (by decide +kernel) ⟨(Nat.le_of_ble_eq_true rfl), (Nat.le_of_ble_eq_true rfl)⟩) (o_preV hG h9 ow_i56 (by decide) rfl) rfl rfl hl.1 rfl (lv_room (Nat.le_of_ble_eq_true rfl)) dL_law_1072 ⟨(Nat.le_of_ble_eq_true rfl), (Nat.le_of_ble_eq_true rfl)⟩) h9 (fun H2 locs2 h9 hz2 hk2 => ?_)
  have h8 := h8.kept h9.2.2.1 hk2 hd
  exact lv_icmp_eq (tgt := 1656) hx hb dL_law_1075 (by decide) (fun _ => kk _ _ _ _ ⟨h8, h9, hR1⟩) (fun c => absurd rfl c)
theorem lw_c27 (l : Launch) (C : lw_C p s m c b L xs Z) (hI : I + 7 ≤ L) (hl : lv_has ls 4 (lw_lv Z b I)) (hW : lw_W Z X M s H locs) (kk : ∀ (X M : ow_S) (H : Heap) (locs : List Loc), lw_W Z X M s H locs → W p l e room_1 s m #[Value.ref b] below meth c H locs 76 4667 Q (F0 m 1656 ls [])) : W p l e room_1 s m #[Value.ref b] below meth c H locs 76 4667 Q (F0 m 1080 ls []) := by
  obtain ⟨hx, hb, hml, hown, hts, hX, hbl, hG, hd, hL⟩ := C
  obtain ⟨h8, h9, hR⟩ := hW
  obtain ⟨r, X1, M1, f8, f9, hR1⟩ := o_judge 1000 (Nat.le_refl _) (xs (I + 1)) (xs (I + 2)) X M hR
  have hS := h8.2.2.1
  refine lv_aload_n hx hb dL_law_1080 rfl (lv_at hl 2 rfl) ?_
  refine lw_arg 1 hx hb hX hbl hL hS hl hI (by decide) dL_law_1081 dL_law_1082 dL_law_1083 rfl dL_law_1084 dL_law_1085 ?_
  refine lw_arg 2 hx hb hX hbl hL hS hl hI (by decide) dL_law_1086 dL_law_1087 dL_law_1088 rfl dL_law_1089 dL_law_1090 ?_
  refine o_calli (va_runV (As := [.int (xs (I + 1)), .int (xs (I + 2))]) (rest := []) ⟨hx, hb, hml, hown, hts⟩ (c_X8_judge l Z 1000 (xs (I + 1)) (xs (I + 2)) X r X1 f8) (cwV 2 hts gL_law_X8_judge rfl rfl rfl (by decide +kernel) ⟨(Nat.le_of_ble_eq_true rfl), (Nat.le_of_ble_eq_true rfl)⟩) (o_preV hG h8 ow_i0 (by decide) rfl) rfl rfl hl.1 rfl (lv_room (Nat.le_of_ble_eq_true rfl)) dL_law_1091 ⟨(Nat.le_of_ble_eq_true rfl), (Nat.le_of_ble_eq_true rfl)⟩) h8 (fun H1 locs1 h8 hz hk => ?_)
  have h9 := h9.kept h8.2.2.1 hk (fun q h1 h2 => hd q h2 h1)
  have hS := h8.2.2.1
  refine lv_aload_n hx hb dL_law_1094 rfl (lv_at hl 1 rfl) ?_
  refine lw_arg 1 hx hb hX hbl hL hS hl hI (by decide) dL_law_1095 dL_law_1096 dL_law_1097 rfl dL_law_1098 dL_law_1099 ?_
  refine lw_arg 2 hx hb hX hbl hL hS hl hI (by decide) dL_law_1100 dL_law_1101 dL_law_1102 rfl dL_law_1103 dL_law_1104 ?_
  refine o_calli (va_runV (As := [.int (xs (I + 1)), .int (xs (I + 2))]) (rest := [.int r]) ⟨hx, hb, hml, hown, hts⟩ (c_X9_judge l Z 1000 (xs (I + 1)) (xs (I + 2)) M r M1 f9) (cwV 2 hts gL_law_X9_judge rfl rfl rfl (by decide +kernel) ⟨(Nat.le_of_ble_eq_true rfl), (Nat.le_of_ble_eq_true rfl)⟩) (o_preV hG h9 ow_i56 (by decide) rfl) rfl rfl hl.1 rfl (lv_room (Nat.le_of_ble_eq_true rfl)) dL_law_1105 ⟨(Nat.le_of_ble_eq_true rfl), (Nat.le_of_ble_eq_true rfl)⟩) h9 (fun H2 locs2 h9 hz2 hk2 => ?_)
  have h8 := h8.kept h9.2.2.1 hk2 hd
  exact lv_icmp_eq (tgt := 1656) hx hb dL_law_1108 (by decide) (fun _ => kk _ _ _ _ ⟨h8, h9, hR1⟩) (fun c => absurd rfl c)
theorem lw_c28 (l : Launch) (C : lw_C p s m c b L xs Z) (hI : I + 7 ≤ L) (hl : lv_has ls 4 (lw_lv Z b I)) (hW : lw_W Z X M s H locs) (kk : ∀ (X M : ow_S) (H : Heap) (locs : List Loc), lw_W Z X M s H locs → W p l e room_1 s m #[Value.ref b] below meth c H locs 76 4667 Q (F0 m 1656 ls [])) : W p l e room_1 s m #[Value.ref b] below meth c H locs 76 4667 Q (F0 m 1113 ls []) := by
  obtain ⟨hx, hb, hml, hown, hts, hX, hbl, hG, hd, hL⟩ := C
  obtain ⟨h8, h9, hR⟩ := hW
  obtain ⟨r, X1, M1, f8, f9, hR1⟩ := o_kinds 1000 (Nat.le_refl _) (xs (I + 1)) (xs (I + 2)) (xs (I + 3)) X M hR
  have hS := h8.2.2.1
  refine lv_aload_n hx hb dL_law_1113 rfl (lv_at hl 2 rfl) ?_
  refine lw_arg 1 hx hb hX hbl hL hS hl hI (by decide) dL_law_1114 dL_law_1115 dL_law_1116 rfl dL_law_1117 dL_law_1118 ?_
  refine lw_arg 2 hx hb hX hbl hL hS hl hI (by decide) dL_law_1119 dL_law_1120 dL_law_1121 rfl dL_law_1122 dL_law_1123 ?_
  refine lw_arg 3 hx hb hX hbl hL hS hl hI (by decide) dL_law_1124 dL_law_1125 dL_law_1126 rfl dL_law_1127 dL_law_1128 ?_
  refine o_calli (va_runV (As := [.int (xs (I + 1)), .int (xs (I + 2)), .int (xs (I + 3))]) (rest := []) ⟨hx, hb, hml, hown, hts⟩ (c_X8_kinds l Z 1000 (xs (I + 1)) (xs (I + 2)) (xs (I + 3)) X r X1 f8) (cwV 3 hts gL_law_X8_kinds rfl rfl rfl (by decide +kernel) ⟨(Nat.le_of_ble_eq_true rfl), (Nat.le_of_ble_eq_true rfl)⟩) (o_preV hG h8 ow_i0 (by decide) rfl) rfl rfl hl.1 rfl (lv_room (Nat.le_of_ble_eq_true rfl)) dL_law_1129 ⟨(Nat.le_of_ble_eq_true rfl), (Nat.le_of_ble_eq_true rfl)⟩) h8 (fun H1 locs1 h8 hz hk => ?_)
  have h9 := h9.kept h8.2.2.1 hk (fun q h1 h2 => hd q h2 h1)
  have hS := h8.2.2.1
  refine lv_aload_n hx hb dL_law_1132 rfl (lv_at hl 1 rfl) ?_
  refine lw_arg 1 hx hb hX hbl hL hS hl hI (by decide) dL_law_1133 dL_law_1134 dL_law_1135 rfl dL_law_1136 dL_law_1137 ?_
  refine lw_arg 2 hx hb hX hbl hL hS hl hI (by decide) dL_law_1138 dL_law_1139 dL_law_1140 rfl dL_law_1141 dL_law_1142 ?_
  refine lw_arg 3 hx hb hX hbl hL hS hl hI (by decide) dL_law_1143 dL_law_1144 dL_law_1145 rfl dL_law_1146 dL_law_1147 ?_
  refine o_calli (va_runV (As := [.int (xs (I + 1)), .int (xs (I + 2)), .int (xs (I + 3))]) (rest := [.int r]) ⟨hx, hb, hml, hown, hts⟩ (c_X9_kinds l Z 1000 (xs (I + 1)) (xs (I + 2)) (xs (I + 3)) M r M1 f9) (cwV 3 hts gL_law_X9_kinds rfl rfl rfl (by decide +kernel) ⟨(Nat.le_of_ble_eq_true rfl), (Nat.le_of_ble_eq_true rfl)⟩) (o_preV hG h9 ow_i56 (by decide) rfl) rfl rfl hl.1 rfl (lv_room (Nat.le_of_ble_eq_true rfl)) dL_law_1148 ⟨(Nat.le_of_ble_eq_true rfl), (Nat.le_of_ble_eq_true rfl)⟩) h9 (fun H2 locs2 h9 hz2 hk2 => ?_)
  have h8 := h8.kept h9.2.2.1 hk2 hd
  exact lv_icmp_eq (tgt := 1656) hx hb dL_law_1151 (by decide) (fun _ => kk _ _ _ _ ⟨h8, h9, hR1⟩) (fun c => absurd rfl c)
theorem lw_c29 (l : Launch) (C : lw_C p s m c b L xs Z) (hI : I + 7 ≤ L) (hl : lv_has ls 4 (lw_lv Z b I)) (hW : lw_W Z X M s H locs) (kk : ∀ (X M : ow_S) (H : Heap) (locs : List Loc), lw_W Z X M s H locs → W p l e room_1 s m #[Value.ref b] below meth c H locs 76 4667 Q (F0 m 1656 ls [])) : W p l e room_1 s m #[Value.ref b] below meth c H locs 76 4667 Q (F0 m 1156 ls []) := by
  obtain ⟨hx, hb, hml, hown, hts, hX, hbl, hG, hd, hL⟩ := C
  obtain ⟨h8, h9, hR⟩ := hW
  obtain ⟨r, X1, M1, f8, f9, hR1⟩ := o_begins 1000 (Nat.le_refl _) (xs (I + 1)) (xs (I + 2)) (xs (I + 3)) X M hR
  have hS := h8.2.2.1
  refine lv_aload_n hx hb dL_law_1156 rfl (lv_at hl 2 rfl) ?_
  refine lw_arg 1 hx hb hX hbl hL hS hl hI (by decide) dL_law_1157 dL_law_1158 dL_law_1159 rfl dL_law_1160 dL_law_1161 ?_
  refine lw_arg 2 hx hb hX hbl hL hS hl hI (by decide) dL_law_1162 dL_law_1163 dL_law_1164 rfl dL_law_1165 dL_law_1166 ?_
  refine lw_arg 3 hx hb hX hbl hL hS hl hI (by decide) dL_law_1167 dL_law_1168 dL_law_1169 rfl dL_law_1170 dL_law_1171 ?_
  refine o_calli (va_runV (As := [.int (xs (I + 1)), .int (xs (I + 2)), .int (xs (I + 3))]) (rest := []) ⟨hx, hb, hml, hown, hts⟩ (c_X8_begins l Z 1000 (xs (I + 1)) (xs (I + 2)) (xs (I + 3)) X r X1 f8) (cwV 3 hts gL_law_X8_begins rfl rfl rfl (by decide +kernel) ⟨(Nat.le_of_ble_eq_true rfl), (Nat.le_of_ble_eq_true rfl)⟩) (o_preV hG h8 ow_i0 (by decide) rfl) rfl rfl hl.1 rfl (lv_room (Nat.le_of_ble_eq_true rfl)) dL_law_1172 ⟨(Nat.le_of_ble_eq_true rfl), (Nat.le_of_ble_eq_true rfl)⟩) h8 (fun H1 locs1 h8 hz hk => ?_)
  have h9 := h9.kept h8.2.2.1 hk (fun q h1 h2 => hd q h2 h1)
  have hS := h8.2.2.1
  refine lv_aload_n hx hb dL_law_1175 rfl (lv_at hl 1 rfl) ?_
  refine lw_arg 1 hx hb hX hbl hL hS hl hI (by decide) dL_law_1176 dL_law_1177 dL_law_1178 rfl dL_law_1179 dL_law_1180 ?_
  refine lw_arg 2 hx hb hX hbl hL hS hl hI (by decide) dL_law_1181 dL_law_1182 dL_law_1183 rfl dL_law_1184 dL_law_1185 ?_
  refine lw_arg 3 hx hb hX hbl hL hS hl hI (by decide) dL_law_1186 dL_law_1187 dL_law_1188 rfl dL_law_1189 dL_law_1190 ?_
  refine o_calli (va_runV (As := [.int (xs (I + 1)), .int (xs (I + 2)), .int (xs (I + 3))]) (rest := [.int r]) ⟨hx, hb, hml, hown, hts⟩ (c_X9_begins l Z 1000 (xs (I + 1)) (xs (I + 2)) (xs (I + 3)) M r M1 f9) (cwV 3 hts gL_law_X9_begins rfl rfl rfl (by decide +kernel) ⟨(Nat.le_of_ble_eq_true rfl), (Nat.le_of_ble_eq_true rfl)⟩) (o_preV hG h9 ow_i56 (by decide) rfl) rfl rfl hl.1 rfl (lv_room (Nat.le_of_ble_eq_true rfl)) dL_law_1191 ⟨(Nat.le_of_ble_eq_true rfl), (Nat.le_of_ble_eq_true rfl)⟩) h9 (fun H2 locs2 h9 hz2 hk2 => ?_)
  have h8 := h8.kept h9.2.2.1 hk2 hd
  exact lv_icmp_eq (tgt := 1656) hx hb dL_law_1194 (by decide) (fun _ => kk _ _ _ _ ⟨h8, h9, hR1⟩) (fun c => absurd rfl c)
theorem lw_c30 (l : Launch) (C : lw_C p s m c b L xs Z) (hI : I + 7 ≤ L) (hl : lv_has ls 4 (lw_lv Z b I)) (hW : lw_W Z X M s H locs) (kk : ∀ (X M : ow_S) (H : Heap) (locs : List Loc), lw_W Z X M s H locs → W p l e room_1 s m #[Value.ref b] below meth c H locs 76 4667 Q (F0 m 1656 ls [])) : W p l e room_1 s m #[Value.ref b] below meth c H locs 76 4667 Q (F0 m 1199 ls []) := by
  obtain ⟨hx, hb, hml, hown, hts, hX, hbl, hG, hd, hL⟩ := C
  obtain ⟨h8, h9, hR⟩ := hW
  obtain ⟨r, X1, M1, f8, f9, hR1⟩ := o_laws 1000 (Nat.le_refl _) (xs (I + 1)) (xs (I + 2)) X M hR
  have hS := h8.2.2.1
  refine lv_aload_n hx hb dL_law_1199 rfl (lv_at hl 2 rfl) ?_
  refine lw_arg 1 hx hb hX hbl hL hS hl hI (by decide) dL_law_1200 dL_law_1201 dL_law_1202 rfl dL_law_1203 dL_law_1204 ?_
  refine lw_arg 2 hx hb hX hbl hL hS hl hI (by decide) dL_law_1205 dL_law_1206 dL_law_1207 rfl dL_law_1208 dL_law_1209 ?_
  refine o_calli (va_runV (As := [.int (xs (I + 1)), .int (xs (I + 2))]) (rest := []) ⟨hx, hb, hml, hown, hts⟩ (c_X8_laws l Z 1000 (xs (I + 1)) (xs (I + 2)) X r X1 f8) (cwV 2 hts gL_law_X8_laws rfl rfl rfl (by decide +kernel) ⟨(Nat.le_of_ble_eq_true rfl), (Nat.le_of_ble_eq_true rfl)⟩) (o_preV hG h8 ow_i0 (by decide) rfl) rfl rfl hl.1 rfl (lv_room (Nat.le_of_ble_eq_true rfl)) dL_law_1210 ⟨(Nat.le_of_ble_eq_true rfl), (Nat.le_of_ble_eq_true rfl)⟩) h8 (fun H1 locs1 h8 hz hk => ?_)
  have h9 := h9.kept h8.2.2.1 hk (fun q h1 h2 => hd q h2 h1)
  have hS := h8.2.2.1
  refine lv_aload_n hx hb dL_law_1213 rfl (lv_at hl 1 rfl) ?_
  refine lw_arg 1 hx hb hX hbl hL hS hl hI (by decide) dL_law_1214 dL_law_1215 dL_law_1216 rfl dL_law_1217 dL_law_1218 ?_
  refine lw_arg 2 hx hb hX hbl hL hS hl hI (by decide) dL_law_1219 dL_law_1220 dL_law_1221 rfl dL_law_1222 dL_law_1223 ?_
  refine o_calli (va_runV (As := [.int (xs (I + 1)), .int (xs (I + 2))]) (rest := [.int r]) ⟨hx, hb, hml, hown, hts⟩ (c_X9_laws l Z 1000 (xs (I + 1)) (xs (I + 2)) M r M1 f9) (cwV 2 hts gL_law_X9_laws rfl rfl rfl (by decide +kernel) ⟨(Nat.le_of_ble_eq_true rfl), (Nat.le_of_ble_eq_true rfl)⟩) (o_preV hG h9 ow_i56 (by decide) rfl) rfl rfl hl.1 rfl (lv_room (Nat.le_of_ble_eq_true rfl)) dL_law_1224 ⟨(Nat.le_of_ble_eq_true rfl), (Nat.le_of_ble_eq_true rfl)⟩) h9 (fun H2 locs2 h9 hz2 hk2 => ?_)
  have h8 := h8.kept h9.2.2.1 hk2 hd
  exact lv_icmp_eq (tgt := 1656) hx hb dL_law_1227 (by decide) (fun _ => kk _ _ _ _ ⟨h8, h9, hR1⟩) (fun c => absurd rfl c)
theorem lw_c31 (l : Launch) (C : lw_C p s m c b L xs Z) (hI : I + 7 ≤ L) (hl : lv_has ls 4 (lw_lv Z b I)) (hW : lw_W Z X M s H locs) (kk : ∀ (X M : ow_S) (H : Heap) (locs : List Loc), lw_W Z X M s H locs → W p l e room_1 s m #[Value.ref b] below meth c H locs 76 4667 Q (F0 m 1656 ls [])) : W p l e room_1 s m #[Value.ref b] below meth c H locs 76 4667 Q (F0 m 1232 ls []) := by
  obtain ⟨hx, hb, hml, hown, hts, hX, hbl, hG, hd, hL⟩ := C
  obtain ⟨h8, h9, hR⟩ := hW
  obtain ⟨r, X1, M1, f8, f9, hR1⟩ := o_whose 1000 (Nat.le_refl _) (xs (I + 1)) X M hR
  have hS := h8.2.2.1
  refine lv_aload_n hx hb dL_law_1232 rfl (lv_at hl 2 rfl) ?_
  refine lw_arg 1 hx hb hX hbl hL hS hl hI (by decide) dL_law_1233 dL_law_1234 dL_law_1235 rfl dL_law_1236 dL_law_1237 ?_
  refine o_calli (va_runV (As := [.int (xs (I + 1))]) (rest := []) ⟨hx, hb, hml, hown, hts⟩ (c_X8_whose l Z 1000 (xs (I + 1)) X r X1 f8) (cwV 1 hts gL_law_X8_whose rfl rfl rfl (by decide +kernel) ⟨(Nat.le_of_ble_eq_true rfl), (Nat.le_of_ble_eq_true rfl)⟩) (o_preV hG h8 ow_i0 (by decide) rfl) rfl rfl hl.1 rfl (lv_room (Nat.le_of_ble_eq_true rfl)) dL_law_1238 ⟨(Nat.le_of_ble_eq_true rfl), (Nat.le_of_ble_eq_true rfl)⟩) h8 (fun H1 locs1 h8 hz hk => ?_)
  have h9 := h9.kept h8.2.2.1 hk (fun q h1 h2 => hd q h2 h1)
  have hS := h8.2.2.1
  refine lv_aload_n hx hb dL_law_1241 rfl (lv_at hl 1 rfl) ?_
  refine lw_arg 1 hx hb hX hbl hL hS hl hI (by decide) dL_law_1242 dL_law_1243 dL_law_1244 rfl dL_law_1245 dL_law_1246 ?_
  refine o_calli (va_runV (As := [.int (xs (I + 1))]) (rest := [.int r]) ⟨hx, hb, hml, hown, hts⟩ (c_X9_whose l Z 1000 (xs (I + 1)) M r M1 f9) (cwV 1 hts gL_law_X9_whose rfl rfl rfl (by decide +kernel) ⟨(Nat.le_of_ble_eq_true rfl), (Nat.le_of_ble_eq_true rfl)⟩) (o_preV hG h9 ow_i56 (by decide) rfl) rfl rfl hl.1 rfl (lv_room (Nat.le_of_ble_eq_true rfl)) dL_law_1247 ⟨(Nat.le_of_ble_eq_true rfl), (Nat.le_of_ble_eq_true rfl)⟩) h9 (fun H2 locs2 h9 hz2 hk2 => ?_)
  have h8 := h8.kept h9.2.2.1 hk2 hd
  exact lv_icmp_eq (tgt := 1656) hx hb dL_law_1250 (by decide) (fun _ => kk _ _ _ _ ⟨h8, h9, hR1⟩) (fun c => absurd rfl c)
theorem lw_c32 (l : Launch) (C : lw_C p s m c b L xs Z) (hI : I + 7 ≤ L) (hl : lv_has ls 4 (lw_lv Z b I)) (hW : lw_W Z X M s H locs) (kk : ∀ (X M : ow_S) (H : Heap) (locs : List Loc), lw_W Z X M s H locs → W p l e room_1 s m #[Value.ref b] below meth c H locs 76 4667 Q (F0 m 1656 ls [])) : W p l e room_1 s m #[Value.ref b] below meth c H locs 76 4667 Q (F0 m 1255 ls []) := by
  obtain ⟨hx, hb, hml, hown, hts, hX, hbl, hG, hd, hL⟩ := C
  obtain ⟨h8, h9, hR⟩ := hW
  obtain ⟨r, X1, M1, f8, f9, hR1⟩ := o_film 1000 (Nat.le_refl _) (xs (I + 1)) (xs (I + 2)) (xs (I + 3)) X M hR
  have hS := h8.2.2.1
  refine lv_aload_n hx hb dL_law_1255 rfl (lv_at hl 2 rfl) ?_
  refine lw_arg 1 hx hb hX hbl hL hS hl hI (by decide) dL_law_1256 dL_law_1257 dL_law_1258 rfl dL_law_1259 dL_law_1260 ?_
  refine lw_arg 2 hx hb hX hbl hL hS hl hI (by decide) dL_law_1261 dL_law_1262 dL_law_1263 rfl dL_law_1264 dL_law_1265 ?_
  refine lw_arg 3 hx hb hX hbl hL hS hl hI (by decide) dL_law_1266 dL_law_1267 dL_law_1268 rfl dL_law_1269 dL_law_1270 ?_
  refine o_calli (va_runV (As := [.int (xs (I + 1)), .int (xs (I + 2)), .int (xs (I + 3))]) (rest := []) ⟨hx, hb, hml, hown, hts⟩ (c_X8_film l Z 1000 (xs (I + 1)) (xs (I + 2)) (xs (I + 3)) X r X1 f8) (cwV 3 hts gL_law_X8_film rfl rfl rfl (by decide +kernel) ⟨(Nat.le_of_ble_eq_true rfl), (Nat.le_of_ble_eq_true rfl)⟩) (o_preV hG h8 ow_i0 (by decide) rfl) rfl rfl hl.1 rfl (lv_room (Nat.le_of_ble_eq_true rfl)) dL_law_1271 ⟨(Nat.le_of_ble_eq_true rfl), (Nat.le_of_ble_eq_true rfl)⟩) h8 (fun H1 locs1 h8 hz hk => ?_)
  have h9 := h9.kept h8.2.2.1 hk (fun q h1 h2 => hd q h2 h1)
  have hS := h8.2.2.1
  refine lv_aload_n hx hb dL_law_1274 rfl (lv_at hl 1 rfl) ?_
  refine lw_arg 1 hx hb hX hbl hL hS hl hI (by decide) dL_law_1275 dL_law_1276 dL_law_1277 rfl dL_law_1278 dL_law_1279 ?_
  refine lw_arg 2 hx hb hX hbl hL hS hl hI (by decide) dL_law_1280 dL_law_1281 dL_law_1282 rfl dL_law_1283 dL_law_1284 ?_
  refine lw_arg 3 hx hb hX hbl hL hS hl hI (by decide) dL_law_1285 dL_law_1286 dL_law_1287 rfl dL_law_1288 dL_law_1289 ?_
  refine o_calli (va_runV (As := [.int (xs (I + 1)), .int (xs (I + 2)), .int (xs (I + 3))]) (rest := [.int r]) ⟨hx, hb, hml, hown, hts⟩ (c_X9_film l Z 1000 (xs (I + 1)) (xs (I + 2)) (xs (I + 3)) M r M1 f9) (cwV 3 hts gL_law_X9_film rfl rfl rfl (by decide +kernel) ⟨(Nat.le_of_ble_eq_true rfl), (Nat.le_of_ble_eq_true rfl)⟩) (o_preV hG h9 ow_i56 (by decide) rfl) rfl rfl hl.1 rfl (lv_room (Nat.le_of_ble_eq_true rfl)) dL_law_1290 ⟨(Nat.le_of_ble_eq_true rfl), (Nat.le_of_ble_eq_true rfl)⟩) h9 (fun H2 locs2 h9 hz2 hk2 => ?_)
  have h8 := h8.kept h9.2.2.1 hk2 hd
  exact lv_icmp_eq (tgt := 1656) hx hb dL_law_1293 (by decide) (fun _ => kk _ _ _ _ ⟨h8, h9, hR1⟩) (fun c => absurd rfl c)
theorem lw_c33 (l : Launch) (C : lw_C p s m c b L xs Z) (hI : I + 7 ≤ L) (hl : lv_has ls 4 (lw_lv Z b I)) (hW : lw_W Z X M s H locs) (kk : ∀ (X M : ow_S) (H : Heap) (locs : List Loc), lw_W Z X M s H locs → W p l e room_1 s m #[Value.ref b] below meth c H locs 76 4667 Q (F0 m 1656 ls [])) : W p l e room_1 s m #[Value.ref b] below meth c H locs 76 4667 Q (F0 m 1298 ls []) := by
  obtain ⟨hx, hb, hml, hown, hts, hX, hbl, hG, hd, hL⟩ := C
  obtain ⟨h8, h9, hR⟩ := hW
  obtain ⟨r, X1, M1, f8, f9, hR1⟩ := o_drawn 1000 (Nat.le_refl _) (xs (I + 1)) (xs (I + 2)) (xs (I + 3)) X M hR
  have hS := h8.2.2.1
  refine lv_aload_n hx hb dL_law_1298 rfl (lv_at hl 2 rfl) ?_
  refine lw_arg 1 hx hb hX hbl hL hS hl hI (by decide) dL_law_1299 dL_law_1300 dL_law_1301 rfl dL_law_1302 dL_law_1303 ?_
  refine lw_arg 2 hx hb hX hbl hL hS hl hI (by decide) dL_law_1304 dL_law_1305 dL_law_1306 rfl dL_law_1307 dL_law_1308 ?_
  refine lw_arg 3 hx hb hX hbl hL hS hl hI (by decide) dL_law_1309 dL_law_1310 dL_law_1311 rfl dL_law_1312 dL_law_1313 ?_
  refine o_calli (va_runV (As := [.int (xs (I + 1)), .int (xs (I + 2)), .int (xs (I + 3))]) (rest := []) ⟨hx, hb, hml, hown, hts⟩ (c_X8_drawn l Z 1000 (xs (I + 1)) (xs (I + 2)) (xs (I + 3)) X r X1 f8) (cwV 3 hts gL_law_X8_drawn rfl rfl rfl (by decide +kernel) ⟨(Nat.le_of_ble_eq_true rfl), (Nat.le_of_ble_eq_true rfl)⟩) (o_preV hG h8 ow_i0 (by decide) rfl) rfl rfl hl.1 rfl (lv_room (Nat.le_of_ble_eq_true rfl)) dL_law_1314 ⟨(Nat.le_of_ble_eq_true rfl), (Nat.le_of_ble_eq_true rfl)⟩) h8 (fun H1 locs1 h8 hz hk => ?_)
  have h9 := h9.kept h8.2.2.1 hk (fun q h1 h2 => hd q h2 h1)
  have hS := h8.2.2.1
  refine lv_aload_n hx hb dL_law_1317 rfl (lv_at hl 1 rfl) ?_
  refine lw_arg 1 hx hb hX hbl hL hS hl hI (by decide) dL_law_1318 dL_law_1319 dL_law_1320 rfl dL_law_1321 dL_law_1322 ?_
  refine lw_arg 2 hx hb hX hbl hL hS hl hI (by decide) dL_law_1323 dL_law_1324 dL_law_1325 rfl dL_law_1326 dL_law_1327 ?_
  refine lw_arg 3 hx hb hX hbl hL hS hl hI (by decide) dL_law_1328 dL_law_1329 dL_law_1330 rfl dL_law_1331 dL_law_1332 ?_
  refine o_calli (va_runV (As := [.int (xs (I + 1)), .int (xs (I + 2)), .int (xs (I + 3))]) (rest := [.int r]) ⟨hx, hb, hml, hown, hts⟩ (c_X9_drawn l Z 1000 (xs (I + 1)) (xs (I + 2)) (xs (I + 3)) M r M1 f9) (cwV 3 hts gL_law_X9_drawn rfl rfl rfl (by decide +kernel) ⟨(Nat.le_of_ble_eq_true rfl), (Nat.le_of_ble_eq_true rfl)⟩) (o_preV hG h9 ow_i56 (by decide) rfl) rfl rfl hl.1 rfl (lv_room (Nat.le_of_ble_eq_true rfl)) dL_law_1333 ⟨(Nat.le_of_ble_eq_true rfl), (Nat.le_of_ble_eq_true rfl)⟩) h9 (fun H2 locs2 h9 hz2 hk2 => ?_)
  have h8 := h8.kept h9.2.2.1 hk2 hd
  exact lv_icmp_eq (tgt := 1656) hx hb dL_law_1336 (by decide) (fun _ => kk _ _ _ _ ⟨h8, h9, hR1⟩) (fun c => absurd rfl c)
theorem lw_c34 (l : Launch) (C : lw_C p s m c b L xs Z) (hI : I + 7 ≤ L) (hl : lv_has ls 4 (lw_lv Z b I)) (hW : lw_W Z X M s H locs) (kk : ∀ (X M : ow_S) (H : Heap) (locs : List Loc), lw_W Z X M s H locs → W p l e room_1 s m #[Value.ref b] below meth c H locs 76 4667 Q (F0 m 1656 ls [])) : W p l e room_1 s m #[Value.ref b] below meth c H locs 76 4667 Q (F0 m 1341 ls []) := by
  obtain ⟨hx, hb, hml, hown, hts, hX, hbl, hG, hd, hL⟩ := C
  obtain ⟨h8, h9, hR⟩ := hW
  obtain ⟨r, X1, M1, f8, f9, hR1⟩ := o_odds 1000 (Nat.le_refl _) (xs (I + 1)) (xs (I + 2)) (xs (I + 3)) (xs (I + 4)) X M hR
  have hS := h8.2.2.1
  refine lv_aload_n hx hb dL_law_1341 rfl (lv_at hl 2 rfl) ?_
  refine lw_arg 1 hx hb hX hbl hL hS hl hI (by decide) dL_law_1342 dL_law_1343 dL_law_1344 rfl dL_law_1345 dL_law_1346 ?_
  refine lw_arg 2 hx hb hX hbl hL hS hl hI (by decide) dL_law_1347 dL_law_1348 dL_law_1349 rfl dL_law_1350 dL_law_1351 ?_
  refine lw_arg 3 hx hb hX hbl hL hS hl hI (by decide) dL_law_1352 dL_law_1353 dL_law_1354 rfl dL_law_1355 dL_law_1356 ?_
  refine lw_arg 4 hx hb hX hbl hL hS hl hI (by decide) dL_law_1357 dL_law_1358 dL_law_1359 rfl dL_law_1360 dL_law_1361 ?_
  refine o_calll (va_runV (As := [.int (xs (I + 1)), .int (xs (I + 2)), .int (xs (I + 3)), .int (xs (I + 4))]) (rest := []) ⟨hx, hb, hml, hown, hts⟩ (c_X8_odds l Z 1000 (xs (I + 1)) (xs (I + 2)) (xs (I + 3)) (xs (I + 4)) X r X1 f8) (cwV 4 hts gL_law_X8_odds rfl rfl rfl (by decide +kernel) ⟨(Nat.le_of_ble_eq_true rfl), (Nat.le_of_ble_eq_true rfl)⟩) (o_preV hG h8 ow_i0 (by decide) rfl) rfl rfl hl.1 rfl (lv_room (Nat.le_of_ble_eq_true rfl)) dL_law_1362 ⟨(Nat.le_of_ble_eq_true rfl), (Nat.le_of_ble_eq_true rfl)⟩) h8 (fun H1 locs1 h8 hz hk => ?_)
  have h9 := h9.kept h8.2.2.1 hk (fun q h1 h2 => hd q h2 h1)
  have hS := h8.2.2.1
  refine lv_aload_n hx hb dL_law_1365 rfl (lv_at hl 1 rfl) ?_
  refine lw_arg 1 hx hb hX hbl hL hS hl hI (by decide) dL_law_1366 dL_law_1367 dL_law_1368 rfl dL_law_1369 dL_law_1370 ?_
  refine lw_arg 2 hx hb hX hbl hL hS hl hI (by decide) dL_law_1371 dL_law_1372 dL_law_1373 rfl dL_law_1374 dL_law_1375 ?_
  refine lw_arg 3 hx hb hX hbl hL hS hl hI (by decide) dL_law_1376 dL_law_1377 dL_law_1378 rfl dL_law_1379 dL_law_1380 ?_
  refine lw_arg 4 hx hb hX hbl hL hS hl hI (by decide) dL_law_1381 dL_law_1382 dL_law_1383 rfl dL_law_1384 dL_law_1385 ?_
  refine o_calll (va_runV (As := [.int (xs (I + 1)), .int (xs (I + 2)), .int (xs (I + 3)), .int (xs (I + 4))]) (rest := [.long r]) ⟨hx, hb, hml, hown, hts⟩ (c_X9_odds l Z 1000 (xs (I + 1)) (xs (I + 2)) (xs (I + 3)) (xs (I + 4)) M r M1 f9) (cwV 4 hts gL_law_X9_odds rfl rfl rfl (by decide +kernel) ⟨(Nat.le_of_ble_eq_true rfl), (Nat.le_of_ble_eq_true rfl)⟩) (o_preV hG h9 ow_i56 (by decide) rfl) rfl rfl hl.1 rfl (lv_room (Nat.le_of_ble_eq_true rfl)) dL_law_1386 ⟨(Nat.le_of_ble_eq_true rfl), (Nat.le_of_ble_eq_true rfl)⟩) h9 (fun H2 locs2 h9 hz2 hk2 => ?_)
  have h8 := h8.kept h9.2.2.1 hk2 hd
  refine W.lcmp hx hb dL_law_1389 ?_
  rw [lg_cmp_same]
  exact lv_if_eq (tgt := 1656) hx hb dL_law_1390 (by decide) (fun _ => kk _ _ _ _ ⟨h8, h9, hR1⟩) (fun c => absurd rfl c)
theorem lw_c35 (l : Launch) (C : lw_C p s m c b L xs Z) (hI : I + 7 ≤ L) (hl : lv_has ls 4 (lw_lv Z b I)) (hW : lw_W Z X M s H locs) (kk : ∀ (X M : ow_S) (H : Heap) (locs : List Loc), lw_W Z X M s H locs → W p l e room_1 s m #[Value.ref b] below meth c H locs 76 4667 Q (F0 m 1656 ls [])) : W p l e room_1 s m #[Value.ref b] below meth c H locs 76 4667 Q (F0 m 1395 ls []) := by
  obtain ⟨hx, hb, hml, hown, hts, hX, hbl, hG, hd, hL⟩ := C
  obtain ⟨h8, h9, hR⟩ := hW
  obtain ⟨r, X1, M1, f8, f9, hR1⟩ := o_image 1000 (Nat.le_refl _) X M hR
  have hS := h8.2.2.1
  refine lv_aload_n hx hb dL_law_1395 rfl (lv_at hl 2 rfl) ?_
  refine o_calli (va_runV (As := []) (rest := []) ⟨hx, hb, hml, hown, hts⟩ (c_X8_image l Z 1000 X r X1 f8) (cwV 0 hts gL_law_X8_image rfl rfl rfl (by decide +kernel) ⟨(Nat.le_of_ble_eq_true rfl), (Nat.le_of_ble_eq_true rfl)⟩) (o_preV hG h8 ow_i0 (by decide) rfl) rfl rfl hl.1 rfl (lv_room (Nat.le_of_ble_eq_true rfl)) dL_law_1396 ⟨(Nat.le_of_ble_eq_true rfl), (Nat.le_of_ble_eq_true rfl)⟩) h8 (fun H1 locs1 h8 hz hk => ?_)
  have h9 := h9.kept h8.2.2.1 hk (fun q h1 h2 => hd q h2 h1)
  have hS := h8.2.2.1
  refine lv_aload_n hx hb dL_law_1399 rfl (lv_at hl 1 rfl) ?_
  refine o_calli (va_runV (As := []) (rest := [.int r]) ⟨hx, hb, hml, hown, hts⟩ (c_X9_image l Z 1000 M r M1 f9) (cwV 0 hts gL_law_X9_image rfl rfl rfl (by decide +kernel) ⟨(Nat.le_of_ble_eq_true rfl), (Nat.le_of_ble_eq_true rfl)⟩) (o_preV hG h9 ow_i56 (by decide) rfl) rfl rfl hl.1 rfl (lv_room (Nat.le_of_ble_eq_true rfl)) dL_law_1400 ⟨(Nat.le_of_ble_eq_true rfl), (Nat.le_of_ble_eq_true rfl)⟩) h9 (fun H2 locs2 h9 hz2 hk2 => ?_)
  have h8 := h8.kept h9.2.2.1 hk2 hd
  exact lv_icmp_eq (tgt := 1656) hx hb dL_law_1403 (by decide) (fun _ => kk _ _ _ _ ⟨h8, h9, hR1⟩) (fun c => absurd rfl c)
theorem lw_c36 (l : Launch) (C : lw_C p s m c b L xs Z) (hI : I + 7 ≤ L) (hl : lv_has ls 4 (lw_lv Z b I)) (hW : lw_W Z X M s H locs) (kk : ∀ (X M : ow_S) (H : Heap) (locs : List Loc), lw_W Z X M s H locs → W p l e room_1 s m #[Value.ref b] below meth c H locs 76 4667 Q (F0 m 1656 ls [])) : W p l e room_1 s m #[Value.ref b] below meth c H locs 76 4667 Q (F0 m 1408 ls []) := by
  obtain ⟨hx, hb, hml, hown, hts, hX, hbl, hG, hd, hL⟩ := C
  obtain ⟨h8, h9, hR⟩ := hW
  obtain ⟨r, X1, M1, f8, f9, hR1⟩ := o_back 1000 (Nat.le_refl _) X M hR
  have hS := h8.2.2.1
  refine lv_aload_n hx hb dL_law_1408 rfl (lv_at hl 2 rfl) ?_
  refine o_calli (va_runV (As := []) (rest := []) ⟨hx, hb, hml, hown, hts⟩ (c_X8_back l Z 1000 X r X1 f8) (cwV 0 hts gL_law_X8_back rfl rfl rfl (by decide +kernel) ⟨(Nat.le_of_ble_eq_true rfl), (Nat.le_of_ble_eq_true rfl)⟩) (o_preV hG h8 ow_i0 (by decide) rfl) rfl rfl hl.1 rfl (lv_room (Nat.le_of_ble_eq_true rfl)) dL_law_1409 ⟨(Nat.le_of_ble_eq_true rfl), (Nat.le_of_ble_eq_true rfl)⟩) h8 (fun H1 locs1 h8 hz hk => ?_)
  have h9 := h9.kept h8.2.2.1 hk (fun q h1 h2 => hd q h2 h1)
  have hS := h8.2.2.1
  refine lv_aload_n hx hb dL_law_1412 rfl (lv_at hl 1 rfl) ?_
  refine o_calli (va_runV (As := []) (rest := [.int r]) ⟨hx, hb, hml, hown, hts⟩ (c_X9_back l Z 1000 M r M1 f9) (cwV 0 hts gL_law_X9_back rfl rfl rfl (by decide +kernel) ⟨(Nat.le_of_ble_eq_true rfl), (Nat.le_of_ble_eq_true rfl)⟩) (o_preV hG h9 ow_i56 (by decide) rfl) rfl rfl hl.1 rfl (lv_room (Nat.le_of_ble_eq_true rfl)) dL_law_1413 ⟨(Nat.le_of_ble_eq_true rfl), (Nat.le_of_ble_eq_true rfl)⟩) h9 (fun H2 locs2 h9 hz2 hk2 => ?_)
  have h8 := h8.kept h9.2.2.1 hk2 hd
  exact lv_icmp_eq (tgt := 1656) hx hb dL_law_1416 (by decide) (fun _ => kk _ _ _ _ ⟨h8, h9, hR1⟩) (fun c => absurd rfl c)
theorem lw_c37 (l : Launch) (C : lw_C p s m c b L xs Z) (hI : I + 7 ≤ L) (hl : lv_has ls 4 (lw_lv Z b I)) (hW : lw_W Z X M s H locs) (kk : ∀ (X M : ow_S) (H : Heap) (locs : List Loc), lw_W Z X M s H locs → W p l e room_1 s m #[Value.ref b] below meth c H locs 76 4667 Q (F0 m 1656 ls [])) : W p l e room_1 s m #[Value.ref b] below meth c H locs 76 4667 Q (F0 m 1421 ls []) := by
  obtain ⟨hx, hb, hml, hown, hts, hX, hbl, hG, hd, hL⟩ := C
  obtain ⟨h8, h9, hR⟩ := hW
  obtain ⟨r, X1, M1, f8, f9, hR1⟩ := o_sheet 1000 (Nat.le_refl _) (xs (I + 1)) (xs (I + 2)) (xs (I + 3)) X M hR
  have hS := h8.2.2.1
  refine lv_aload_n hx hb dL_law_1421 rfl (lv_at hl 2 rfl) ?_
  refine lw_arg 1 hx hb hX hbl hL hS hl hI (by decide) dL_law_1422 dL_law_1423 dL_law_1424 rfl dL_law_1425 dL_law_1426 ?_
  refine lw_arg 2 hx hb hX hbl hL hS hl hI (by decide) dL_law_1427 dL_law_1428 dL_law_1429 rfl dL_law_1430 dL_law_1431 ?_
  refine lw_arg 3 hx hb hX hbl hL hS hl hI (by decide) dL_law_1432 dL_law_1433 dL_law_1434 rfl dL_law_1435 dL_law_1436 ?_
  refine o_calli (va_runV (As := [.int (xs (I + 1)), .int (xs (I + 2)), .int (xs (I + 3))]) (rest := []) ⟨hx, hb, hml, hown, hts⟩ (c_X8_sheet l Z 1000 (xs (I + 1)) (xs (I + 2)) (xs (I + 3)) X r X1 f8) (cwV 3 hts gL_law_X8_sheet rfl rfl rfl (by decide +kernel) ⟨(Nat.le_of_ble_eq_true rfl), (Nat.le_of_ble_eq_true rfl)⟩) (o_preV hG h8 ow_i0 (by decide) rfl) rfl rfl hl.1 rfl (lv_room (Nat.le_of_ble_eq_true rfl)) dL_law_1437 ⟨(Nat.le_of_ble_eq_true rfl), (Nat.le_of_ble_eq_true rfl)⟩) h8 (fun H1 locs1 h8 hz hk => ?_)
  have h9 := h9.kept h8.2.2.1 hk (fun q h1 h2 => hd q h2 h1)
  have hS := h8.2.2.1
  refine lv_aload_n hx hb dL_law_1440 rfl (lv_at hl 1 rfl) ?_
  refine lw_arg 1 hx hb hX hbl hL hS hl hI (by decide) dL_law_1441 dL_law_1442 dL_law_1443 rfl dL_law_1444 dL_law_1445 ?_
  refine lw_arg 2 hx hb hX hbl hL hS hl hI (by decide) dL_law_1446 dL_law_1447 dL_law_1448 rfl dL_law_1449 dL_law_1450 ?_
  refine lw_arg 3 hx hb hX hbl hL hS hl hI (by decide) dL_law_1451 dL_law_1452 dL_law_1453 rfl dL_law_1454 dL_law_1455 ?_
  refine o_calli (va_runV (As := [.int (xs (I + 1)), .int (xs (I + 2)), .int (xs (I + 3))]) (rest := [.int r]) ⟨hx, hb, hml, hown, hts⟩ (c_X9_sheet l Z 1000 (xs (I + 1)) (xs (I + 2)) (xs (I + 3)) M r M1 f9) (cwV 3 hts gL_law_X9_sheet rfl rfl rfl (by decide +kernel) ⟨(Nat.le_of_ble_eq_true rfl), (Nat.le_of_ble_eq_true rfl)⟩) (o_preV hG h9 ow_i56 (by decide) rfl) rfl rfl hl.1 rfl (lv_room (Nat.le_of_ble_eq_true rfl)) dL_law_1456 ⟨(Nat.le_of_ble_eq_true rfl), (Nat.le_of_ble_eq_true rfl)⟩) h9 (fun H2 locs2 h9 hz2 hk2 => ?_)
  have h8 := h8.kept h9.2.2.1 hk2 hd
  exact lv_icmp_eq (tgt := 1656) hx hb dL_law_1459 (by decide) (fun _ => kk _ _ _ _ ⟨h8, h9, hR1⟩) (fun c => absurd rfl c)
theorem lw_c38 (l : Launch) (C : lw_C p s m c b L xs Z) (hI : I + 7 ≤ L) (hl : lv_has ls 4 (lw_lv Z b I)) (hW : lw_W Z X M s H locs) (kk : ∀ (X M : ow_S) (H : Heap) (locs : List Loc), lw_W Z X M s H locs → W p l e room_1 s m #[Value.ref b] below meth c H locs 76 4667 Q (F0 m 1656 ls [])) : W p l e room_1 s m #[Value.ref b] below meth c H locs 76 4667 Q (F0 m 1464 ls []) := by
  obtain ⟨hx, hb, hml, hown, hts, hX, hbl, hG, hd, hL⟩ := C
  obtain ⟨h8, h9, hR⟩ := hW
  obtain ⟨r, X1, M1, f8, f9, hR1⟩ := o_cell 1000 (xs (I + 1)) (xs (I + 2)) (xs (I + 3)) X M hR
  have hS := h8.2.2.1
  refine lv_aload_n hx hb dL_law_1464 rfl (lv_at hl 2 rfl) ?_
  refine lw_arg 1 hx hb hX hbl hL hS hl hI (by decide) dL_law_1465 dL_law_1466 dL_law_1467 rfl dL_law_1468 dL_law_1469 ?_
  refine lw_arg 2 hx hb hX hbl hL hS hl hI (by decide) dL_law_1470 dL_law_1471 dL_law_1472 rfl dL_law_1473 dL_law_1474 ?_
  refine lw_arg 3 hx hb hX hbl hL hS hl hI (by decide) dL_law_1475 dL_law_1476 dL_law_1477 rfl dL_law_1478 dL_law_1479 ?_
  refine o_calli (va_runV (As := [.int (xs (I + 1)), .int (xs (I + 2)), .int (xs (I + 3))]) (rest := []) ⟨hx, hb, hml, hown, hts⟩ (c_X8_cell l Z 1000 (xs (I + 1)) (xs (I + 2)) (xs (I + 3)) X r X1 f8) (cwV 3 hts gL_law_X8_cell rfl rfl rfl (by decide +kernel) ⟨(Nat.le_of_ble_eq_true rfl), (Nat.le_of_ble_eq_true rfl)⟩) (o_preV hG h8 ow_i0 (by decide) rfl) rfl rfl hl.1 rfl (lv_room (Nat.le_of_ble_eq_true rfl)) dL_law_1480 ⟨(Nat.le_of_ble_eq_true rfl), (Nat.le_of_ble_eq_true rfl)⟩) h8 (fun H1 locs1 h8 hz hk => ?_)
  have h9 := h9.kept h8.2.2.1 hk (fun q h1 h2 => hd q h2 h1)
  have hS := h8.2.2.1
  refine lv_aload_n hx hb dL_law_1483 rfl (lv_at hl 1 rfl) ?_
  refine lw_arg 1 hx hb hX hbl hL hS hl hI (by decide) dL_law_1484 dL_law_1485 dL_law_1486 rfl dL_law_1487 dL_law_1488 ?_
  refine lw_arg 2 hx hb hX hbl hL hS hl hI (by decide) dL_law_1489 dL_law_1490 dL_law_1491 rfl dL_law_1492 dL_law_1493 ?_
  refine lw_arg 3 hx hb hX hbl hL hS hl hI (by decide) dL_law_1494 dL_law_1495 dL_law_1496 rfl dL_law_1497 dL_law_1498 ?_
  refine o_calli (va_runV (As := [.int (xs (I + 1)), .int (xs (I + 2)), .int (xs (I + 3))]) (rest := [.int r]) ⟨hx, hb, hml, hown, hts⟩ (c_X9_cell l Z 1000 (xs (I + 1)) (xs (I + 2)) (xs (I + 3)) M r M1 f9) (cwV 3 hts gL_law_X9_cell rfl rfl rfl (by decide +kernel) ⟨(Nat.le_of_ble_eq_true rfl), (Nat.le_of_ble_eq_true rfl)⟩) (o_preV hG h9 ow_i56 (by decide) rfl) rfl rfl hl.1 rfl (lv_room (Nat.le_of_ble_eq_true rfl)) dL_law_1499 ⟨(Nat.le_of_ble_eq_true rfl), (Nat.le_of_ble_eq_true rfl)⟩) h9 (fun H2 locs2 h9 hz2 hk2 => ?_)
  have h8 := h8.kept h9.2.2.1 hk2 hd
  exact lv_icmp_eq (tgt := 1656) hx hb dL_law_1502 (by decide) (fun _ => kk _ _ _ _ ⟨h8, h9, hR1⟩) (fun c => absurd rfl c)
theorem lw_c39 (l : Launch) (C : lw_C p s m c b L xs Z) (hI : I + 7 ≤ L) (hl : lv_has ls 4 (lw_lv Z b I)) (hW : lw_W Z X M s H locs) (kk : ∀ (X M : ow_S) (H : Heap) (locs : List Loc), lw_W Z X M s H locs → W p l e room_1 s m #[Value.ref b] below meth c H locs 76 4667 Q (F0 m 1656 ls [])) : W p l e room_1 s m #[Value.ref b] below meth c H locs 76 4667 Q (F0 m 1507 ls []) := by
  obtain ⟨hx, hb, hml, hown, hts, hX, hbl, hG, hd, hL⟩ := C
  obtain ⟨h8, h9, hR⟩ := hW
  obtain ⟨r, X1, M1, f8, f9, hR1⟩ := o_copy 1000 (Nat.le_refl _) (xs (I + 1)) (xs (I + 2)) (xs (I + 3)) (xs (I + 4)) (xs (I + 5)) X M hR
  have hS := h8.2.2.1
  refine lv_aload_n hx hb dL_law_1507 rfl (lv_at hl 2 rfl) ?_
  refine lw_arg 1 hx hb hX hbl hL hS hl hI (by decide) dL_law_1508 dL_law_1509 dL_law_1510 rfl dL_law_1511 dL_law_1512 ?_
  refine lw_arg 2 hx hb hX hbl hL hS hl hI (by decide) dL_law_1513 dL_law_1514 dL_law_1515 rfl dL_law_1516 dL_law_1517 ?_
  refine lw_arg 3 hx hb hX hbl hL hS hl hI (by decide) dL_law_1518 dL_law_1519 dL_law_1520 rfl dL_law_1521 dL_law_1522 ?_
  refine lw_arg 4 hx hb hX hbl hL hS hl hI (by decide) dL_law_1523 dL_law_1524 dL_law_1525 rfl dL_law_1526 dL_law_1527 ?_
  refine lw_arg 5 hx hb hX hbl hL hS hl hI (by decide) dL_law_1528 dL_law_1529 dL_law_1530 rfl dL_law_1531 dL_law_1532 ?_
  refine o_calli (va_runV (As := [.int (xs (I + 1)), .int (xs (I + 2)), .int (xs (I + 3)), .int (xs (I + 4)), .int (xs (I + 5))]) (rest := []) ⟨hx, hb, hml, hown, hts⟩ (c_X8_copy l Z 1000 (xs (I + 1)) (xs (I + 2)) (xs (I + 3)) (xs (I + 4)) (xs (I + 5)) X r X1 f8) (cwV 5 hts gL_law_X8_copy rfl rfl rfl (by decide +kernel) ⟨(Nat.le_of_ble_eq_true rfl), (Nat.le_of_ble_eq_true rfl)⟩) (o_preV hG h8 ow_i0 (by decide) rfl) rfl rfl hl.1 rfl (lv_room (Nat.le_of_ble_eq_true rfl)) dL_law_1533 ⟨(Nat.le_of_ble_eq_true rfl), (Nat.le_of_ble_eq_true rfl)⟩) h8 (fun H1 locs1 h8 hz hk => ?_)
  have h9 := h9.kept h8.2.2.1 hk (fun q h1 h2 => hd q h2 h1)
  have hS := h8.2.2.1
  refine lv_aload_n hx hb dL_law_1536 rfl (lv_at hl 1 rfl) ?_
  refine lw_arg 1 hx hb hX hbl hL hS hl hI (by decide) dL_law_1537 dL_law_1538 dL_law_1539 rfl dL_law_1540 dL_law_1541 ?_
  refine lw_arg 2 hx hb hX hbl hL hS hl hI (by decide) dL_law_1542 dL_law_1543 dL_law_1544 rfl dL_law_1545 dL_law_1546 ?_
  refine lw_arg 3 hx hb hX hbl hL hS hl hI (by decide) dL_law_1547 dL_law_1548 dL_law_1549 rfl dL_law_1550 dL_law_1551 ?_
  refine lw_arg 4 hx hb hX hbl hL hS hl hI (by decide) dL_law_1552 dL_law_1553 dL_law_1554 rfl dL_law_1555 dL_law_1556 ?_
  refine lw_arg 5 hx hb hX hbl hL hS hl hI (by decide) dL_law_1557 dL_law_1558 dL_law_1559 rfl dL_law_1560 dL_law_1561 ?_
  refine o_calli (va_runV (As := [.int (xs (I + 1)), .int (xs (I + 2)), .int (xs (I + 3)), .int (xs (I + 4)), .int (xs (I + 5))]) (rest := [.int r]) ⟨hx, hb, hml, hown, hts⟩ (c_X9_copy l Z 1000 (xs (I + 1)) (xs (I + 2)) (xs (I + 3)) (xs (I + 4)) (xs (I + 5)) M r M1 f9) (cwV 5 hts gL_law_X9_copy rfl rfl rfl (by decide +kernel) ⟨(Nat.le_of_ble_eq_true rfl), (Nat.le_of_ble_eq_true rfl)⟩) (o_preV hG h9 ow_i56 (by decide) rfl) rfl rfl hl.1 rfl (lv_room (Nat.le_of_ble_eq_true rfl)) dL_law_1562 ⟨(Nat.le_of_ble_eq_true rfl), (Nat.le_of_ble_eq_true rfl)⟩) h9 (fun H2 locs2 h9 hz2 hk2 => ?_)
  have h8 := h8.kept h9.2.2.1 hk2 hd
  exact lv_icmp_eq (tgt := 1656) hx hb dL_law_1565 (by decide) (fun _ => kk _ _ _ _ ⟨h8, h9, hR1⟩) (fun c => absurd rfl c)
theorem lw_c40 (l : Launch) (C : lw_C p s m c b L xs Z) (hI : I + 7 ≤ L) (hl : lv_has ls 4 (lw_lv Z b I)) (hW : lw_W Z X M s H locs) (kk : ∀ (X M : ow_S) (H : Heap) (locs : List Loc), lw_W Z X M s H locs → W p l e room_1 s m #[Value.ref b] below meth c H locs 76 4667 Q (F0 m 1656 ls [])) : W p l e room_1 s m #[Value.ref b] below meth c H locs 76 4667 Q (F0 m 1570 ls []) := by
  obtain ⟨hx, hb, hml, hown, hts, hX, hbl, hG, hd, hL⟩ := C
  obtain ⟨h8, h9, hR⟩ := hW
  obtain ⟨r, X1, M1, f8, f9, hR1⟩ := o_cardsBy 1000 (Nat.le_refl _) (xs (I + 1)) (xs (I + 2)) (xs (I + 3)) (xs (I + 4)) X M hR
  have hS := h8.2.2.1
  refine lv_aload_n hx hb dL_law_1570 rfl (lv_at hl 2 rfl) ?_
  refine lw_arg 1 hx hb hX hbl hL hS hl hI (by decide) dL_law_1571 dL_law_1572 dL_law_1573 rfl dL_law_1574 dL_law_1575 ?_
  refine lw_arg 2 hx hb hX hbl hL hS hl hI (by decide) dL_law_1576 dL_law_1577 dL_law_1578 rfl dL_law_1579 dL_law_1580 ?_
  refine lw_arg 3 hx hb hX hbl hL hS hl hI (by decide) dL_law_1581 dL_law_1582 dL_law_1583 rfl dL_law_1584 dL_law_1585 ?_
  refine lw_arg 4 hx hb hX hbl hL hS hl hI (by decide) dL_law_1586 dL_law_1587 dL_law_1588 rfl dL_law_1589 dL_law_1590 ?_
  refine o_calli (va_runV (As := [.int (xs (I + 1)), .int (xs (I + 2)), .int (xs (I + 3)), .int (xs (I + 4))]) (rest := []) ⟨hx, hb, hml, hown, hts⟩ (c_X8_cardsBy l Z 1000 (xs (I + 1)) (xs (I + 2)) (xs (I + 3)) (xs (I + 4)) X r X1 f8) (cwV 4 hts gL_law_X8_cardsBy rfl rfl rfl (by decide +kernel) ⟨(Nat.le_of_ble_eq_true rfl), (Nat.le_of_ble_eq_true rfl)⟩) (o_preV hG h8 ow_i0 (by decide) rfl) rfl rfl hl.1 rfl (lv_room (Nat.le_of_ble_eq_true rfl)) dL_law_1591 ⟨(Nat.le_of_ble_eq_true rfl), (Nat.le_of_ble_eq_true rfl)⟩) h8 (fun H1 locs1 h8 hz hk => ?_)
  have h9 := h9.kept h8.2.2.1 hk (fun q h1 h2 => hd q h2 h1)
  have hS := h8.2.2.1
  refine lv_aload_n hx hb dL_law_1594 rfl (lv_at hl 1 rfl) ?_
  refine lw_arg 1 hx hb hX hbl hL hS hl hI (by decide) dL_law_1595 dL_law_1596 dL_law_1597 rfl dL_law_1598 dL_law_1599 ?_
  refine lw_arg 2 hx hb hX hbl hL hS hl hI (by decide) dL_law_1600 dL_law_1601 dL_law_1602 rfl dL_law_1603 dL_law_1604 ?_
  refine lw_arg 3 hx hb hX hbl hL hS hl hI (by decide) dL_law_1605 dL_law_1606 dL_law_1607 rfl dL_law_1608 dL_law_1609 ?_
  refine lw_arg 4 hx hb hX hbl hL hS hl hI (by decide) dL_law_1610 dL_law_1611 dL_law_1612 rfl dL_law_1613 dL_law_1614 ?_
  refine o_calli (va_runV (As := [.int (xs (I + 1)), .int (xs (I + 2)), .int (xs (I + 3)), .int (xs (I + 4))]) (rest := [.int r]) ⟨hx, hb, hml, hown, hts⟩ (c_X9_cardsBy l Z 1000 (xs (I + 1)) (xs (I + 2)) (xs (I + 3)) (xs (I + 4)) M r M1 f9) (cwV 4 hts gL_law_X9_cardsBy rfl rfl rfl (by decide +kernel) ⟨(Nat.le_of_ble_eq_true rfl), (Nat.le_of_ble_eq_true rfl)⟩) (o_preV hG h9 ow_i56 (by decide) rfl) rfl rfl hl.1 rfl (lv_room (Nat.le_of_ble_eq_true rfl)) dL_law_1615 ⟨(Nat.le_of_ble_eq_true rfl), (Nat.le_of_ble_eq_true rfl)⟩) h9 (fun H2 locs2 h9 hz2 hk2 => ?_)
  have h8 := h8.kept h9.2.2.1 hk2 hd
  exact lv_icmp_eq (tgt := 1656) hx hb dL_law_1618 (by decide) (fun _ => kk _ _ _ _ ⟨h8, h9, hR1⟩) (fun c => absurd rfl c)
theorem lw_c41 (l : Launch) (C : lw_C p s m c b L xs Z) (hI : I + 7 ≤ L) (hl : lv_has ls 4 (lw_lv Z b I)) (hW : lw_W Z X M s H locs) (kk : ∀ (X M : ow_S) (H : Heap) (locs : List Loc), lw_W Z X M s H locs → W p l e room_1 s m #[Value.ref b] below meth c H locs 76 4667 Q (F0 m 1656 ls [])) : W p l e room_1 s m #[Value.ref b] below meth c H locs 76 4667 Q (F0 m 1623 ls []) := by
  obtain ⟨hx, hb, hml, hown, hts, hX, hbl, hG, hd, hL⟩ := C
  obtain ⟨h8, h9, hR⟩ := hW
  obtain ⟨r, X1, M1, f8, f9, hR1⟩ := o_taken 1000 (Nat.le_refl _) (xs (I + 1)) (xs (I + 2)) X M hR
  have hS := h8.2.2.1
  refine lv_aload_n hx hb dL_law_1623 rfl (lv_at hl 2 rfl) ?_
  refine lw_arg 1 hx hb hX hbl hL hS hl hI (by decide) dL_law_1624 dL_law_1625 dL_law_1626 rfl dL_law_1627 dL_law_1628 ?_
  refine lw_arg 2 hx hb hX hbl hL hS hl hI (by decide) dL_law_1629 dL_law_1630 dL_law_1631 rfl dL_law_1632 dL_law_1633 ?_
  refine o_calli (va_runV (As := [.int (xs (I + 1)), .int (xs (I + 2))]) (rest := []) ⟨hx, hb, hml, hown, hts⟩ (c_X8_taken l Z 1000 (xs (I + 1)) (xs (I + 2)) X r X1 f8) (cwV 2 hts gL_law_X8_taken rfl rfl rfl (by decide +kernel) ⟨(Nat.le_of_ble_eq_true rfl), (Nat.le_of_ble_eq_true rfl)⟩) (o_preV hG h8 ow_i0 (by decide) rfl) rfl rfl hl.1 rfl (lv_room (Nat.le_of_ble_eq_true rfl)) dL_law_1634 ⟨(Nat.le_of_ble_eq_true rfl), (Nat.le_of_ble_eq_true rfl)⟩) h8 (fun H1 locs1 h8 hz hk => ?_)
  have h9 := h9.kept h8.2.2.1 hk (fun q h1 h2 => hd q h2 h1)
  have hS := h8.2.2.1
  refine lv_aload_n hx hb dL_law_1637 rfl (lv_at hl 1 rfl) ?_
  refine lw_arg 1 hx hb hX hbl hL hS hl hI (by decide) dL_law_1638 dL_law_1639 dL_law_1640 rfl dL_law_1641 dL_law_1642 ?_
  refine lw_arg 2 hx hb hX hbl hL hS hl hI (by decide) dL_law_1643 dL_law_1644 dL_law_1645 rfl dL_law_1646 dL_law_1647 ?_
  refine o_calli (va_runV (As := [.int (xs (I + 1)), .int (xs (I + 2))]) (rest := [.int r]) ⟨hx, hb, hml, hown, hts⟩ (c_X9_taken l Z 1000 (xs (I + 1)) (xs (I + 2)) M r M1 f9) (cwV 2 hts gL_law_X9_taken rfl rfl rfl (by decide +kernel) ⟨(Nat.le_of_ble_eq_true rfl), (Nat.le_of_ble_eq_true rfl)⟩) (o_preV hG h9 ow_i56 (by decide) rfl) rfl rfl hl.1 rfl (lv_room (Nat.le_of_ble_eq_true rfl)) dL_law_1648 ⟨(Nat.le_of_ble_eq_true rfl), (Nat.le_of_ble_eq_true rfl)⟩) h9 (fun H2 locs2 h9 hz2 hk2 => ?_)
  have h8 := h8.kept h9.2.2.1 hk2 hd
  exact lv_icmp_eq (tgt := 1656) hx hb dL_law_1651 (by decide) (fun _ => kk _ _ _ _ ⟨h8, h9, hR1⟩) (fun c => absurd rfl c)
end LWC

set_option maxHeartbeats 40000000 in
set_option maxRecDepth 100000 in
theorem c_X9_states (l : Launch) (Z : ow_Z) (fu : Nat) (a1 : Int32) (a2 : Int32) (a3 : Int32) (σ : ow_S) (rr : Int32) (σr : ow_S) (hf : f_X9_states fu a1 a2 a3 σ = some (rr, σr)) : Met l yX9_states wsX9_states { frames := 5, cells := 0, slots := 0, locals := 157 } (ow_Pc Z 56 20 [.ref (ow_ad Z 56), .int a1, .int a2, .int a3] σ) (ow_Qi Z 56 20 rr σr) 0 0 (ow_A Z 56 20) := by
  refine Met.ofW (cc := cX9_states) (maxL := 8) (ret := (some .int)) (by decide) rfl ?_
  intro p e s m args below meth c s₁ B hml hv
  obtain ⟨hav, hB⟩ := hv
  obtain ⟨hG, hW⟩ := ow_begin hB
  have hx := B.exec
  have hb := B.bytes
  have hr := B.returns
  have hts := atoms_spec (ws := wsX9_states) B.pre
  have hown : s.vm.findClass RX9 = some m.cls := findClass_of_methodNamed B.named
  have hlocks := B.notSynchronized
  have hinX9 : ∀ w ∈ wsX90, w ∈ wsX9_states := by decide +kernel
  have hJ82 : ∀ (k49 : Int32 → Int32 → Int32 → Int32 → ow_S → Option (Int32 × ow_S)) (hk49 : ∀ (x1 : Int32) (x2 : Int32) (x3 : Int32) (x4 : Int32) (σ : ow_S) (H : Heap) (locs : List Loc) (ls : Array Slot), k49 x1 x2 x3 x4 σ = some (rr, σr) → ow_Wd Z 56 20 σ s H locs → lv_has ls 8 [(0, .ref (ow_ad Z 56)), (1, .int x1), (2, .int x2), (3, .int x3), (4, .int x4)] → W p l e (headSpec wsX9_states { frames := 5, cells := 0, slots := 0, locals := 157 }).room s m args below meth c H locs 0 0 (MQ below (ow_Qi Z 56 20 rr σr) args s 0 0 (ow_A Z 56 20)) (F0 m 49 ls [])) (k58 : Int32 → Int32 → Int32 → Int32 → Int32 → ow_S → Option (Int32 × ow_S)) (hk58 : ∀ (x1 : Int32) (x2 : Int32) (x3 : Int32) (x4 : Int32) (x5 : Int32) (σ : ow_S) (H : Heap) (locs : List Loc) (ls : Array Slot), k58 x1 x2 x3 x4 x5 σ = some (rr, σr) → ow_Wd Z 56 20 σ s H locs → lv_has ls 8 [(0, .ref (ow_ad Z 56)), (1, .int x1), (2, .int x2), (3, .int x3), (4, .int x4), (5, .int x5)] → W p l e (headSpec wsX9_states { frames := 5, cells := 0, slots := 0, locals := 157 }).room s m args below meth c H locs 0 0 (MQ below (ow_Qi Z 56 20 rr σr) args s 0 0 (ow_A Z 56 20)) (F0 m 58 ls [])), ∀ (fn : Nat), ∀ (x1 : Int32) (x2 : Int32) (x3 : Int32) (x4 : Int32) (x5 : Int32) (x6 : Int32) (x7 : Int32) (σ : ow_S) (H : Heap) (locs : List Loc) (ls : Array Slot), L_X9_states_82 fu k49 k58 fn x1 x2 x3 x4 x5 x6 x7 σ = some (rr, σr) → ow_Wd Z 56 20 σ s H locs → lv_has ls 8 [(0, .ref (ow_ad Z 56)), (1, .int x1), (2, .int x2), (3, .int x3), (4, .int x4), (5, .int x5), (6, .int x6), (7, .int x7)] → W p l e (headSpec wsX9_states { frames := 5, cells := 0, slots := 0, locals := 157 }).room s m args below meth c H locs 0 0 (MQ below (ow_Qi Z 56 20 rr σr) args s 0 0 (ow_A Z 56 20)) (F0 m 82 ls []) := by
    intro k49 hk49 k58 hk58 fn
    induction fn with
    | zero => intro x1 x2 x3 x4 x5 x6 x7 σ H locs ls hf hW hl; simp [L_X9_states_82] at hf
    | succ fn ih =>
      intro x1 x2 x3 x4 x5 x6 x7 σ H locs ls hf hW hl
      rw [L_X9_states_82] at hf
      refine lv_iload hx hb dX9_states_82 (lv_at hl 7 rfl) ?_
      refine lv_iload hx hb dX9_states_84 (lv_at hl 4 rfl) ?_
      refine lv_icmp_ge (tgt := 114) hx hb dX9_states_86 (by decide) (fun c86 => ?_) (fun c86 => ?_)
      · replace hf := ow_if_t c86 hf
        refine lv_aload_n hx hb dX9_states_114 rfl (lv_at hl 0 rfl) ?_
        obtain ⟨σ_115, hc115, hf⟩ := ow_cv_i hf
        refine ow_callv (va_runV (As := []) (rest := []) ⟨hx, hb, hml, hown, hts⟩ (c_X9_pairsUp l Z fu σ σ_115  hc115) (cwV 0 hts gX9_states_X9_pairsUp rfl rfl rfl (by decide +kernel) ⟨Nat.le_of_ble_eq_true rfl, Nat.le_of_ble_eq_true rfl⟩) (ow_preV hG hW ow_i56 (by decide) rfl) rfl rfl hl.1 rfl (lv_room (Nat.le_of_ble_eq_true rfl)) dX9_states_115 ⟨Nat.zero_le _, Nat.zero_le _⟩) hW (fun H locs hW => ?_)
        refine ow_iinc (d := 1) (lv' := fun z => [(5, .int z), (0, .ref (ow_ad Z 56)), (1, .int x1), (2, .int x2), (3, .int x3), (4, .int x4), (6, .int x6), (7, .int x7)]) hx hb hf dX9_states_118 hl (k := 5) rfl (by decide) (by decide) (fun z => rfl) (fun x5_118 hf ls hl => ?_)
        refine lv_goto (tgt := 58) hx hb dX9_states_121 (by decide) ?_
        exact hk58 x1 x2 x3 x4 x5_118 σ_115 _ _ _ hf hW (lv_sub hl [1, 2, 3, 4, 5, 0] rfl)
      · replace hf := ow_if_f c86 hf
        refine lv_aload_n hx hb dX9_states_89 rfl (lv_at hl 0 rfl) ?_
        refine lv_iload_n hx hb dX9_states_90 rfl (lv_at hl 1 rfl) ?_
        refine lv_iload hx hb dX9_states_91 (lv_at hl 6 rfl) ?_
        refine lv_iload_n hx hb dX9_states_93 rfl (lv_at hl 2 rfl) ?_
        obtain ⟨q94, hf⟩ := ow_ck_i hf
        refine ow_r_irem hx hb dX9_states_94 q94 ?_
        refine lv_iconst (v := 1) hx hb dX9_states_95 (by decide) ?_
        refine lv_iadd hx hb dX9_states_96 ?_
        refine lv_iload hx hb dX9_states_97 (lv_at hl 7 rfl) ?_
        obtain ⟨σ_99, hc99, hf⟩ := ow_cv_i hf
        refine ow_callv (va_runV (As := [.int x1, .int ((ow_irem x6 x2) + (1 : Int32)), .int x7]) (rest := []) ⟨hx, hb, hml, hown, hts⟩ (c_X9_comes l Z fu x1 ((ow_irem x6 x2) + (1 : Int32)) x7 σ σ_99  hc99) (cwV 3 hts gX9_states_X9_comes rfl rfl rfl (by decide +kernel) ⟨Nat.le_of_ble_eq_true rfl, Nat.le_of_ble_eq_true rfl⟩) (ow_preV hG hW ow_i56 (by decide) rfl) rfl rfl hl.1 rfl (lv_room (Nat.le_of_ble_eq_true rfl)) dX9_states_99 ⟨Nat.zero_le _, Nat.zero_le _⟩) hW (fun H locs hW => ?_)
        refine lv_iload hx hb dX9_states_102 (lv_at hl 6 rfl) ?_
        refine lv_iload_n hx hb dX9_states_104 rfl (lv_at hl 2 rfl) ?_
        obtain ⟨q105, hf⟩ := ow_ck_i hf
        refine lv_idiv hx hb dX9_states_105 q105 ?_
        refine ow_topi hf (fun x6_106 hf => ?_)
        refine lv_istore (lv' := [(6, .int x6_106), (0, .ref (ow_ad Z 56)), (1, .int x1), (2, .int x2), (3, .int x3), (4, .int x4), (5, .int x5), (7, .int x7)]) hx hb dX9_states_106 hl (by decide) rfl (fun ls hl => ?_)
        refine ow_iinc (d := 1) (lv' := fun z => [(7, .int z), (6, .int x6_106), (0, .ref (ow_ad Z 56)), (1, .int x1), (2, .int x2), (3, .int x3), (4, .int x4), (5, .int x5)]) hx hb hf dX9_states_108 hl (k := 7) rfl (by decide) (by decide) (fun z => rfl) (fun x7_108 hf ls hl => ?_)
        refine lv_goto (tgt := 82) hx hb dX9_states_111 (by decide) ?_
        exact ih x1 x2 x3 x4 x5 x6_106 x7_108 σ_99 _ _ _ hf hW (lv_sub hl [2, 3, 4, 5, 6, 7, 1, 0] rfl)
  have hJ58 : ∀ (k49 : Int32 → Int32 → Int32 → Int32 → ow_S → Option (Int32 × ow_S)) (hk49 : ∀ (x1 : Int32) (x2 : Int32) (x3 : Int32) (x4 : Int32) (σ : ow_S) (H : Heap) (locs : List Loc) (ls : Array Slot), k49 x1 x2 x3 x4 σ = some (rr, σr) → ow_Wd Z 56 20 σ s H locs → lv_has ls 8 [(0, .ref (ow_ad Z 56)), (1, .int x1), (2, .int x2), (3, .int x3), (4, .int x4)] → W p l e (headSpec wsX9_states { frames := 5, cells := 0, slots := 0, locals := 157 }).room s m args below meth c H locs 0 0 (MQ below (ow_Qi Z 56 20 rr σr) args s 0 0 (ow_A Z 56 20)) (F0 m 49 ls [])), ∀ (fn : Nat), ∀ (x1 : Int32) (x2 : Int32) (x3 : Int32) (x4 : Int32) (x5 : Int32) (σ : ow_S) (H : Heap) (locs : List Loc) (ls : Array Slot), L_X9_states_58 fu k49 fn x1 x2 x3 x4 x5 σ = some (rr, σr) → ow_Wd Z 56 20 σ s H locs → lv_has ls 8 [(0, .ref (ow_ad Z 56)), (1, .int x1), (2, .int x2), (3, .int x3), (4, .int x4), (5, .int x5)] → W p l e (headSpec wsX9_states { frames := 5, cells := 0, slots := 0, locals := 157 }).room s m args below meth c H locs 0 0 (MQ below (ow_Qi Z 56 20 rr σr) args s 0 0 (ow_A Z 56 20)) (F0 m 58 ls []) := by
    intro k49 hk49 fn
    induction fn with
    | zero => intro x1 x2 x3 x4 x5 σ H locs ls hf hW hl; simp [L_X9_states_58] at hf
    | succ fn ih =>
      intro x1 x2 x3 x4 x5 σ H locs ls hf hW hl
      rw [L_X9_states_58] at hf
      refine lv_iload hx hb dX9_states_58 (lv_at hl 5 rfl) ?_
      refine lv_aload_n hx hb dX9_states_60 rfl (lv_at hl 0 rfl) ?_
      refine lv_iload_n hx hb dX9_states_61 rfl (lv_at hl 2 rfl) ?_
      refine lv_iload hx hb dX9_states_62 (lv_at hl 4 rfl) ?_
      obtain ⟨r_64, σ_64, hc64, hf⟩ := ow_cl_i hf
      refine ow_calli (va_runV (As := [.int x2, .int x4]) (rest := [.int x5]) ⟨hx, hb, hml, hown, hts⟩ (c_X9_powerOf l Z fu x2 x4 σ r_64 σ_64 hc64) (cwV 2 hts gX9_states_X9_powerOf rfl rfl rfl (by decide +kernel) ⟨Nat.le_of_ble_eq_true rfl, Nat.le_of_ble_eq_true rfl⟩) (ow_preV hG hW ow_i56 (by decide) rfl) rfl rfl hl.1 rfl (lv_room (Nat.le_of_ble_eq_true rfl)) dX9_states_64 ⟨Nat.zero_le _, Nat.zero_le _⟩) hW (fun H locs hW => ?_)
      refine lv_icmp_ge (tgt := 124) hx hb dX9_states_67 (by decide) (fun c67 => ?_) (fun c67 => ?_)
      · replace hf := ow_if_t c67 hf
        refine ow_iinc (d := 1) (lv' := fun z => [(4, .int z), (0, .ref (ow_ad Z 56)), (1, .int x1), (2, .int x2), (3, .int x3), (5, .int x5)]) hx hb hf dX9_states_124 hl (k := 4) rfl (by decide) (by decide) (fun z => rfl) (fun x4_124 hf ls hl => ?_)
        refine lv_goto (tgt := 49) hx hb dX9_states_127 (by decide) ?_
        exact hk49 x1 x2 x3 x4_124 σ_64 _ _ _ hf hW (lv_sub hl [1, 2, 3, 4, 0] rfl)
      · replace hf := ow_if_f c67 hf
        refine lv_iload hx hb dX9_states_70 (lv_at hl 5 rfl) ?_
        refine lv_istore (lv' := [(6, .int x5), (0, .ref (ow_ad Z 56)), (1, .int x1), (2, .int x2), (3, .int x3), (4, .int x4), (5, .int x5)]) hx hb dX9_states_72 hl (by decide) rfl (fun ls hl => ?_)
        refine lv_aload_n hx hb dX9_states_74 rfl (lv_at hl 1 rfl) ?_
        refine lv_iload_n hx hb dX9_states_75 rfl (lv_at hl 2 rfl) ?_
        obtain ⟨σ_76, hc76, hf⟩ := ow_cv_i hf
        refine ow_callv (va_runV (As := [.int x1]) (rest := []) ⟨hx, hb, hml, hown, hts⟩ (c_X9_beginsOn l Z fu x1 σ_64 σ_76  hc76) (cwV 1 hts gX9_states_X9_beginsOn rfl rfl rfl (by decide +kernel) ⟨Nat.le_of_ble_eq_true rfl, Nat.le_of_ble_eq_true rfl⟩) (ow_preV hG hW ow_i56 (by decide) rfl) rfl rfl hl.1 rfl (lv_room (Nat.le_of_ble_eq_true rfl)) dX9_states_76 ⟨Nat.zero_le _, Nat.zero_le _⟩) hW (fun H locs hW => ?_)
        refine lv_iconst (v := 0) hx hb dX9_states_79 (by decide) ?_
        refine lv_istore (lv' := [(7, .int (0 : Int32)), (6, .int x5), (0, .ref (ow_ad Z 56)), (1, .int x1), (2, .int x2), (3, .int x3), (4, .int x4), (5, .int x5)]) hx hb dX9_states_80 hl (by decide) rfl (fun ls hl => ?_)
        exact hJ82 k49 hk49 (L_X9_states_58 fu k49 fn) ih fu x1 x2 x3 x4 x5 x5 (0 : Int32) σ_76 _ _ _ hf hW (lv_sub hl [2, 3, 4, 5, 6, 7, 1, 0] rfl)
  have hJ49 : ∀ (fn : Nat), ∀ (x1 : Int32) (x2 : Int32) (x3 : Int32) (x4 : Int32) (σ : ow_S) (H : Heap) (locs : List Loc) (ls : Array Slot), L_X9_states_49 fu fn x1 x2 x3 x4 σ = some (rr, σr) → ow_Wd Z 56 20 σ s H locs → lv_has ls 8 [(0, .ref (ow_ad Z 56)), (1, .int x1), (2, .int x2), (3, .int x3), (4, .int x4)] → W p l e (headSpec wsX9_states { frames := 5, cells := 0, slots := 0, locals := 157 }).room s m args below meth c H locs 0 0 (MQ below (ow_Qi Z 56 20 rr σr) args s 0 0 (ow_A Z 56 20)) (F0 m 49 ls []) := by
    intro fn
    induction fn with
    | zero => intro x1 x2 x3 x4 σ H locs ls hf hW hl; simp [L_X9_states_49] at hf
    | succ fn ih =>
      intro x1 x2 x3 x4 σ H locs ls hf hW hl
      rw [L_X9_states_49] at hf
      refine lv_iload hx hb dX9_states_49 (lv_at hl 4 rfl) ?_
      refine lv_iload_n hx hb dX9_states_51 rfl (lv_at hl 3 rfl) ?_
      refine lv_icmp_gt (tgt := 130) hx hb dX9_states_52 (by decide) (fun c52 => ?_) (fun c52 => ?_)
      · replace hf := ow_if_t c52 hf
        refine lv_aload_n hx hb dX9_states_130 rfl (lv_at hl 0 rfl) ?_
        refine ow_getV (ci := 9) (C := RX9) (T := TX9) (N := 41) hx hb hts hown hG hW ow_i56 (by decide) rfl hinX9 40 (by decide) (fk := 0) rfl (hts (.fieldLink RX9 256 "FiftyOneCardsModel" "pairMany" "I") (by decide +kernel)) (v := .int (σ.1 56 40)) rfl dX9_states_131 ?_
        exact ow_iret hx hb hr hW hf dX9_states_134 hlocks
      · replace hf := ow_if_f c52 hf
        refine lv_iconst (v := 0) hx hb dX9_states_55 (by decide) ?_
        refine lv_istore (lv' := [(5, .int (0 : Int32)), (0, .ref (ow_ad Z 56)), (1, .int x1), (2, .int x2), (3, .int x3), (4, .int x4)]) hx hb dX9_states_56 hl (by decide) rfl (fun ls hl => ?_)
        exact hJ58 (L_X9_states_49 fu fn) ih fu x1 x2 x3 x4 (0 : Int32) σ _ _ _ hf hW (lv_sub hl [1, 2, 3, 4, 5, 0] rfl)
  have hl := lv_entry ([.ref (ow_ad Z 56), .int a1, .int a2, .int a3]) (n := 8) (Nat.le_of_ble_eq_true rfl)
  refine W.eq (g2 := F0 m 0 ((lg_sl ([.ref (ow_ad Z 56), .int a1, .int a2, .int a3]) ++ List.replicate (8 - (lg_sl ([.ref (ow_ad Z 56), .int a1, .int a2, .int a3])).length) Slot.unset).toArray) []) (by rw [hav]; exact lg_entry_eq _ _ _) ?_
  generalize (lg_sl ([.ref (ow_ad Z 56), .int a1, .int a2, .int a3]) ++ List.replicate (8 - (lg_sl ([.ref (ow_ad Z 56), .int a1, .int a2, .int a3])).length) Slot.unset).toArray = ls at hl ⊢
  have hl : lv_has ls 8 [(0, .ref (ow_ad Z 56)), (1, .int a1), (2, .int a2), (3, .int a3)] := hl
  unfold f_X9_states at hf
  refine lv_aload_n hx hb dX9_states_0 rfl (lv_at hl 0 rfl) ?_
  refine lv_iload_n hx hb dX9_states_1 rfl (lv_at hl 1 rfl) ?_
  obtain ⟨r_2, σ_2, hc2, hf⟩ := ow_cl_i hf
  refine ow_callz (va_runV (As := [.int a1]) (rest := []) ⟨hx, hb, hml, hown, hts⟩ (c_X9_isHead l Z fu a1 σ r_2 σ_2 hc2) (cwV 1 hts gX9_states_X9_isHead rfl rfl rfl (by decide +kernel) ⟨Nat.le_of_ble_eq_true rfl, Nat.le_of_ble_eq_true rfl⟩) (ow_preV hG hW ow_i56 (by decide) rfl) rfl rfl hl.1 rfl (lv_room (Nat.le_of_ble_eq_true rfl)) dX9_states_2 ⟨Nat.zero_le _, Nat.zero_le _⟩) hW (fun b2 H locs hW => ?_)
  refine lv_if_ne (tgt := 11) hx hb dX9_states_5 (by decide) (fun c5 => ?_) (fun c5 => ?_)
  · replace hf := ow_if_f c5 hf
    refine lv_iload_n hx hb dX9_states_11 rfl (lv_at hl 2 rfl) ?_
    refine lv_iconst (v := 1) hx hb dX9_states_12 (by decide) ?_
    refine lv_bipush (v := 6) hx hb dX9_states_13 (by decide) ?_
    obtain ⟨r_15, σ_15, hc15, hf⟩ := ow_cl_i hf
    refine ow_callz (va_runS (As := [.int a2, .int (1 : Int32), .int (6 : Int32)]) (rest := []) ⟨hx, hb, hml, hown, hts⟩ (c_X9_in l Z fu a2 (1 : Int32) (6 : Int32) σ_2 r_15 σ_15 hc15) (va_cwS 3 hts gX9_states_X9_in rfl rfl rfl (by decide +kernel) ⟨Nat.le_of_ble_eq_true rfl, Nat.le_of_ble_eq_true rfl⟩) (ow_preS hG hW) rfl rfl hl.1 rfl (lv_room (Nat.le_of_ble_eq_true rfl)) dX9_states_15 ⟨Nat.zero_le _, Nat.zero_le _⟩) hW (fun b15 H locs hW => ?_)
    refine lv_if_eq (tgt := 38) hx hb dX9_states_18 (by decide) (fun c18 => ?_) (fun c18 => ?_)
    · replace hf := ow_if_t c18 hf
      refine lv_bipush (v := -7) hx hb dX9_states_38 (by decide) ?_
      exact ow_iret hx hb hr hW hf dX9_states_40 hlocks
    · replace hf := ow_if_f c18 hf
      refine lv_iload_n hx hb dX9_states_21 rfl (lv_at hl 2 rfl) ?_
      refine lv_aload_n hx hb dX9_states_22 rfl (lv_at hl 0 rfl) ?_
      refine ow_getV (ci := 9) (C := RX9) (T := TX9) (N := 41) hx hb hts hown hG hW ow_i56 (by decide) rfl hinX9 0 (by decide) (fk := 0) rfl (hts (.fieldLink RX9 7 "FiftyOneCardsModel" "pack" "I") (by decide +kernel)) (v := .int (σ_15.1 56 0)) rfl dX9_states_23 ?_
      refine lv_icmp_gt (tgt := 38) hx hb dX9_states_26 (by decide) (fun c26 => ?_) (fun c26 => ?_)
      · replace hf := ow_if_t c26 hf
        refine lv_bipush (v := -7) hx hb dX9_states_38 (by decide) ?_
        exact ow_iret hx hb hr hW hf dX9_states_40 hlocks
      · replace hf := ow_if_f c26 hf
        refine lv_iload_n hx hb dX9_states_29 rfl (lv_at hl 3 rfl) ?_
        refine lv_iconst (v := 0) hx hb dX9_states_30 (by decide) ?_
        refine lv_iconst (v := 3) hx hb dX9_states_31 (by decide) ?_
        obtain ⟨r_32, σ_32, hc32, hf⟩ := ow_cl_i hf
        refine ow_callz (va_runS (As := [.int a3, .int (0 : Int32), .int (3 : Int32)]) (rest := []) ⟨hx, hb, hml, hown, hts⟩ (c_X9_in l Z fu a3 (0 : Int32) (3 : Int32) σ_15 r_32 σ_32 hc32) (va_cwS 3 hts gX9_states_X9_in rfl rfl rfl (by decide +kernel) ⟨Nat.le_of_ble_eq_true rfl, Nat.le_of_ble_eq_true rfl⟩) (ow_preS hG hW) rfl rfl hl.1 rfl (lv_room (Nat.le_of_ble_eq_true rfl)) dX9_states_32 ⟨Nat.zero_le _, Nat.zero_le _⟩) hW (fun b32 H locs hW => ?_)
        refine lv_if_ne (tgt := 41) hx hb dX9_states_35 (by decide) (fun c35 => ?_) (fun c35 => ?_)
        · replace hf := ow_if_f c35 hf
          refine lv_aload_n hx hb dX9_states_41 rfl (lv_at hl 0 rfl) ?_
          refine lv_iconst (v := 0) hx hb dX9_states_42 (by decide) ?_
          refine ow_putI (ci := 9) (C := RX9) (T := TX9) (N := 41) hx hb hts hown hG hW ow_i56 (by decide) rfl hinX9 tyX9 tyX9_ok nmX9 40 (by decide) rfl (hts (.fieldLink RX9 256 "FiftyOneCardsModel" "pairMany" "I") (by decide +kernel)) rfl rfl rfl hf dX9_states_43 (fun σ_43 H locs hf hW => ?_)
          refine lv_iconst (v := 0) hx hb dX9_states_46 (by decide) ?_
          refine lv_istore (lv' := [(4, .int (0 : Int32)), (0, .ref (ow_ad Z 56)), (1, .int a1), (2, .int a2), (3, .int a3)]) hx hb dX9_states_47 hl (by decide) rfl (fun ls hl => ?_)
          exact hJ49 fu a1 a2 a3 (0 : Int32) σ_43 _ _ _ hf hW (lv_sub hl [1, 2, 3, 4, 0] rfl)
        · replace hf := ow_if_t c35 hf
          refine lv_bipush (v := -7) hx hb dX9_states_38 (by decide) ?_
          exact ow_iret hx hb hr hW hf dX9_states_40 hlocks
  · replace hf := ow_if_t c5 hf
    refine lv_bipush (v := -5) hx hb dX9_states_8 (by decide) ?_
    exact ow_iret hx hb hr hW hf dX9_states_10 hlocks
set_option maxHeartbeats 40000000 in
set_option maxRecDepth 100000 in
theorem c_X9_laysWithout (l : Launch) (Z : ow_Z) (fu : Nat) (a1 : Int32) (σ : ow_S) (σr : ow_S) (hf : f_X9_laysWithout fu a1 σ = some σr) : Met l yX9_laysWithout wsX9_laysWithout { frames := 1, cells := 0, slots := 0, locals := 60 } (ow_Pc Z 56 20 [.ref (ow_ad Z 56), .int a1] σ) (ow_Qv Z 56 20 σr) 0 0 (ow_A Z 56 20) := by
  refine Met.ofW (cc := cX9_laysWithout) (maxL := 3) (ret := none) (by decide) rfl ?_
  intro p e s m args below meth c s₁ B hml hv
  obtain ⟨hav, hB⟩ := hv
  obtain ⟨hG, hW⟩ := ow_begin hB
  have hx := B.exec
  have hb := B.bytes
  have hr := B.returns
  have hts := atoms_spec (ws := wsX9_laysWithout) B.pre
  have hown : s.vm.findClass RX9 = some m.cls := findClass_of_methodNamed B.named
  have hlocks := B.notSynchronized
  have hinX9 : ∀ w ∈ wsX90, w ∈ wsX9_laysWithout := by decide +kernel
  have hJ45 : ∀ (k7 : Int32 → Int32 → ow_S → Option (ow_S)) (hk7 : ∀ (x1 : Int32) (x2 : Int32) (σ : ow_S) (H : Heap) (locs : List Loc) (ls : Array Slot), k7 x1 x2 σ = some σr → ow_Wd Z 56 20 σ s H locs → lv_has ls 3 [(0, .ref (ow_ad Z 56)), (1, .int x1), (2, .int x2)] → W p l e (headSpec wsX9_laysWithout { frames := 1, cells := 0, slots := 0, locals := 60 }).room s m args below meth c H locs 0 0 (MQ below (ow_Qv Z 56 20 σr) args s 0 0 (ow_A Z 56 20)) (F0 m 7 ls [])), ∀ (x1 : Int32) (x2 : Int32) (σ : ow_S) (H : Heap) (locs : List Loc) (ls : Array Slot), L_X9_laysWithout_45 fu k7 x1 x2 σ = some σr → ow_Wd Z 56 20 σ s H locs → lv_has ls 3 [(0, .ref (ow_ad Z 56)), (1, .int x1), (2, .int x2)] → W p l e (headSpec wsX9_laysWithout { frames := 1, cells := 0, slots := 0, locals := 60 }).room s m args below meth c H locs 0 0 (MQ below (ow_Qv Z 56 20 σr) args s 0 0 (ow_A Z 56 20)) (F0 m 45 ls []) := by
    intro k7 hk7 x1 x2 σ H locs ls hf hW hl
    unfold L_X9_laysWithout_45 at hf
    refine ow_iinc (d := 1) (lv' := fun z => [(2, .int z), (0, .ref (ow_ad Z 56)), (1, .int x1)]) hx hb hf dX9_laysWithout_45 hl (k := 2) rfl (by decide) (by decide) (fun z => rfl) (fun x2_45 hf ls hl => ?_)
    refine lv_goto (tgt := 7) hx hb dX9_laysWithout_48 (by decide) ?_
    exact hk7 x1 x2_45 σ _ _ _ hf hW (lv_sub hl [1, 2, 0] rfl)
  have hJ7 : ∀ (fn : Nat), ∀ (x1 : Int32) (x2 : Int32) (σ : ow_S) (H : Heap) (locs : List Loc) (ls : Array Slot), L_X9_laysWithout_7 fu fn x1 x2 σ = some σr → ow_Wd Z 56 20 σ s H locs → lv_has ls 3 [(0, .ref (ow_ad Z 56)), (1, .int x1), (2, .int x2)] → W p l e (headSpec wsX9_laysWithout { frames := 1, cells := 0, slots := 0, locals := 60 }).room s m args below meth c H locs 0 0 (MQ below (ow_Qv Z 56 20 σr) args s 0 0 (ow_A Z 56 20)) (F0 m 7 ls []) := by
    intro fn
    induction fn with
    | zero => intro x1 x2 σ H locs ls hf hW hl; simp [L_X9_laysWithout_7] at hf
    | succ fn ih =>
      intro x1 x2 σ H locs ls hf hW hl
      rw [L_X9_laysWithout_7] at hf
      refine lv_iload_n hx hb dX9_laysWithout_7 rfl (lv_at hl 2 rfl) ?_
      refine lv_aload_n hx hb dX9_laysWithout_8 rfl (lv_at hl 0 rfl) ?_
      refine ow_getV (ci := 9) (C := RX9) (T := TX9) (N := 41) hx hb hts hown hG hW ow_i56 (by decide) rfl hinX9 2 (by decide) (fk := 0) rfl (hts (.fieldLink RX9 85 "FiftyOneCardsModel" "rowMany" "I") (by decide +kernel)) (v := .int (σ.1 56 2)) rfl dX9_laysWithout_9 ?_
      refine lv_icmp_ge (tgt := 51) hx hb dX9_laysWithout_12 (by decide) (fun c12 => ?_) (fun c12 => ?_)
      · replace hf := ow_if_t c12 hf
        exact ow_vret hx hb hr hW hf dX9_laysWithout_51 hlocks
      · replace hf := ow_if_f c12 hf
        refine lv_iload_n hx hb dX9_laysWithout_15 rfl (lv_at hl 2 rfl) ?_
        refine lv_iload_n hx hb dX9_laysWithout_16 rfl (lv_at hl 1 rfl) ?_
        refine lv_icmp_eq (tgt := 45) hx hb dX9_laysWithout_17 (by decide) (fun c17 => ?_) (fun c17 => ?_)
        · replace hf := ow_if_t c17 hf
          exact hJ45 (L_X9_laysWithout_7 fu fn) ih x1 x2 σ _ _ _ hf hW (lv_sub hl [0, 1, 2] rfl)
        · replace hf := ow_if_f c17 hf
          refine lv_aload_n hx hb dX9_laysWithout_20 rfl (lv_at hl 0 rfl) ?_
          refine ow_getV (ci := 9) (C := RX9) (T := TX9) (N := 41) hx hb hts hown hG hW ow_i56 (by decide) rfl hinX9 35 (by decide) (fk := 2) rfl (hts (.fieldLink RX9 65 "FiftyOneCardsModel" "goes" "[I") (by decide +kernel)) (v := .ref (ow_ad Z 74)) (ow_vR hW ow_i56.1 ow_i56.2.1 rfl) dX9_laysWithout_21 ?_
          refine lv_aload_n hx hb dX9_laysWithout_24 rfl (lv_at hl 0 rfl) ?_
          refine ow_getV (ci := 9) (C := RX9) (T := TX9) (N := 41) hx hb hts hown hG hW ow_i56 (by decide) rfl hinX9 36 (by decide) (fk := 0) rfl (hts (.fieldLink RX9 102 "FiftyOneCardsModel" "goesMany" "I") (by decide +kernel)) (v := .int (σ.1 56 36)) rfl dX9_laysWithout_25 ?_
          refine lv_aload_n hx hb dX9_laysWithout_28 rfl (lv_at hl 0 rfl) ?_
          refine ow_getV (ci := 9) (C := RX9) (T := TX9) (N := 41) hx hb hts hown hG hW ow_i56 (by decide) rfl hinX9 1 (by decide) (fk := 2) rfl (hts (.fieldLink RX9 13 "FiftyOneCardsModel" "row" "[I") (by decide +kernel)) (v := .ref (ow_ad Z 57)) (ow_vR hW ow_i56.1 ow_i56.2.1 rfl) dX9_laysWithout_29 ?_
          refine lv_iload_n hx hb dX9_laysWithout_32 rfl (lv_at hl 2 rfl) ?_
          obtain ⟨q33, hf⟩ := ow_ck_i hf
          refine ow_ild (q := x2.toNatClampNeg) hx hb hG hW ow_i57 rfl q33 rfl dX9_laysWithout_33 ?_
          obtain ⟨q34, hf⟩ := ow_ck_i hf
          refine ow_ist (q := (σ.1 56 36).toNatClampNeg) hx hb hG hW ow_i74 rfl q34 rfl hf dX9_laysWithout_34 (fun σ_34 H locs hf hW => ?_)
          refine lv_aload_n hx hb dX9_laysWithout_35 rfl (lv_at hl 0 rfl) ?_
          refine lv_dup hx hb dX9_laysWithout_36 rfl ?_
          refine ow_getV (ci := 9) (C := RX9) (T := TX9) (N := 41) hx hb hts hown hG hW ow_i56 (by decide) rfl hinX9 36 (by decide) (fk := 0) rfl (hts (.fieldLink RX9 102 "FiftyOneCardsModel" "goesMany" "I") (by decide +kernel)) (v := .int (σ_34.1 56 36)) rfl dX9_laysWithout_37 ?_
          refine lv_iconst (v := 1) hx hb dX9_laysWithout_40 (by decide) ?_
          refine lv_iadd hx hb dX9_laysWithout_41 ?_
          refine ow_putI (ci := 9) (C := RX9) (T := TX9) (N := 41) hx hb hts hown hG hW ow_i56 (by decide) rfl hinX9 tyX9 tyX9_ok nmX9 36 (by decide) rfl (hts (.fieldLink RX9 102 "FiftyOneCardsModel" "goesMany" "I") (by decide +kernel)) rfl rfl rfl hf dX9_laysWithout_42 (fun σ_42 H locs hf hW => ?_)
          exact hJ45 (L_X9_laysWithout_7 fu fn) ih x1 x2 σ_42 _ _ _ hf hW (lv_sub hl [0, 1, 2] rfl)
  have hl := lv_entry ([.ref (ow_ad Z 56), .int a1]) (n := 3) (Nat.le_of_ble_eq_true rfl)
  refine W.eq (g2 := F0 m 0 ((lg_sl ([.ref (ow_ad Z 56), .int a1]) ++ List.replicate (3 - (lg_sl ([.ref (ow_ad Z 56), .int a1])).length) Slot.unset).toArray) []) (by rw [hav]; exact lg_entry_eq _ _ _) ?_
  generalize (lg_sl ([.ref (ow_ad Z 56), .int a1]) ++ List.replicate (3 - (lg_sl ([.ref (ow_ad Z 56), .int a1])).length) Slot.unset).toArray = ls at hl ⊢
  have hl : lv_has ls 3 [(0, .ref (ow_ad Z 56)), (1, .int a1)] := hl
  unfold f_X9_laysWithout at hf
  refine lv_aload_n hx hb dX9_laysWithout_0 rfl (lv_at hl 0 rfl) ?_
  refine lv_iconst (v := 0) hx hb dX9_laysWithout_1 (by decide) ?_
  refine ow_putI (ci := 9) (C := RX9) (T := TX9) (N := 41) hx hb hts hown hG hW ow_i56 (by decide) rfl hinX9 tyX9 tyX9_ok nmX9 36 (by decide) rfl (hts (.fieldLink RX9 102 "FiftyOneCardsModel" "goesMany" "I") (by decide +kernel)) rfl rfl rfl hf dX9_laysWithout_2 (fun σ_2 H locs hf hW => ?_)
  refine lv_iconst (v := 0) hx hb dX9_laysWithout_5 (by decide) ?_
  refine lv_istore_n (lv' := [(2, .int (0 : Int32)), (0, .ref (ow_ad Z 56)), (1, .int a1)]) hx hb dX9_laysWithout_6 rfl hl (by decide) rfl (fun ls hl => ?_)
  exact hJ7 fu a1 (0 : Int32) σ_2 _ _ _ hf hW (lv_sub hl [1, 2, 0] rfl)
set_option maxHeartbeats 40000000 in
set_option maxRecDepth 100000 in
theorem c_X9_drop (l : Launch) (Z : ow_Z) (fu : Nat) (a1 : Int32) (a2 : Int32) (σ : ow_S) (rr : Int32) (σr : ow_S) (hf : f_X9_drop fu a1 a2 σ = some (rr, σr)) : Met l yX9_drop wsX9_drop { frames := 7, cells := 0, slots := 0, locals := 202 } (ow_Pc Z 56 20 [.ref (ow_ad Z 56), .int a1, .int a2] σ) (ow_Qi Z 56 20 rr σr) 0 0 (ow_A Z 56 20) := by
  refine Met.ofW (cc := cX9_drop) (maxL := 8) (ret := (some .int)) (by decide) rfl ?_
  intro p e s m args below meth c s₁ B hml hv
  obtain ⟨hav, hB⟩ := hv
  obtain ⟨hG, hW⟩ := ow_begin hB
  have hx := B.exec
  have hb := B.bytes
  have hr := B.returns
  have hts := atoms_spec (ws := wsX9_drop) B.pre
  have hown : s.vm.findClass RX9 = some m.cls := findClass_of_methodNamed B.named
  have hlocks := B.notSynchronized
  have hinX9 : ∀ w ∈ wsX90, w ∈ wsX9_drop := by decide +kernel
  have hJ98 : ∀ (k33 : Int32 → Int32 → Int32 → Int32 → Int32 → ow_S → Option (Int32 × ow_S)) (hk33 : ∀ (x1 : Int32) (x2 : Int32) (x3 : Int32) (x4 : Int32) (x5 : Int32) (σ : ow_S) (H : Heap) (locs : List Loc) (ls : Array Slot), k33 x1 x2 x3 x4 x5 σ = some (rr, σr) → ow_Wd Z 56 20 σ s H locs → lv_has ls 8 [(0, .ref (ow_ad Z 56)), (1, .int x1), (2, .int x2), (3, .int x3), (4, .int x4), (5, .int x5)] → W p l e (headSpec wsX9_drop { frames := 7, cells := 0, slots := 0, locals := 202 }).room s m args below meth c H locs 0 0 (MQ below (ow_Qi Z 56 20 rr σr) args s 0 0 (ow_A Z 56 20)) (F0 m 33 ls [])), ∀ (x1 : Int32) (x2 : Int32) (x3 : Int32) (x5 : Int32) (s0 : Int32) (σ : ow_S) (H : Heap) (locs : List Loc) (ls : Array Slot), L_X9_drop_98 fu k33 x1 x2 x3 x5 s0 σ = some (rr, σr) → ow_Wd Z 56 20 σ s H locs → lv_has ls 8 [(0, .ref (ow_ad Z 56)), (1, .int x1), (2, .int x2), (3, .int x3), (5, .int x5)] → W p l e (headSpec wsX9_drop { frames := 7, cells := 0, slots := 0, locals := 202 }).room s m args below meth c H locs 0 0 (MQ below (ow_Qi Z 56 20 rr σr) args s 0 0 (ow_A Z 56 20)) (F0 m 98 ls [.int s0]) := by
    intro k33 hk33 x1 x2 x3 x5 s0 σ H locs ls hf hW hl
    unfold L_X9_drop_98 at hf
    refine lv_istore (lv' := [(4, .int s0), (0, .ref (ow_ad Z 56)), (1, .int x1), (2, .int x2), (3, .int x3), (5, .int x5)]) hx hb dX9_drop_98 hl (by decide) rfl (fun ls hl => ?_)
    refine ow_iinc (d := 1) (lv' := fun z => [(5, .int z), (4, .int s0), (0, .ref (ow_ad Z 56)), (1, .int x1), (2, .int x2), (3, .int x3)]) hx hb hf dX9_drop_100 hl (k := 5) rfl (by decide) (by decide) (fun z => rfl) (fun x5_100 hf ls hl => ?_)
    refine lv_goto (tgt := 33) hx hb dX9_drop_103 (by decide) ?_
    exact hk33 x1 x2 x3 s0 x5_100 σ _ _ _ hf hW (lv_sub hl [2, 3, 4, 5, 1, 0] rfl)
  have hJ85 : ∀ (k33 : Int32 → Int32 → Int32 → Int32 → Int32 → ow_S → Option (Int32 × ow_S)) (hk33 : ∀ (x1 : Int32) (x2 : Int32) (x3 : Int32) (x4 : Int32) (x5 : Int32) (σ : ow_S) (H : Heap) (locs : List Loc) (ls : Array Slot), k33 x1 x2 x3 x4 x5 σ = some (rr, σr) → ow_Wd Z 56 20 σ s H locs → lv_has ls 8 [(0, .ref (ow_ad Z 56)), (1, .int x1), (2, .int x2), (3, .int x3), (4, .int x4), (5, .int x5)] → W p l e (headSpec wsX9_drop { frames := 7, cells := 0, slots := 0, locals := 202 }).room s m args below meth c H locs 0 0 (MQ below (ow_Qi Z 56 20 rr σr) args s 0 0 (ow_A Z 56 20)) (F0 m 33 ls [])), ∀ (x1 : Int32) (x2 : Int32) (x4 : Int32) (x5 : Int32) (x6 : Int32) (x7 : Int32) (s0 : Int32) (σ : ow_S) (H : Heap) (locs : List Loc) (ls : Array Slot), L_X9_drop_85 fu k33 x1 x2 x4 x5 x6 x7 s0 σ = some (rr, σr) → ow_Wd Z 56 20 σ s H locs → lv_has ls 8 [(0, .ref (ow_ad Z 56)), (1, .int x1), (2, .int x2), (4, .int x4), (5, .int x5), (6, .int x6), (7, .int x7)] → W p l e (headSpec wsX9_drop { frames := 7, cells := 0, slots := 0, locals := 202 }).room s m args below meth c H locs 0 0 (MQ below (ow_Qi Z 56 20 rr σr) args s 0 0 (ow_A Z 56 20)) (F0 m 85 ls [.int s0]) := by
    intro k33 hk33 x1 x2 x4 x5 x6 x7 s0 σ H locs ls hf hW hl
    unfold L_X9_drop_85 at hf
    refine lv_istore_n (lv' := [(3, .int s0), (0, .ref (ow_ad Z 56)), (1, .int x1), (2, .int x2), (4, .int x4), (5, .int x5), (6, .int x6), (7, .int x7)]) hx hb dX9_drop_85 rfl hl (by decide) rfl (fun ls hl => ?_)
    refine lv_iload hx hb dX9_drop_86 (lv_at hl 7 rfl) ?_
    refine lv_if_eq (tgt := 96) hx hb dX9_drop_88 (by decide) (fun c88 => ?_) (fun c88 => ?_)
    · replace hf := ow_if_t c88 hf
      refine lv_iload hx hb dX9_drop_96 (lv_at hl 4 rfl) ?_
      exact hJ98 k33 hk33 x1 x2 s0 x5 x4 σ _ _ _ hf hW (lv_sub hl [1, 2, 3, 0, 5] rfl)
    · replace hf := ow_if_f c88 hf
      refine lv_iload hx hb dX9_drop_91 (lv_at hl 6 rfl) ?_
      refine lv_goto (tgt := 98) hx hb dX9_drop_93 (by decide) ?_
      exact hJ98 k33 hk33 x1 x2 s0 x5 x6 σ _ _ _ hf hW (lv_sub hl [1, 2, 3, 0, 5] rfl)
  have hJ72 : ∀ (k33 : Int32 → Int32 → Int32 → Int32 → Int32 → ow_S → Option (Int32 × ow_S)) (hk33 : ∀ (x1 : Int32) (x2 : Int32) (x3 : Int32) (x4 : Int32) (x5 : Int32) (σ : ow_S) (H : Heap) (locs : List Loc) (ls : Array Slot), k33 x1 x2 x3 x4 x5 σ = some (rr, σr) → ow_Wd Z 56 20 σ s H locs → lv_has ls 8 [(0, .ref (ow_ad Z 56)), (1, .int x1), (2, .int x2), (3, .int x3), (4, .int x4), (5, .int x5)] → W p l e (headSpec wsX9_drop { frames := 7, cells := 0, slots := 0, locals := 202 }).room s m args below meth c H locs 0 0 (MQ below (ow_Qi Z 56 20 rr σr) args s 0 0 (ow_A Z 56 20)) (F0 m 33 ls [])), ∀ (x1 : Int32) (x2 : Int32) (x3 : Int32) (x4 : Int32) (x5 : Int32) (x6 : Int32) (s0 : Int32) (σ : ow_S) (H : Heap) (locs : List Loc) (ls : Array Slot), L_X9_drop_72 fu k33 x1 x2 x3 x4 x5 x6 s0 σ = some (rr, σr) → ow_Wd Z 56 20 σ s H locs → lv_has ls 8 [(0, .ref (ow_ad Z 56)), (1, .int x1), (2, .int x2), (3, .int x3), (4, .int x4), (5, .int x5), (6, .int x6)] → W p l e (headSpec wsX9_drop { frames := 7, cells := 0, slots := 0, locals := 202 }).room s m args below meth c H locs 0 0 (MQ below (ow_Qi Z 56 20 rr σr) args s 0 0 (ow_A Z 56 20)) (F0 m 72 ls [.int s0]) := by
    intro k33 hk33 x1 x2 x3 x4 x5 x6 s0 σ H locs ls hf hW hl
    unfold L_X9_drop_72 at hf
    refine lv_istore (lv' := [(7, .int s0), (0, .ref (ow_ad Z 56)), (1, .int x1), (2, .int x2), (3, .int x3), (4, .int x4), (5, .int x5), (6, .int x6)]) hx hb dX9_drop_72 hl (by decide) rfl (fun ls hl => ?_)
    refine lv_iload hx hb dX9_drop_74 (lv_at hl 0 rfl) ?_
    refine lv_if_eq (tgt := 84) hx hb dX9_drop_76 (by decide) (fun c76 => ?_) (fun c76 => ?_)
    · replace hf := ow_if_t c76 hf
      refine lv_iload_n hx hb dX9_drop_84 rfl (lv_at hl 4 rfl) ?_
      exact hJ85 k33 hk33 x1 x2 x4 x5 x6 s0 x3 σ _ _ _ hf hW (lv_sub hl [1, 2, 3, 5, 6, 7, 0] rfl)
    · replace hf := ow_if_f c76 hf
      refine lv_iload hx hb dX9_drop_79 (lv_at hl 6 rfl) ?_
      refine lv_goto (tgt := 85) hx hb dX9_drop_81 (by decide) ?_
      exact hJ85 k33 hk33 x1 x2 x4 x5 x6 s0 x5 σ _ _ _ hf hW (lv_sub hl [1, 2, 3, 5, 6, 7, 0] rfl)
  have hJ67 : ∀ (k33 : Int32 → Int32 → Int32 → Int32 → Int32 → ow_S → Option (Int32 × ow_S)) (hk33 : ∀ (x1 : Int32) (x2 : Int32) (x3 : Int32) (x4 : Int32) (x5 : Int32) (σ : ow_S) (H : Heap) (locs : List Loc) (ls : Array Slot), k33 x1 x2 x3 x4 x5 σ = some (rr, σr) → ow_Wd Z 56 20 σ s H locs → lv_has ls 8 [(0, .ref (ow_ad Z 56)), (1, .int x1), (2, .int x2), (3, .int x3), (4, .int x4), (5, .int x5)] → W p l e (headSpec wsX9_drop { frames := 7, cells := 0, slots := 0, locals := 202 }).room s m args below meth c H locs 0 0 (MQ below (ow_Qi Z 56 20 rr σr) args s 0 0 (ow_A Z 56 20)) (F0 m 33 ls [])), ∀ (x1 : Int32) (x2 : Int32) (x3 : Int32) (x4 : Int32) (x5 : Int32) (x6 : Int32) (σ : ow_S) (H : Heap) (locs : List Loc) (ls : Array Slot), L_X9_drop_67 fu k33 x1 x2 x3 x4 x5 x6 σ = some (rr, σr) → ow_Wd Z 56 20 σ s H locs → lv_has ls 8 [(0, .ref (ow_ad Z 56)), (1, .int x1), (2, .int x2), (3, .int x3), (4, .int x4), (5, .int x5), (6, .int x6)] → W p l e (headSpec wsX9_drop { frames := 7, cells := 0, slots := 0, locals := 202 }).room s m args below meth c H locs 0 0 (MQ below (ow_Qi Z 56 20 rr σr) args s 0 0 (ow_A Z 56 20)) (F0 m 67 ls []) := by
    intro k33 hk33 x1 x2 x3 x4 x5 x6 σ H locs ls hf hW hl
    unfold L_X9_drop_67 at hf
    refine lv_iconst (v := 1) hx hb dX9_drop_67 (by decide) ?_
    refine lv_goto (tgt := 72) hx hb dX9_drop_68 (by decide) ?_
    exact hJ72 k33 hk33 x1 x2 x3 x4 x5 x6 (1 : Int32) σ _ _ _ hf hW (lv_sub hl [0, 1, 2, 3, 4, 5, 6] rfl)
  have hJ33 : ∀ (fn : Nat), ∀ (x1 : Int32) (x2 : Int32) (x3 : Int32) (x4 : Int32) (x5 : Int32) (σ : ow_S) (H : Heap) (locs : List Loc) (ls : Array Slot), L_X9_drop_33 fu fn x1 x2 x3 x4 x5 σ = some (rr, σr) → ow_Wd Z 56 20 σ s H locs → lv_has ls 8 [(0, .ref (ow_ad Z 56)), (1, .int x1), (2, .int x2), (3, .int x3), (4, .int x4), (5, .int x5)] → W p l e (headSpec wsX9_drop { frames := 7, cells := 0, slots := 0, locals := 202 }).room s m args below meth c H locs 0 0 (MQ below (ow_Qi Z 56 20 rr σr) args s 0 0 (ow_A Z 56 20)) (F0 m 33 ls []) := by
    intro fn
    induction fn with
    | zero => intro x1 x2 x3 x4 x5 σ H locs ls hf hW hl; simp [L_X9_drop_33] at hf
    | succ fn ih =>
      intro x1 x2 x3 x4 x5 σ H locs ls hf hW hl
      rw [L_X9_drop_33] at hf
      refine lv_iload hx hb dX9_drop_33 (lv_at hl 5 rfl) ?_
      refine lv_aload_n hx hb dX9_drop_35 rfl (lv_at hl 0 rfl) ?_
      refine ow_getV (ci := 9) (C := RX9) (T := TX9) (N := 41) hx hb hts hown hG hW ow_i56 (by decide) rfl hinX9 2 (by decide) (fk := 0) rfl (hts (.fieldLink RX9 85 "FiftyOneCardsModel" "rowMany" "I") (by decide +kernel)) (v := .int (σ.1 56 2)) rfl dX9_drop_36 ?_
      refine lv_icmp_ge (tgt := 106) hx hb dX9_drop_39 (by decide) (fun c39 => ?_) (fun c39 => ?_)
      · replace hf := ow_if_t c39 hf
        refine lv_iload_n hx hb dX9_drop_106 rfl (lv_at hl 2 rfl) ?_
        refine lv_if_ne (tgt := 114) hx hb dX9_drop_107 (by decide) (fun c107 => ?_) (fun c107 => ?_)
        · replace hf := ow_if_f c107 hf
          refine lv_iload hx hb dX9_drop_114 (lv_at hl 4 rfl) ?_
          exact ow_iret hx hb hr hW hf dX9_drop_116 hlocks
        · replace hf := ow_if_t c107 hf
          refine lv_iload_n hx hb dX9_drop_110 rfl (lv_at hl 3 rfl) ?_
          refine lv_goto (tgt := 116) hx hb dX9_drop_111 (by decide) ?_
          exact ow_iret hx hb hr hW hf dX9_drop_116 hlocks
      · replace hf := ow_if_f c39 hf
        refine lv_aload_n hx hb dX9_drop_42 rfl (lv_at hl 0 rfl) ?_
        refine lv_iload hx hb dX9_drop_43 (lv_at hl 5 rfl) ?_
        obtain ⟨σ_45, hc45, hf⟩ := ow_cv_i hf
        refine ow_callv (va_runV (As := [.int x5]) (rest := []) ⟨hx, hb, hml, hown, hts⟩ (c_X9_laysWithout l Z fu x5 σ σ_45  hc45) (cwV 1 hts gX9_drop_X9_laysWithout rfl rfl rfl (by decide +kernel) ⟨Nat.le_of_ble_eq_true rfl, Nat.le_of_ble_eq_true rfl⟩) (ow_preV hG hW ow_i56 (by decide) rfl) rfl rfl hl.1 rfl (lv_room (Nat.le_of_ble_eq_true rfl)) dX9_drop_45 ⟨Nat.zero_le _, Nat.zero_le _⟩) hW (fun H locs hW => ?_)
        refine lv_aload_n hx hb dX9_drop_48 rfl (lv_at hl 0 rfl) ?_
        refine lv_iload_n hx hb dX9_drop_49 rfl (lv_at hl 1 rfl) ?_
        obtain ⟨r_50, σ_50, hc50, hf⟩ := ow_cl_i hf
        refine ow_calli (va_runV (As := [.int x1]) (rest := []) ⟨hx, hb, hml, hown, hts⟩ (c_X9_saysOf l Z fu x1 σ_45 r_50 σ_50 hc50) (cwV 1 hts gX9_drop_X9_saysOf rfl rfl rfl (by decide +kernel) ⟨Nat.le_of_ble_eq_true rfl, Nat.le_of_ble_eq_true rfl⟩) (ow_preV hG hW ow_i56 (by decide) rfl) rfl rfl hl.1 rfl (lv_room (Nat.le_of_ble_eq_true rfl)) dX9_drop_50 ⟨Nat.zero_le _, Nat.zero_le _⟩) hW (fun H locs hW => ?_)
        refine lv_istore (lv' := [(6, .int r_50), (0, .ref (ow_ad Z 56)), (1, .int x1), (2, .int x2), (3, .int x3), (4, .int x4), (5, .int x5)]) hx hb dX9_drop_53 hl (by decide) rfl (fun ls hl => ?_)
        refine lv_iload_n hx hb dX9_drop_55 rfl (lv_at hl 4 rfl) ?_
        refine lv_iconst (v := -1) hx hb dX9_drop_56 (by decide) ?_
        refine lv_icmp_eq (tgt := 67) hx hb dX9_drop_57 (by decide) (fun c57 => ?_) (fun c57 => ?_)
        · replace hf := ow_if_t c57 hf
          exact hJ67 (L_X9_drop_33 fu fn) ih x1 x2 x3 x4 x5 r_50 σ_50 _ _ _ hf hW (lv_sub hl [1, 2, 3, 4, 5, 6, 0] rfl)
        · replace hf := ow_if_f c57 hf
          refine lv_iload hx hb dX9_drop_60 (lv_at hl 0 rfl) ?_
          refine lv_iload hx hb dX9_drop_62 (lv_at hl 5 rfl) ?_
          refine lv_icmp_le (tgt := 71) hx hb dX9_drop_64 (by decide) (fun c64 => ?_) (fun c64 => ?_)
          · replace hf := ow_if_t c64 hf
            refine lv_iconst (v := 0) hx hb dX9_drop_71 (by decide) ?_
            exact hJ72 (L_X9_drop_33 fu fn) ih x1 x2 x3 x4 x5 r_50 (0 : Int32) σ_50 _ _ _ hf hW (lv_sub hl [1, 2, 3, 4, 5, 6, 0] rfl)
          · replace hf := ow_if_f c64 hf
            exact hJ67 (L_X9_drop_33 fu fn) ih x1 x2 x3 x4 x5 r_50 σ_50 _ _ _ hf hW (lv_sub hl [1, 2, 3, 4, 5, 6, 0] rfl)
  have hl := lv_entry ([.ref (ow_ad Z 56), .int a1, .int a2]) (n := 8) (Nat.le_of_ble_eq_true rfl)
  refine W.eq (g2 := F0 m 0 ((lg_sl ([.ref (ow_ad Z 56), .int a1, .int a2]) ++ List.replicate (8 - (lg_sl ([.ref (ow_ad Z 56), .int a1, .int a2])).length) Slot.unset).toArray) []) (by rw [hav]; exact lg_entry_eq _ _ _) ?_
  generalize (lg_sl ([.ref (ow_ad Z 56), .int a1, .int a2]) ++ List.replicate (8 - (lg_sl ([.ref (ow_ad Z 56), .int a1, .int a2])).length) Slot.unset).toArray = ls at hl ⊢
  have hl : lv_has ls 8 [(0, .ref (ow_ad Z 56)), (1, .int a1), (2, .int a2)] := hl
  unfold f_X9_drop at hf
  refine lv_aload_n hx hb dX9_drop_0 rfl (lv_at hl 0 rfl) ?_
  refine lv_iload_n hx hb dX9_drop_1 rfl (lv_at hl 1 rfl) ?_
  obtain ⟨r_2, σ_2, hc2, hf⟩ := ow_cl_i hf
  refine ow_callz (va_runV (As := [.int a1]) (rest := []) ⟨hx, hb, hml, hown, hts⟩ (c_X9_isHead l Z fu a1 σ r_2 σ_2 hc2) (cwV 1 hts gX9_drop_X9_isHead rfl rfl rfl (by decide +kernel) ⟨Nat.le_of_ble_eq_true rfl, Nat.le_of_ble_eq_true rfl⟩) (ow_preV hG hW ow_i56 (by decide) rfl) rfl rfl hl.1 rfl (lv_room (Nat.le_of_ble_eq_true rfl)) dX9_drop_2 ⟨Nat.zero_le _, Nat.zero_le _⟩) hW (fun b2 H locs hW => ?_)
  refine lv_if_ne (tgt := 11) hx hb dX9_drop_5 (by decide) (fun c5 => ?_) (fun c5 => ?_)
  · replace hf := ow_if_f c5 hf
    refine lv_iload_n hx hb dX9_drop_11 rfl (lv_at hl 2 rfl) ?_
    refine lv_iconst (v := 0) hx hb dX9_drop_12 (by decide) ?_
    refine lv_iconst (v := 1) hx hb dX9_drop_13 (by decide) ?_
    obtain ⟨r_14, σ_14, hc14, hf⟩ := ow_cl_i hf
    refine ow_callz (va_runS (As := [.int a2, .int (0 : Int32), .int (1 : Int32)]) (rest := []) ⟨hx, hb, hml, hown, hts⟩ (c_X9_in l Z fu a2 (0 : Int32) (1 : Int32) σ_2 r_14 σ_14 hc14) (va_cwS 3 hts gX9_drop_X9_in rfl rfl rfl (by decide +kernel) ⟨Nat.le_of_ble_eq_true rfl, Nat.le_of_ble_eq_true rfl⟩) (ow_preS hG hW) rfl rfl hl.1 rfl (lv_room (Nat.le_of_ble_eq_true rfl)) dX9_drop_14 ⟨Nat.zero_le _, Nat.zero_le _⟩) hW (fun b14 H locs hW => ?_)
    refine lv_if_ne (tgt := 24) hx hb dX9_drop_17 (by decide) (fun c17 => ?_) (fun c17 => ?_)
    · replace hf := ow_if_f c17 hf
      refine lv_iconst (v := -1) hx hb dX9_drop_24 (by decide) ?_
      refine lv_istore_n (lv' := [(3, .int (-1 : Int32)), (0, .ref (ow_ad Z 56)), (1, .int a1), (2, .int a2)]) hx hb dX9_drop_25 rfl hl (by decide) rfl (fun ls hl => ?_)
      refine lv_ldc (v := -1000000) hx hb hown (hts (.constant RX9 202 (-1000000)) (by decide +kernel)) dX9_drop_26 ?_
      refine lv_istore (lv' := [(4, .int (-1000000 : Int32)), (3, .int (-1 : Int32)), (0, .ref (ow_ad Z 56)), (1, .int a1), (2, .int a2)]) hx hb dX9_drop_28 hl (by decide) rfl (fun ls hl => ?_)
      refine lv_iconst (v := 0) hx hb dX9_drop_30 (by decide) ?_
      refine lv_istore (lv' := [(5, .int (0 : Int32)), (4, .int (-1000000 : Int32)), (3, .int (-1 : Int32)), (0, .ref (ow_ad Z 56)), (1, .int a1), (2, .int a2)]) hx hb dX9_drop_31 hl (by decide) rfl (fun ls hl => ?_)
      exact hJ33 fu a1 a2 (-1 : Int32) (-1000000 : Int32) (0 : Int32) σ_14 _ _ _ hf hW (lv_sub hl [3, 4, 5, 2, 1, 0] rfl)
    · replace hf := ow_if_t c17 hf
      refine lv_ldcw (v := -1000007) hx hb hown (hts (.constant RX9 265 (-1000007)) (by decide +kernel)) dX9_drop_20 ?_
      exact ow_iret hx hb hr hW hf dX9_drop_23 hlocks
  · replace hf := ow_if_t c5 hf
    refine lv_ldc (v := -1000005) hx hb hown (hts (.constant RX9 239 (-1000005)) (by decide +kernel)) dX9_drop_8 ?_
    exact ow_iret hx hb hr hW hf dX9_drop_10 hlocks
set_option maxHeartbeats 40000000 in
set_option maxRecDepth 100000 in
theorem c_X9_often (l : Launch) (Z : ow_Z) (fu : Nat) (a1 : Int32) (a2 : Int32) (a3 : Int32) (σ : ow_S) (rr : Int32) (σr : ow_S) (hf : f_X9_often fu a1 a2 a3 σ = some (rr, σr)) : Met l yX9_often wsX9_often { frames := 7, cells := 0, slots := 0, locals := 202 } (ow_Pc Z 56 20 [.ref (ow_ad Z 56), .int a1, .int a2, .int a3] σ) (ow_Qi Z 56 20 rr σr) 0 0 (ow_A Z 56 20) := by
  refine Met.ofW (cc := cX9_often) (maxL := 6) (ret := (some .int)) (by decide) rfl ?_
  intro p e s m args below meth c s₁ B hml hv
  obtain ⟨hav, hB⟩ := hv
  obtain ⟨hG, hW⟩ := ow_begin hB
  have hx := B.exec
  have hb := B.bytes
  have hr := B.returns
  have hts := atoms_spec (ws := wsX9_often) B.pre
  have hown : s.vm.findClass RX9 = some m.cls := findClass_of_methodNamed B.named
  have hlocks := B.notSynchronized
  have hJ67 : ∀ (k45 : Int32 → Int32 → Int32 → Int32 → Int32 → ow_S → Option (Int32 × ow_S)) (hk45 : ∀ (x1 : Int32) (x2 : Int32) (x3 : Int32) (x4 : Int32) (x5 : Int32) (σ : ow_S) (H : Heap) (locs : List Loc) (ls : Array Slot), k45 x1 x2 x3 x4 x5 σ = some (rr, σr) → ow_Wd Z 56 20 σ s H locs → lv_has ls 6 [(0, .ref (ow_ad Z 56)), (1, .int x1), (2, .int x2), (3, .int x3), (4, .int x4), (5, .int x5)] → W p l e (headSpec wsX9_often { frames := 7, cells := 0, slots := 0, locals := 202 }).room s m args below meth c H locs 0 0 (MQ below (ow_Qi Z 56 20 rr σr) args s 0 0 (ow_A Z 56 20)) (F0 m 45 ls [])), ∀ (x1 : Int32) (x2 : Int32) (x3 : Int32) (x5 : Int32) (s0 : Int32) (s1 : Int32) (σ : ow_S) (H : Heap) (locs : List Loc) (ls : Array Slot), L_X9_often_67 fu k45 x1 x2 x3 x5 s0 s1 σ = some (rr, σr) → ow_Wd Z 56 20 σ s H locs → lv_has ls 6 [(0, .ref (ow_ad Z 56)), (1, .int x1), (2, .int x2), (3, .int x3), (5, .int x5)] → W p l e (headSpec wsX9_often { frames := 7, cells := 0, slots := 0, locals := 202 }).room s m args below meth c H locs 0 0 (MQ below (ow_Qi Z 56 20 rr σr) args s 0 0 (ow_A Z 56 20)) (F0 m 67 ls [.int s1, .int s0]) := by
    intro k45 hk45 x1 x2 x3 x5 s0 s1 σ H locs ls hf hW hl
    unfold L_X9_often_67 at hf
    refine lv_iadd hx hb dX9_often_67 ?_
    refine ow_topi hf (fun x4_68 hf => ?_)
    refine lv_istore (lv' := [(4, .int x4_68), (0, .ref (ow_ad Z 56)), (1, .int x1), (2, .int x2), (3, .int x3), (5, .int x5)]) hx hb dX9_often_68 hl (by decide) rfl (fun ls hl => ?_)
    refine lv_aload_n hx hb dX9_often_70 rfl (lv_at hl 1 rfl) ?_
    refine lv_iconst (v := 1) hx hb dX9_often_71 (by decide) ?_
    obtain ⟨σ_72, hc72, hf⟩ := ow_cv_i hf
    refine ow_callv (va_runV (As := [.int (1 : Int32)]) (rest := []) ⟨hx, hb, hml, hown, hts⟩ (c_X9_turnsOver l Z fu (1 : Int32) σ σ_72  hc72) (cwV 1 hts gX9_often_X9_turnsOver rfl rfl rfl (by decide +kernel) ⟨Nat.le_of_ble_eq_true rfl, Nat.le_of_ble_eq_true rfl⟩) (ow_preV hG hW ow_i56 (by decide) rfl) rfl rfl hl.1 rfl (lv_room (Nat.le_of_ble_eq_true rfl)) dX9_often_72 ⟨Nat.zero_le _, Nat.zero_le _⟩) hW (fun H locs hW => ?_)
    refine ow_iinc (d := 1) (lv' := fun z => [(5, .int z), (4, .int x4_68), (0, .ref (ow_ad Z 56)), (1, .int x1), (2, .int x2), (3, .int x3)]) hx hb hf dX9_often_75 hl (k := 5) rfl (by decide) (by decide) (fun z => rfl) (fun x5_75 hf ls hl => ?_)
    refine lv_goto (tgt := 45) hx hb dX9_often_78 (by decide) ?_
    exact hk45 x1 x2 x3 x4_68 x5_75 σ_72 _ _ _ hf hW (lv_sub hl [2, 3, 4, 5, 1, 0] rfl)
  have hJ45 : ∀ (fn : Nat), ∀ (x1 : Int32) (x2 : Int32) (x3 : Int32) (x4 : Int32) (x5 : Int32) (σ : ow_S) (H : Heap) (locs : List Loc) (ls : Array Slot), L_X9_often_45 fu fn x1 x2 x3 x4 x5 σ = some (rr, σr) → ow_Wd Z 56 20 σ s H locs → lv_has ls 6 [(0, .ref (ow_ad Z 56)), (1, .int x1), (2, .int x2), (3, .int x3), (4, .int x4), (5, .int x5)] → W p l e (headSpec wsX9_often { frames := 7, cells := 0, slots := 0, locals := 202 }).room s m args below meth c H locs 0 0 (MQ below (ow_Qi Z 56 20 rr σr) args s 0 0 (ow_A Z 56 20)) (F0 m 45 ls []) := by
    intro fn
    induction fn with
    | zero => intro x1 x2 x3 x4 x5 σ H locs ls hf hW hl; simp [L_X9_often_45] at hf
    | succ fn ih =>
      intro x1 x2 x3 x4 x5 σ H locs ls hf hW hl
      rw [L_X9_often_45] at hf
      refine lv_iload hx hb dX9_often_45 (lv_at hl 5 rfl) ?_
      refine lv_iload_n hx hb dX9_often_47 rfl (lv_at hl 2 rfl) ?_
      refine lv_icmp_ge (tgt := 81) hx hb dX9_often_48 (by decide) (fun c48 => ?_) (fun c48 => ?_)
      · replace hf := ow_if_t c48 hf
        refine lv_iload hx hb dX9_often_81 (lv_at hl 4 rfl) ?_
        exact ow_iret hx hb hr hW hf dX9_often_83 hlocks
      · replace hf := ow_if_f c48 hf
        refine lv_iload hx hb dX9_often_51 (lv_at hl 4 rfl) ?_
        refine lv_aload_n hx hb dX9_often_53 rfl (lv_at hl 0 rfl) ?_
        refine lv_iload_n hx hb dX9_often_54 rfl (lv_at hl 1 rfl) ?_
        obtain ⟨r_55, σ_55, hc55, hf⟩ := ow_cl_i hf
        refine ow_calli (va_runV (As := [.int x1]) (rest := [.int x4]) ⟨hx, hb, hml, hown, hts⟩ (c_X9_saysOf l Z fu x1 σ r_55 σ_55 hc55) (cwV 1 hts gX9_often_X9_saysOf rfl rfl rfl (by decide +kernel) ⟨Nat.le_of_ble_eq_true rfl, Nat.le_of_ble_eq_true rfl⟩) (ow_preV hG hW ow_i56 (by decide) rfl) rfl rfl hl.1 rfl (lv_room (Nat.le_of_ble_eq_true rfl)) dX9_often_55 ⟨Nat.zero_le _, Nat.zero_le _⟩) hW (fun H locs hW => ?_)
        refine lv_iload_n hx hb dX9_often_58 rfl (lv_at hl 3 rfl) ?_
        refine lv_icmp_ne (tgt := 66) hx hb dX9_often_59 (by decide) (fun c59 => ?_) (fun c59 => ?_)
        · replace hf := ow_if_f c59 hf
          refine lv_iconst (v := 0) hx hb dX9_often_66 (by decide) ?_
          exact hJ67 (L_X9_often_45 fu fn) ih x1 x2 x3 x5 x4 (0 : Int32) σ_55 _ _ _ hf hW (lv_sub hl [0, 1, 2, 3, 5] rfl)
        · replace hf := ow_if_t c59 hf
          refine lv_iconst (v := 1) hx hb dX9_often_62 (by decide) ?_
          refine lv_goto (tgt := 67) hx hb dX9_often_63 (by decide) ?_
          exact hJ67 (L_X9_often_45 fu fn) ih x1 x2 x3 x5 x4 (1 : Int32) σ_55 _ _ _ hf hW (lv_sub hl [0, 1, 2, 3, 5] rfl)
  have hl := lv_entry ([.ref (ow_ad Z 56), .int a1, .int a2, .int a3]) (n := 6) (Nat.le_of_ble_eq_true rfl)
  refine W.eq (g2 := F0 m 0 ((lg_sl ([.ref (ow_ad Z 56), .int a1, .int a2, .int a3]) ++ List.replicate (6 - (lg_sl ([.ref (ow_ad Z 56), .int a1, .int a2, .int a3])).length) Slot.unset).toArray) []) (by rw [hav]; exact lg_entry_eq _ _ _) ?_
  generalize (lg_sl ([.ref (ow_ad Z 56), .int a1, .int a2, .int a3]) ++ List.replicate (6 - (lg_sl ([.ref (ow_ad Z 56), .int a1, .int a2, .int a3])).length) Slot.unset).toArray = ls at hl ⊢
  have hl : lv_has ls 6 [(0, .ref (ow_ad Z 56)), (1, .int a1), (2, .int a2), (3, .int a3)] := hl
  unfold f_X9_often at hf
  refine lv_aload_n hx hb dX9_often_0 rfl (lv_at hl 0 rfl) ?_
  refine lv_iload_n hx hb dX9_often_1 rfl (lv_at hl 1 rfl) ?_
  obtain ⟨r_2, σ_2, hc2, hf⟩ := ow_cl_i hf
  refine ow_callz (va_runV (As := [.int a1]) (rest := []) ⟨hx, hb, hml, hown, hts⟩ (c_X9_isHead l Z fu a1 σ r_2 σ_2 hc2) (cwV 1 hts gX9_often_X9_isHead rfl rfl rfl (by decide +kernel) ⟨Nat.le_of_ble_eq_true rfl, Nat.le_of_ble_eq_true rfl⟩) (ow_preV hG hW ow_i56 (by decide) rfl) rfl rfl hl.1 rfl (lv_room (Nat.le_of_ble_eq_true rfl)) dX9_often_2 ⟨Nat.zero_le _, Nat.zero_le _⟩) hW (fun b2 H locs hW => ?_)
  refine lv_if_ne (tgt := 11) hx hb dX9_often_5 (by decide) (fun c5 => ?_) (fun c5 => ?_)
  · replace hf := ow_if_f c5 hf
    refine lv_iload_n hx hb dX9_often_11 rfl (lv_at hl 2 rfl) ?_
    refine lv_iconst (v := 1) hx hb dX9_often_12 (by decide) ?_
    refine lv_bipush (v := 20) hx hb dX9_often_13 (by decide) ?_
    obtain ⟨r_15, σ_15, hc15, hf⟩ := ow_cl_i hf
    refine ow_callz (va_runS (As := [.int a2, .int (1 : Int32), .int (20 : Int32)]) (rest := []) ⟨hx, hb, hml, hown, hts⟩ (c_X9_in l Z fu a2 (1 : Int32) (20 : Int32) σ_2 r_15 σ_15 hc15) (va_cwS 3 hts gX9_often_X9_in rfl rfl rfl (by decide +kernel) ⟨Nat.le_of_ble_eq_true rfl, Nat.le_of_ble_eq_true rfl⟩) (ow_preS hG hW) rfl rfl hl.1 rfl (lv_room (Nat.le_of_ble_eq_true rfl)) dX9_often_15 ⟨Nat.zero_le _, Nat.zero_le _⟩) hW (fun b15 H locs hW => ?_)
    refine lv_if_eq (tgt := 32) hx hb dX9_often_18 (by decide) (fun c18 => ?_) (fun c18 => ?_)
    · replace hf := ow_if_t c18 hf
      refine lv_bipush (v := -7) hx hb dX9_often_32 (by decide) ?_
      exact ow_iret hx hb hr hW hf dX9_often_34 hlocks
    · replace hf := ow_if_f c18 hf
      refine lv_iload_n hx hb dX9_often_21 rfl (lv_at hl 3 rfl) ?_
      refine lv_ldc (v := -1000000) hx hb hown (hts (.constant RX9 202 (-1000000)) (by decide +kernel)) dX9_often_22 ?_
      refine lv_ldc (v := 1000000) hx hb hown (hts (.constant RX9 203 (1000000)) (by decide +kernel)) dX9_often_24 ?_
      obtain ⟨r_26, σ_26, hc26, hf⟩ := ow_cl_i hf
      refine ow_callz (va_runS (As := [.int a3, .int (-1000000 : Int32), .int (1000000 : Int32)]) (rest := []) ⟨hx, hb, hml, hown, hts⟩ (c_X9_in l Z fu a3 (-1000000 : Int32) (1000000 : Int32) σ_15 r_26 σ_26 hc26) (va_cwS 3 hts gX9_often_X9_in rfl rfl rfl (by decide +kernel) ⟨Nat.le_of_ble_eq_true rfl, Nat.le_of_ble_eq_true rfl⟩) (ow_preS hG hW) rfl rfl hl.1 rfl (lv_room (Nat.le_of_ble_eq_true rfl)) dX9_often_26 ⟨Nat.zero_le _, Nat.zero_le _⟩) hW (fun b26 H locs hW => ?_)
      refine lv_if_ne (tgt := 35) hx hb dX9_often_29 (by decide) (fun c29 => ?_) (fun c29 => ?_)
      · replace hf := ow_if_f c29 hf
        refine lv_iconst (v := 0) hx hb dX9_often_35 (by decide) ?_
        refine lv_istore (lv' := [(4, .int (0 : Int32)), (0, .ref (ow_ad Z 56)), (1, .int a1), (2, .int a2), (3, .int a3)]) hx hb dX9_often_36 hl (by decide) rfl (fun ls hl => ?_)
        refine lv_aload_n hx hb dX9_often_38 rfl (lv_at hl 1 rfl) ?_
        obtain ⟨σ_39, hc39, hf⟩ := ow_cv_i hf
        refine ow_callv (va_runV (As := []) (rest := []) ⟨hx, hb, hml, hown, hts⟩ (c_X9_laysRow l Z fu σ_26 σ_39  hc39) (cwV 0 hts gX9_often_X9_laysRow rfl rfl rfl (by decide +kernel) ⟨Nat.le_of_ble_eq_true rfl, Nat.le_of_ble_eq_true rfl⟩) (ow_preV hG hW ow_i56 (by decide) rfl) rfl rfl hl.1 rfl (lv_room (Nat.le_of_ble_eq_true rfl)) dX9_often_39 ⟨Nat.zero_le _, Nat.zero_le _⟩) hW (fun H locs hW => ?_)
        refine lv_iconst (v := 0) hx hb dX9_often_42 (by decide) ?_
        refine lv_istore (lv' := [(5, .int (0 : Int32)), (4, .int (0 : Int32)), (0, .ref (ow_ad Z 56)), (1, .int a1), (2, .int a2), (3, .int a3)]) hx hb dX9_often_43 hl (by decide) rfl (fun ls hl => ?_)
        exact hJ45 fu a1 a2 a3 (0 : Int32) (0 : Int32) σ_39 _ _ _ hf hW (lv_sub hl [2, 3, 4, 5, 1, 0] rfl)
      · replace hf := ow_if_t c29 hf
        refine lv_bipush (v := -7) hx hb dX9_often_32 (by decide) ?_
        exact ow_iret hx hb hr hW hf dX9_often_34 hlocks
  · replace hf := ow_if_t c5 hf
    refine lv_bipush (v := -5) hx hb dX9_often_8 (by decide) ?_
    exact ow_iret hx hb hr hW hf dX9_often_10 hlocks
set_option maxHeartbeats 40000000 in
set_option maxRecDepth 100000 in
theorem c_X9_who (l : Launch) (Z : ow_Z) (fu : Nat) (a1 : Int32) (σ : ow_S) (rr : Int32) (σr : ow_S) (hf : f_X9_who fu a1 σ = some (rr, σr)) : Met l yX9_who wsX9_who { frames := 8, cells := 0, slots := 0, locals := 227 } (ow_Pc Z 56 20 [.ref (ow_ad Z 56), .int a1] σ) (ow_Qi Z 56 20 rr σr) 0 0 (ow_A Z 56 20) := by
  refine Met.ofW (cc := cX9_who) (maxL := 6) (ret := (some .int)) (by decide) rfl ?_
  intro p e s m args below meth c s₁ B hml hv
  obtain ⟨hav, hB⟩ := hv
  obtain ⟨hG, hW⟩ := ow_begin hB
  have hx := B.exec
  have hb := B.bytes
  have hr := B.returns
  have hts := atoms_spec (ws := wsX9_who) B.pre
  have hown : s.vm.findClass RX9 = some m.cls := findClass_of_methodNamed B.named
  have hlocks := B.notSynchronized
  have hinX9 : ∀ w ∈ wsX90, w ∈ wsX9_who := by decide +kernel
  have hJ65 : ∀ (k19 : Int32 → Int32 → Int32 → Int32 → ow_S → Option (Int32 × ow_S)) (hk19 : ∀ (x1 : Int32) (x2 : Int32) (x3 : Int32) (x4 : Int32) (σ : ow_S) (H : Heap) (locs : List Loc) (ls : Array Slot), k19 x1 x2 x3 x4 σ = some (rr, σr) → ow_Wd Z 56 20 σ s H locs → lv_has ls 6 [(0, .ref (ow_ad Z 56)), (1, .int x1), (2, .int x2), (3, .int x3), (4, .int x4)] → W p l e (headSpec wsX9_who { frames := 8, cells := 0, slots := 0, locals := 227 }).room s m args below meth c H locs 0 0 (MQ below (ow_Qi Z 56 20 rr σr) args s 0 0 (ow_A Z 56 20)) (F0 m 19 ls [])), ∀ (x1 : Int32) (x2 : Int32) (x4 : Int32) (s0 : Int32) (σ : ow_S) (H : Heap) (locs : List Loc) (ls : Array Slot), L_X9_who_65 fu k19 x1 x2 x4 s0 σ = some (rr, σr) → ow_Wd Z 56 20 σ s H locs → lv_has ls 6 [(0, .ref (ow_ad Z 56)), (1, .int x1), (2, .int x2), (4, .int x4)] → W p l e (headSpec wsX9_who { frames := 8, cells := 0, slots := 0, locals := 227 }).room s m args below meth c H locs 0 0 (MQ below (ow_Qi Z 56 20 rr σr) args s 0 0 (ow_A Z 56 20)) (F0 m 65 ls [.int s0]) := by
    intro k19 hk19 x1 x2 x4 s0 σ H locs ls hf hW hl
    unfold L_X9_who_65 at hf
    refine lv_istore_n (lv' := [(3, .int s0), (0, .ref (ow_ad Z 56)), (1, .int x1), (2, .int x2), (4, .int x4)]) hx hb dX9_who_65 rfl hl (by decide) rfl (fun ls hl => ?_)
    refine ow_iinc (d := 1) (lv' := fun z => [(4, .int z), (3, .int s0), (0, .ref (ow_ad Z 56)), (1, .int x1), (2, .int x2)]) hx hb hf dX9_who_66 hl (k := 4) rfl (by decide) (by decide) (fun z => rfl) (fun x4_66 hf ls hl => ?_)
    refine lv_goto (tgt := 19) hx hb dX9_who_69 (by decide) ?_
    exact hk19 x1 x2 s0 x4_66 σ _ _ _ hf hW (lv_sub hl [2, 3, 4, 1, 0] rfl)
  have hJ52 : ∀ (k19 : Int32 → Int32 → Int32 → Int32 → ow_S → Option (Int32 × ow_S)) (hk19 : ∀ (x1 : Int32) (x2 : Int32) (x3 : Int32) (x4 : Int32) (σ : ow_S) (H : Heap) (locs : List Loc) (ls : Array Slot), k19 x1 x2 x3 x4 σ = some (rr, σr) → ow_Wd Z 56 20 σ s H locs → lv_has ls 6 [(0, .ref (ow_ad Z 56)), (1, .int x1), (2, .int x2), (3, .int x3), (4, .int x4)] → W p l e (headSpec wsX9_who { frames := 8, cells := 0, slots := 0, locals := 227 }).room s m args below meth c H locs 0 0 (MQ below (ow_Qi Z 56 20 rr σr) args s 0 0 (ow_A Z 56 20)) (F0 m 19 ls [])), ∀ (x1 : Int32) (x3 : Int32) (x4 : Int32) (x5 : Int32) (s0 : Int32) (σ : ow_S) (H : Heap) (locs : List Loc) (ls : Array Slot), L_X9_who_52 fu k19 x1 x3 x4 x5 s0 σ = some (rr, σr) → ow_Wd Z 56 20 σ s H locs → lv_has ls 6 [(0, .ref (ow_ad Z 56)), (1, .int x1), (3, .int x3), (4, .int x4), (5, .int x5)] → W p l e (headSpec wsX9_who { frames := 8, cells := 0, slots := 0, locals := 227 }).room s m args below meth c H locs 0 0 (MQ below (ow_Qi Z 56 20 rr σr) args s 0 0 (ow_A Z 56 20)) (F0 m 52 ls [.int s0]) := by
    intro k19 hk19 x1 x3 x4 x5 s0 σ H locs ls hf hW hl
    unfold L_X9_who_52 at hf
    refine lv_istore_n (lv' := [(2, .int s0), (0, .ref (ow_ad Z 56)), (1, .int x1), (3, .int x3), (4, .int x4), (5, .int x5)]) hx hb dX9_who_52 rfl hl (by decide) rfl (fun ls hl => ?_)
    refine lv_iload hx hb dX9_who_53 (lv_at hl 5 rfl) ?_
    refine lv_iload_n hx hb dX9_who_55 rfl (lv_at hl 3 rfl) ?_
    refine lv_icmp_le (tgt := 64) hx hb dX9_who_56 (by decide) (fun c56 => ?_) (fun c56 => ?_)
    · replace hf := ow_if_t c56 hf
      refine lv_iload_n hx hb dX9_who_64 rfl (lv_at hl 3 rfl) ?_
      exact hJ65 k19 hk19 x1 s0 x4 x3 σ _ _ _ hf hW (lv_sub hl [1, 2, 0, 4] rfl)
    · replace hf := ow_if_f c56 hf
      refine lv_iload hx hb dX9_who_59 (lv_at hl 5 rfl) ?_
      refine lv_goto (tgt := 65) hx hb dX9_who_61 (by decide) ?_
      exact hJ65 k19 hk19 x1 s0 x4 x5 σ _ _ _ hf hW (lv_sub hl [1, 2, 0, 4] rfl)
  have hJ19 : ∀ (fn : Nat), ∀ (x1 : Int32) (x2 : Int32) (x3 : Int32) (x4 : Int32) (σ : ow_S) (H : Heap) (locs : List Loc) (ls : Array Slot), L_X9_who_19 fu fn x1 x2 x3 x4 σ = some (rr, σr) → ow_Wd Z 56 20 σ s H locs → lv_has ls 6 [(0, .ref (ow_ad Z 56)), (1, .int x1), (2, .int x2), (3, .int x3), (4, .int x4)] → W p l e (headSpec wsX9_who { frames := 8, cells := 0, slots := 0, locals := 227 }).room s m args below meth c H locs 0 0 (MQ below (ow_Qi Z 56 20 rr σr) args s 0 0 (ow_A Z 56 20)) (F0 m 19 ls []) := by
    intro fn
    induction fn with
    | zero => intro x1 x2 x3 x4 σ H locs ls hf hW hl; simp [L_X9_who_19] at hf
    | succ fn ih =>
      intro x1 x2 x3 x4 σ H locs ls hf hW hl
      rw [L_X9_who_19] at hf
      refine lv_iload hx hb dX9_who_19 (lv_at hl 4 rfl) ?_
      refine lv_aload_n hx hb dX9_who_21 rfl (lv_at hl 0 rfl) ?_
      refine ow_getV (ci := 9) (C := RX9) (T := TX9) (N := 41) hx hb hts hown hG hW ow_i56 (by decide) rfl hinX9 3 (by decide) (fk := 0) rfl (hts (.fieldLink RX9 82 "FiftyOneCardsModel" "heads" "I") (by decide +kernel)) (v := .int (σ.1 56 3)) rfl dX9_who_22 ?_
      refine lv_icmp_ge (tgt := 72) hx hb dX9_who_25 (by decide) (fun c25 => ?_) (fun c25 => ?_)
      · replace hf := ow_if_t c25 hf
        refine lv_iload_n hx hb dX9_who_72 rfl (lv_at hl 1 rfl) ?_
        refine lv_if_ne (tgt := 80) hx hb dX9_who_73 (by decide) (fun c73 => ?_) (fun c73 => ?_)
        · replace hf := ow_if_f c73 hf
          refine lv_iload_n hx hb dX9_who_80 rfl (lv_at hl 3 rfl) ?_
          exact ow_iret hx hb hr hW hf dX9_who_81 hlocks
        · replace hf := ow_if_t c73 hf
          refine lv_iload_n hx hb dX9_who_76 rfl (lv_at hl 2 rfl) ?_
          refine lv_goto (tgt := 81) hx hb dX9_who_77 (by decide) ?_
          exact ow_iret hx hb hr hW hf dX9_who_81 hlocks
      · replace hf := ow_if_f c25 hf
        refine lv_aload_n hx hb dX9_who_28 rfl (lv_at hl 0 rfl) ?_
        refine lv_iload hx hb dX9_who_29 (lv_at hl 4 rfl) ?_
        refine lv_iconst (v := 0) hx hb dX9_who_31 (by decide) ?_
        obtain ⟨r_32, σ_32, hc32, hf⟩ := ow_cl_i hf
        refine ow_calll (va_runV (As := [.int x4, .int (0 : Int32)]) (rest := []) ⟨hx, hb, hml, hown, hts⟩ (c_X9_rightOf l Z fu x4 (0 : Int32) σ r_32 σ_32 hc32) (cwV 2 hts gX9_who_X9_rightOf rfl rfl rfl (by decide +kernel) ⟨Nat.le_of_ble_eq_true rfl, Nat.le_of_ble_eq_true rfl⟩) (ow_preV hG hW ow_i56 (by decide) rfl) rfl rfl hl.1 rfl (lv_room (Nat.le_of_ble_eq_true rfl)) dX9_who_32 ⟨Nat.zero_le _, Nat.zero_le _⟩) hW (fun H locs hW => ?_)
        obtain ⟨r_35, σ_35, hc35, hf⟩ := ow_cl_i hf
        refine ow_calli (va_runS (As := [.long r_32]) (rest := []) ⟨hx, hb, hml, hown, hts⟩ (c_X9_ones l Z fu r_32 σ_32 r_35 σ_35 hc35) (va_cwS 1 hts gX9_who_X9_ones rfl rfl rfl (by decide +kernel) ⟨Nat.le_of_ble_eq_true rfl, Nat.le_of_ble_eq_true rfl⟩) (ow_preS hG hW) rfl rfl hl.1 rfl (lv_room (Nat.le_of_ble_eq_true rfl)) dX9_who_35 ⟨Nat.zero_le _, Nat.zero_le _⟩) hW (fun H locs hW => ?_)
        refine lv_istore (lv' := [(5, .int r_35), (0, .ref (ow_ad Z 56)), (1, .int x1), (2, .int x2), (3, .int x3), (4, .int x4)]) hx hb dX9_who_38 hl (by decide) rfl (fun ls hl => ?_)
        refine lv_iload hx hb dX9_who_40 (lv_at hl 0 rfl) ?_
        refine lv_iload_n hx hb dX9_who_42 rfl (lv_at hl 4 rfl) ?_
        refine lv_icmp_le (tgt := 51) hx hb dX9_who_43 (by decide) (fun c43 => ?_) (fun c43 => ?_)
        · replace hf := ow_if_t c43 hf
          refine lv_iload_n hx hb dX9_who_51 rfl (lv_at hl 3 rfl) ?_
          exact hJ52 (L_X9_who_19 fu fn) ih x1 x3 x4 r_35 x2 σ_35 _ _ _ hf hW (lv_sub hl [1, 2, 4, 5, 0] rfl)
        · replace hf := ow_if_f c43 hf
          refine lv_iload hx hb dX9_who_46 (lv_at hl 5 rfl) ?_
          refine lv_goto (tgt := 52) hx hb dX9_who_48 (by decide) ?_
          exact hJ52 (L_X9_who_19 fu fn) ih x1 x3 x4 r_35 x4 σ_35 _ _ _ hf hW (lv_sub hl [1, 2, 4, 5, 0] rfl)
  have hl := lv_entry ([.ref (ow_ad Z 56), .int a1]) (n := 6) (Nat.le_of_ble_eq_true rfl)
  refine W.eq (g2 := F0 m 0 ((lg_sl ([.ref (ow_ad Z 56), .int a1]) ++ List.replicate (6 - (lg_sl ([.ref (ow_ad Z 56), .int a1])).length) Slot.unset).toArray) []) (by rw [hav]; exact lg_entry_eq _ _ _) ?_
  generalize (lg_sl ([.ref (ow_ad Z 56), .int a1]) ++ List.replicate (6 - (lg_sl ([.ref (ow_ad Z 56), .int a1])).length) Slot.unset).toArray = ls at hl ⊢
  have hl : lv_has ls 6 [(0, .ref (ow_ad Z 56)), (1, .int a1)] := hl
  unfold f_X9_who at hf
  refine lv_iload_n hx hb dX9_who_0 rfl (lv_at hl 1 rfl) ?_
  refine lv_iconst (v := 0) hx hb dX9_who_1 (by decide) ?_
  refine lv_iconst (v := 1) hx hb dX9_who_2 (by decide) ?_
  obtain ⟨r_3, σ_3, hc3, hf⟩ := ow_cl_i hf
  refine ow_callz (va_runS (As := [.int a1, .int (0 : Int32), .int (1 : Int32)]) (rest := []) ⟨hx, hb, hml, hown, hts⟩ (c_X9_in l Z fu a1 (0 : Int32) (1 : Int32) σ r_3 σ_3 hc3) (va_cwS 3 hts gX9_who_X9_in rfl rfl rfl (by decide +kernel) ⟨Nat.le_of_ble_eq_true rfl, Nat.le_of_ble_eq_true rfl⟩) (ow_preS hG hW) rfl rfl hl.1 rfl (lv_room (Nat.le_of_ble_eq_true rfl)) dX9_who_3 ⟨Nat.zero_le _, Nat.zero_le _⟩) hW (fun b3 H locs hW => ?_)
  refine lv_if_ne (tgt := 12) hx hb dX9_who_6 (by decide) (fun c6 => ?_) (fun c6 => ?_)
  · replace hf := ow_if_f c6 hf
    refine lv_iconst (v := -1) hx hb dX9_who_12 (by decide) ?_
    refine lv_istore_n (lv' := [(2, .int (-1 : Int32)), (0, .ref (ow_ad Z 56)), (1, .int a1)]) hx hb dX9_who_13 rfl hl (by decide) rfl (fun ls hl => ?_)
    refine lv_iconst (v := -1) hx hb dX9_who_14 (by decide) ?_
    refine lv_istore_n (lv' := [(3, .int (-1 : Int32)), (2, .int (-1 : Int32)), (0, .ref (ow_ad Z 56)), (1, .int a1)]) hx hb dX9_who_15 rfl hl (by decide) rfl (fun ls hl => ?_)
    refine lv_iconst (v := 0) hx hb dX9_who_16 (by decide) ?_
    refine lv_istore (lv' := [(4, .int (0 : Int32)), (3, .int (-1 : Int32)), (2, .int (-1 : Int32)), (0, .ref (ow_ad Z 56)), (1, .int a1)]) hx hb dX9_who_17 hl (by decide) rfl (fun ls hl => ?_)
    exact hJ19 fu a1 (-1 : Int32) (-1 : Int32) (0 : Int32) σ_3 _ _ _ hf hW (lv_sub hl [3, 4, 2, 1, 0] rfl)
  · replace hf := ow_if_t c6 hf
    refine lv_bipush (v := -2) hx hb dX9_who_9 (by decide) ?_
    exact ow_iret hx hb hr hW hf dX9_who_11 hlocks
set_option maxHeartbeats 40000000 in
set_option maxRecDepth 100000 in
theorem c_X9_sheetWrong (l : Launch) (Z : ow_Z) (fu : Nat) (a1 : Int32) (σ : ow_S) (rr : Int32) (σr : ow_S) (hf : f_X9_sheetWrong fu a1 σ = some (rr, σr)) : Met l yX9_sheetWrong wsX9_sheetWrong { frames := 2, cells := 0, slots := 0, locals := 82 } (ow_Pc Z 56 20 [.ref (ow_ad Z 56), .int a1] σ) (ow_Qi Z 56 20 rr σr) 0 0 (ow_A Z 56 20) := by
  refine Met.ofW (cc := cX9_sheetWrong) (maxL := 2) (ret := (some .int)) (by decide) rfl ?_
  intro p e s m args below meth c s₁ B hml hv
  obtain ⟨hav, hB⟩ := hv
  obtain ⟨hG, hW⟩ := ow_begin hB
  have hx := B.exec
  have hb := B.bytes
  have hr := B.returns
  have hts := atoms_spec (ws := wsX9_sheetWrong) B.pre
  have hown : s.vm.findClass RX9 = some m.cls := findClass_of_methodNamed B.named
  have hlocks := B.notSynchronized
  have hinX9 : ∀ w ∈ wsX90, w ∈ wsX9_sheetWrong := by decide +kernel
  have hl := lv_entry ([.ref (ow_ad Z 56), .int a1]) (n := 2) (Nat.le_of_ble_eq_true rfl)
  refine W.eq (g2 := F0 m 0 ((lg_sl ([.ref (ow_ad Z 56), .int a1]) ++ List.replicate (2 - (lg_sl ([.ref (ow_ad Z 56), .int a1])).length) Slot.unset).toArray) []) (by rw [hav]; exact lg_entry_eq _ _ _) ?_
  generalize (lg_sl ([.ref (ow_ad Z 56), .int a1]) ++ List.replicate (2 - (lg_sl ([.ref (ow_ad Z 56), .int a1])).length) Slot.unset).toArray = ls at hl ⊢
  have hl : lv_has ls 2 [(0, .ref (ow_ad Z 56)), (1, .int a1)] := hl
  unfold f_X9_sheetWrong at hf
  refine lv_iload_n hx hb dX9_sheetWrong_0 rfl (lv_at hl 1 rfl) ?_
  refine lv_iconst (v := 0) hx hb dX9_sheetWrong_1 (by decide) ?_
  refine lv_iconst (v := 3) hx hb dX9_sheetWrong_2 (by decide) ?_
  obtain ⟨r_3, σ_3, hc3, hf⟩ := ow_cl_i hf
  refine ow_callz (va_runS (As := [.int a1, .int (0 : Int32), .int (3 : Int32)]) (rest := []) ⟨hx, hb, hml, hown, hts⟩ (c_X9_in l Z fu a1 (0 : Int32) (3 : Int32) σ r_3 σ_3 hc3) (va_cwS 3 hts gX9_sheetWrong_X9_in rfl rfl rfl (by decide +kernel) ⟨Nat.le_of_ble_eq_true rfl, Nat.le_of_ble_eq_true rfl⟩) (ow_preS hG hW) rfl rfl hl.1 rfl (lv_room (Nat.le_of_ble_eq_true rfl)) dX9_sheetWrong_3 ⟨Nat.zero_le _, Nat.zero_le _⟩) hW (fun b3 H locs hW => ?_)
  refine lv_if_ne (tgt := 12) hx hb dX9_sheetWrong_6 (by decide) (fun c6 => ?_) (fun c6 => ?_)
  · replace hf := ow_if_f c6 hf
    refine lv_aload_n hx hb dX9_sheetWrong_12 rfl (lv_at hl 0 rfl) ?_
    refine ow_getV (ci := 9) (C := RX9) (T := TX9) (N := 41) hx hb hts hown hG hW ow_i56 (by decide) rfl hinX9 20 (by decide) (fk := 2) rfl (hts (.fieldLink RX9 41 "FiftyOneCardsModel" "sheetSort" "[I") (by decide +kernel)) (v := .ref (ow_ad Z 66)) (ow_vR hW ow_i56.1 ow_i56.2.1 rfl) dX9_sheetWrong_13 ?_
    refine lv_iload_n hx hb dX9_sheetWrong_16 rfl (lv_at hl 1 rfl) ?_
    obtain ⟨q17, hf⟩ := ow_ck_i hf
    refine ow_ild (q := a1.toNatClampNeg) hx hb hG hW ow_i66 rfl q17 rfl dX9_sheetWrong_17 ?_
    refine lv_iconst (v := -1) hx hb dX9_sheetWrong_18 (by decide) ?_
    refine lv_icmp_ne (tgt := 25) hx hb dX9_sheetWrong_19 (by decide) (fun c19 => ?_) (fun c19 => ?_)
    · replace hf := ow_if_f c19 hf
      refine lv_aload_n hx hb dX9_sheetWrong_25 rfl (lv_at hl 0 rfl) ?_
      refine ow_getV (ci := 9) (C := RX9) (T := TX9) (N := 41) hx hb hts hown hG hW ow_i56 (by decide) rfl hinX9 21 (by decide) (fk := 2) rfl (hts (.fieldLink RX9 44 "FiftyOneCardsModel" "sheetSize" "[I") (by decide +kernel)) (v := .ref (ow_ad Z 67)) (ow_vR hW ow_i56.1 ow_i56.2.1 rfl) dX9_sheetWrong_26 ?_
      refine lv_iload_n hx hb dX9_sheetWrong_29 rfl (lv_at hl 1 rfl) ?_
      obtain ⟨q30, hf⟩ := ow_ck_i hf
      refine ow_ild (q := a1.toNatClampNeg) hx hb hG hW ow_i67 rfl q30 rfl dX9_sheetWrong_30 ?_
      refine lv_aload_n hx hb dX9_sheetWrong_31 rfl (lv_at hl 0 rfl) ?_
      refine ow_getV (ci := 9) (C := RX9) (T := TX9) (N := 41) hx hb hts hown hG hW ow_i56 (by decide) rfl hinX9 0 (by decide) (fk := 0) rfl (hts (.fieldLink RX9 7 "FiftyOneCardsModel" "pack" "I") (by decide +kernel)) (v := .int (σ_3.1 56 0)) rfl dX9_sheetWrong_32 ?_
      refine lv_icmp_le (tgt := 43) hx hb dX9_sheetWrong_35 (by decide) (fun c35 => ?_) (fun c35 => ?_)
      · replace hf := ow_if_t c35 hf
        refine lv_iconst (v := 0) hx hb dX9_sheetWrong_43 (by decide) ?_
        exact ow_iret hx hb hr hW hf dX9_sheetWrong_44 hlocks
      · replace hf := ow_if_f c35 hf
        refine lv_bipush (v := -2) hx hb dX9_sheetWrong_38 (by decide) ?_
        refine lv_goto (tgt := 44) hx hb dX9_sheetWrong_40 (by decide) ?_
        exact ow_iret hx hb hr hW hf dX9_sheetWrong_44 hlocks
    · replace hf := ow_if_t c19 hf
      refine lv_bipush (v := -11) hx hb dX9_sheetWrong_22 (by decide) ?_
      exact ow_iret hx hb hr hW hf dX9_sheetWrong_24 hlocks
  · replace hf := ow_if_t c6 hf
    refine lv_bipush (v := -2) hx hb dX9_sheetWrong_9 (by decide) ?_
    exact ow_iret hx hb hr hW hf dX9_sheetWrong_11 hlocks
set_option maxHeartbeats 40000000 in
set_option maxRecDepth 100000 in
theorem c_X9_toldWrong (l : Launch) (Z : ow_Z) (fu : Nat) (a1 : Int32) (a2 : Int32) (σ : ow_S) (rr : Int32) (σr : ow_S) (hf : f_X9_toldWrong fu a1 a2 σ = some (rr, σr)) : Met l yX9_toldWrong wsX9_toldWrong { frames := 3, cells := 0, slots := 0, locals := 103 } (ow_Pc Z 56 20 [.ref (ow_ad Z 56), .int a1, .int a2] σ) (ow_Qi Z 56 20 rr σr) 0 0 (ow_A Z 56 20) := by
  refine Met.ofW (cc := cX9_toldWrong) (maxL := 4) (ret := (some .int)) (by decide) rfl ?_
  intro p e s m args below meth c s₁ B hml hv
  obtain ⟨hav, hB⟩ := hv
  obtain ⟨hG, hW⟩ := ow_begin hB
  have hx := B.exec
  have hb := B.bytes
  have hr := B.returns
  have hts := atoms_spec (ws := wsX9_toldWrong) B.pre
  have hown : s.vm.findClass RX9 = some m.cls := findClass_of_methodNamed B.named
  have hlocks := B.notSynchronized
  have hl := lv_entry ([.ref (ow_ad Z 56), .int a1, .int a2]) (n := 4) (Nat.le_of_ble_eq_true rfl)
  refine W.eq (g2 := F0 m 0 ((lg_sl ([.ref (ow_ad Z 56), .int a1, .int a2]) ++ List.replicate (4 - (lg_sl ([.ref (ow_ad Z 56), .int a1, .int a2])).length) Slot.unset).toArray) []) (by rw [hav]; exact lg_entry_eq _ _ _) ?_
  generalize (lg_sl ([.ref (ow_ad Z 56), .int a1, .int a2]) ++ List.replicate (4 - (lg_sl ([.ref (ow_ad Z 56), .int a1, .int a2])).length) Slot.unset).toArray = ls at hl ⊢
  have hl : lv_has ls 4 [(0, .ref (ow_ad Z 56)), (1, .int a1), (2, .int a2)] := hl
  unfold f_X9_toldWrong at hf
  refine lv_aload_n hx hb dX9_toldWrong_0 rfl (lv_at hl 0 rfl) ?_
  refine lv_iload_n hx hb dX9_toldWrong_1 rfl (lv_at hl 1 rfl) ?_
  obtain ⟨r_2, σ_2, hc2, hf⟩ := ow_cl_i hf
  refine ow_calli (va_runV (As := [.int a1]) (rest := []) ⟨hx, hb, hml, hown, hts⟩ (c_X9_sheetWrong l Z fu a1 σ r_2 σ_2 hc2) (cwV 1 hts gX9_toldWrong_X9_sheetWrong rfl rfl rfl (by decide +kernel) ⟨Nat.le_of_ble_eq_true rfl, Nat.le_of_ble_eq_true rfl⟩) (ow_preV hG hW ow_i56 (by decide) rfl) rfl rfl hl.1 rfl (lv_room (Nat.le_of_ble_eq_true rfl)) dX9_toldWrong_2 ⟨Nat.zero_le _, Nat.zero_le _⟩) hW (fun H locs hW => ?_)
  refine lv_istore_n (lv' := [(3, .int r_2), (0, .ref (ow_ad Z 56)), (1, .int a1), (2, .int a2)]) hx hb dX9_toldWrong_5 rfl hl (by decide) rfl (fun ls hl => ?_)
  refine lv_iload_n hx hb dX9_toldWrong_6 rfl (lv_at hl 0 rfl) ?_
  refine lv_if_eq (tgt := 14) hx hb dX9_toldWrong_7 (by decide) (fun c7 => ?_) (fun c7 => ?_)
  · replace hf := ow_if_t c7 hf
    refine lv_aload_n hx hb dX9_toldWrong_14 rfl (lv_at hl 1 rfl) ?_
    refine lv_iload_n hx hb dX9_toldWrong_15 rfl (lv_at hl 3 rfl) ?_
    obtain ⟨r_16, σ_16, hc16, hf⟩ := ow_cl_i hf
    refine ow_callz (va_runV (As := [.int a2]) (rest := []) ⟨hx, hb, hml, hown, hts⟩ (c_X9_isHead l Z fu a2 σ_2 r_16 σ_16 hc16) (cwV 1 hts gX9_toldWrong_X9_isHead rfl rfl rfl (by decide +kernel) ⟨Nat.le_of_ble_eq_true rfl, Nat.le_of_ble_eq_true rfl⟩) (ow_preV hG hW ow_i56 (by decide) rfl) rfl rfl hl.1 rfl (lv_room (Nat.le_of_ble_eq_true rfl)) dX9_toldWrong_16 ⟨Nat.zero_le _, Nat.zero_le _⟩) hW (fun b16 H locs hW => ?_)
    refine lv_if_eq (tgt := 26) hx hb dX9_toldWrong_19 (by decide) (fun c19 => ?_) (fun c19 => ?_)
    · replace hf := ow_if_t c19 hf
      refine lv_bipush (v := -5) hx hb dX9_toldWrong_26 (by decide) ?_
      exact ow_iret hx hb hr hW hf dX9_toldWrong_28 hlocks
    · replace hf := ow_if_f c19 hf
      refine lv_iconst (v := 0) hx hb dX9_toldWrong_22 (by decide) ?_
      refine lv_goto (tgt := 28) hx hb dX9_toldWrong_23 (by decide) ?_
      exact ow_iret hx hb hr hW hf dX9_toldWrong_28 hlocks
  · replace hf := ow_if_f c7 hf
    refine lv_iload_n hx hb dX9_toldWrong_10 rfl (lv_at hl 0 rfl) ?_
    refine lv_goto (tgt := 28) hx hb dX9_toldWrong_11 (by decide) ?_
    exact ow_iret hx hb hr hW hf dX9_toldWrong_28 hlocks
set_option maxHeartbeats 40000000 in
set_option maxRecDepth 100000 in
theorem c_X9_unlike (l : Launch) (Z : ow_Z) (fu : Nat) (a1 : Int32) (a2 : Int32) (σ : ow_S) (rr : Int32) (σr : ow_S) (hf : f_X9_unlike fu a1 a2 σ = some (rr, σr)) : Met l yX9_unlike wsX9_unlike { frames := 7, cells := 0, slots := 0, locals := 202 } (ow_Pc Z 56 20 [.ref (ow_ad Z 56), .int a1, .int a2] σ) (ow_Qi Z 56 20 rr σr) 0 0 (ow_A Z 56 20) := by
  refine Met.ofW (cc := cX9_unlike) (maxL := 4) (ret := (some .int)) (by decide) rfl ?_
  intro p e s m args below meth c s₁ B hml hv
  obtain ⟨hav, hB⟩ := hv
  obtain ⟨hG, hW⟩ := ow_begin hB
  have hx := B.exec
  have hb := B.bytes
  have hr := B.returns
  have hts := atoms_spec (ws := wsX9_unlike) B.pre
  have hown : s.vm.findClass RX9 = some m.cls := findClass_of_methodNamed B.named
  have hlocks := B.notSynchronized
  have hinX9 : ∀ w ∈ wsX90, w ∈ wsX9_unlike := by decide +kernel
  have hJ2 : ∀ (fn : Nat), ∀ (x1 : Int32) (x2 : Int32) (x3 : Int32) (σ : ow_S) (H : Heap) (locs : List Loc) (ls : Array Slot), L_X9_unlike_2 fu fn x1 x2 x3 σ = some (rr, σr) → ow_Wd Z 56 20 σ s H locs → lv_has ls 4 [(0, .ref (ow_ad Z 56)), (1, .int x1), (2, .int x2), (3, .int x3)] → W p l e (headSpec wsX9_unlike { frames := 7, cells := 0, slots := 0, locals := 202 }).room s m args below meth c H locs 0 0 (MQ below (ow_Qi Z 56 20 rr σr) args s 0 0 (ow_A Z 56 20)) (F0 m 2 ls []) := by
    intro fn
    induction fn with
    | zero => intro x1 x2 x3 σ H locs ls hf hW hl; simp [L_X9_unlike_2] at hf
    | succ fn ih =>
      intro x1 x2 x3 σ H locs ls hf hW hl
      rw [L_X9_unlike_2] at hf
      refine lv_iload_n hx hb dX9_unlike_2 rfl (lv_at hl 3 rfl) ?_
      refine lv_aload_n hx hb dX9_unlike_3 rfl (lv_at hl 0 rfl) ?_
      refine ow_getV (ci := 9) (C := RX9) (T := TX9) (N := 41) hx hb hts hown hG hW ow_i56 (by decide) rfl hinX9 21 (by decide) (fk := 2) rfl (hts (.fieldLink RX9 44 "FiftyOneCardsModel" "sheetSize" "[I") (by decide +kernel)) (v := .ref (ow_ad Z 67)) (ow_vR hW ow_i56.1 ow_i56.2.1 rfl) dX9_unlike_4 ?_
      refine lv_iload_n hx hb dX9_unlike_7 rfl (lv_at hl 1 rfl) ?_
      obtain ⟨q8, hf⟩ := ow_ck_i hf
      refine ow_ild (q := x1.toNatClampNeg) hx hb hG hW ow_i67 rfl q8 rfl dX9_unlike_8 ?_
      refine lv_icmp_ge (tgt := 47) hx hb dX9_unlike_9 (by decide) (fun c9 => ?_) (fun c9 => ?_)
      · replace hf := ow_if_t c9 hf
        refine lv_iconst (v := -1) hx hb dX9_unlike_47 (by decide) ?_
        exact ow_iret hx hb hr hW hf dX9_unlike_48 hlocks
      · replace hf := ow_if_f c9 hf
        refine lv_aload_n hx hb dX9_unlike_12 rfl (lv_at hl 0 rfl) ?_
        refine lv_iload_n hx hb dX9_unlike_13 rfl (lv_at hl 3 rfl) ?_
        refine lv_iconst (v := 1) hx hb dX9_unlike_14 (by decide) ?_
        refine lv_iadd hx hb dX9_unlike_15 ?_
        refine lv_iconst (v := 0) hx hb dX9_unlike_16 (by decide) ?_
        obtain ⟨σ_17, hc17, hf⟩ := ow_cv_i hf
        refine ow_callv (va_runV (As := [.int (x3 + (1 : Int32)), .int (0 : Int32)]) (rest := []) ⟨hx, hb, hml, hown, hts⟩ (c_X9_laysBut l Z fu (x3 + (1 : Int32)) (0 : Int32) σ σ_17  hc17) (cwV 2 hts gX9_unlike_X9_laysBut rfl rfl rfl (by decide +kernel) ⟨Nat.le_of_ble_eq_true rfl, Nat.le_of_ble_eq_true rfl⟩) (ow_preV hG hW ow_i56 (by decide) rfl) rfl rfl hl.1 rfl (lv_room (Nat.le_of_ble_eq_true rfl)) dX9_unlike_17 ⟨Nat.zero_le _, Nat.zero_le _⟩) hW (fun H locs hW => ?_)
        refine lv_aload_n hx hb dX9_unlike_20 rfl (lv_at hl 0 rfl) ?_
        refine lv_iload_n hx hb dX9_unlike_21 rfl (lv_at hl 2 rfl) ?_
        obtain ⟨r_22, σ_22, hc22, hf⟩ := ow_cl_i hf
        refine ow_calli (va_runV (As := [.int x2]) (rest := []) ⟨hx, hb, hml, hown, hts⟩ (c_X9_saysOf l Z fu x2 σ_17 r_22 σ_22 hc22) (cwV 1 hts gX9_unlike_X9_saysOf rfl rfl rfl (by decide +kernel) ⟨Nat.le_of_ble_eq_true rfl, Nat.le_of_ble_eq_true rfl⟩) (ow_preV hG hW ow_i56 (by decide) rfl) rfl rfl hl.1 rfl (lv_room (Nat.le_of_ble_eq_true rfl)) dX9_unlike_22 ⟨Nat.zero_le _, Nat.zero_le _⟩) hW (fun H locs hW => ?_)
        refine lv_aload_n hx hb dX9_unlike_25 rfl (lv_at hl 0 rfl) ?_
        refine ow_getV (ci := 9) (C := RX9) (T := TX9) (N := 41) hx hb hts hown hG hW ow_i56 (by decide) rfl hinX9 22 (by decide) (fk := 2) rfl (hts (.fieldLink RX9 47 "FiftyOneCardsModel" "cells" "[I") (by decide +kernel)) (v := .ref (ow_ad Z 68)) (ow_vR hW ow_i56.1 ow_i56.2.1 rfl) dX9_unlike_26 ?_
        refine lv_bipush (v := 40) hx hb dX9_unlike_29 (by decide) ?_
        refine lv_iload_n hx hb dX9_unlike_31 rfl (lv_at hl 1 rfl) ?_
        refine lv_imul hx hb dX9_unlike_32 ?_
        refine lv_iload_n hx hb dX9_unlike_33 rfl (lv_at hl 3 rfl) ?_
        refine lv_iadd hx hb dX9_unlike_34 ?_
        obtain ⟨q35, hf⟩ := ow_ck_i hf
        refine ow_ild (q := (((40 : Int32) * x1) + x3).toNatClampNeg) hx hb hG hW ow_i68 rfl q35 rfl dX9_unlike_35 ?_
        refine lv_icmp_eq (tgt := 41) hx hb dX9_unlike_36 (by decide) (fun c36 => ?_) (fun c36 => ?_)
        · replace hf := ow_if_t c36 hf
          refine ow_iinc (d := 1) (lv' := fun z => [(3, .int z), (0, .ref (ow_ad Z 56)), (1, .int x1), (2, .int x2)]) hx hb hf dX9_unlike_41 hl (k := 3) rfl (by decide) (by decide) (fun z => rfl) (fun x3_41 hf ls hl => ?_)
          refine lv_goto (tgt := 2) hx hb dX9_unlike_44 (by decide) ?_
          exact ih x1 x2 x3_41 σ_22 _ _ _ hf hW (lv_sub hl [1, 2, 3, 0] rfl)
        · replace hf := ow_if_f c36 hf
          refine lv_iload_n hx hb dX9_unlike_39 rfl (lv_at hl 3 rfl) ?_
          exact ow_iret hx hb hr hW hf dX9_unlike_40 hlocks
  have hl := lv_entry ([.ref (ow_ad Z 56), .int a1, .int a2]) (n := 4) (Nat.le_of_ble_eq_true rfl)
  refine W.eq (g2 := F0 m 0 ((lg_sl ([.ref (ow_ad Z 56), .int a1, .int a2]) ++ List.replicate (4 - (lg_sl ([.ref (ow_ad Z 56), .int a1, .int a2])).length) Slot.unset).toArray) []) (by rw [hav]; exact lg_entry_eq _ _ _) ?_
  generalize (lg_sl ([.ref (ow_ad Z 56), .int a1, .int a2]) ++ List.replicate (4 - (lg_sl ([.ref (ow_ad Z 56), .int a1, .int a2])).length) Slot.unset).toArray = ls at hl ⊢
  have hl : lv_has ls 4 [(0, .ref (ow_ad Z 56)), (1, .int a1), (2, .int a2)] := hl
  unfold f_X9_unlike at hf
  refine lv_iconst (v := 0) hx hb dX9_unlike_0 (by decide) ?_
  refine lv_istore_n (lv' := [(3, .int (0 : Int32)), (0, .ref (ow_ad Z 56)), (1, .int a1), (2, .int a2)]) hx hb dX9_unlike_1 rfl hl (by decide) rfl (fun ls hl => ?_)
  exact hJ2 fu a1 a2 (0 : Int32) σ _ _ _ hf hW (lv_sub hl [1, 2, 3, 0] rfl)
set_option maxHeartbeats 40000000 in
set_option maxRecDepth 100000 in
theorem c_X9_judge (l : Launch) (Z : ow_Z) (fu : Nat) (a1 : Int32) (a2 : Int32) (σ : ow_S) (rr : Int32) (σr : ow_S) (hf : f_X9_judge fu a1 a2 σ = some (rr, σr)) : Met l yX9_judge wsX9_judge { frames := 8, cells := 0, slots := 0, locals := 225 } (ow_Pc Z 56 20 [.ref (ow_ad Z 56), .int a1, .int a2] σ) (ow_Qi Z 56 20 rr σr) 0 0 (ow_A Z 56 20) := by
  refine Met.ofW (cc := cX9_judge) (maxL := 4) (ret := (some .int)) (by decide) rfl ?_
  intro p e s m args below meth c s₁ B hml hv
  obtain ⟨hav, hB⟩ := hv
  obtain ⟨hG, hW⟩ := ow_begin hB
  have hx := B.exec
  have hb := B.bytes
  have hr := B.returns
  have hts := atoms_spec (ws := wsX9_judge) B.pre
  have hown : s.vm.findClass RX9 = some m.cls := findClass_of_methodNamed B.named
  have hlocks := B.notSynchronized
  have hl := lv_entry ([.ref (ow_ad Z 56), .int a1, .int a2]) (n := 4) (Nat.le_of_ble_eq_true rfl)
  refine W.eq (g2 := F0 m 0 ((lg_sl ([.ref (ow_ad Z 56), .int a1, .int a2]) ++ List.replicate (4 - (lg_sl ([.ref (ow_ad Z 56), .int a1, .int a2])).length) Slot.unset).toArray) []) (by rw [hav]; exact lg_entry_eq _ _ _) ?_
  generalize (lg_sl ([.ref (ow_ad Z 56), .int a1, .int a2]) ++ List.replicate (4 - (lg_sl ([.ref (ow_ad Z 56), .int a1, .int a2])).length) Slot.unset).toArray = ls at hl ⊢
  have hl : lv_has ls 4 [(0, .ref (ow_ad Z 56)), (1, .int a1), (2, .int a2)] := hl
  unfold f_X9_judge at hf
  refine lv_aload_n hx hb dX9_judge_0 rfl (lv_at hl 0 rfl) ?_
  refine lv_iload_n hx hb dX9_judge_1 rfl (lv_at hl 1 rfl) ?_
  refine lv_iload_n hx hb dX9_judge_2 rfl (lv_at hl 2 rfl) ?_
  obtain ⟨r_3, σ_3, hc3, hf⟩ := ow_cl_i hf
  refine ow_calli (va_runV (As := [.int a1, .int a2]) (rest := []) ⟨hx, hb, hml, hown, hts⟩ (c_X9_toldWrong l Z fu a1 a2 σ r_3 σ_3 hc3) (cwV 2 hts gX9_judge_X9_toldWrong rfl rfl rfl (by decide +kernel) ⟨Nat.le_of_ble_eq_true rfl, Nat.le_of_ble_eq_true rfl⟩) (ow_preV hG hW ow_i56 (by decide) rfl) rfl rfl hl.1 rfl (lv_room (Nat.le_of_ble_eq_true rfl)) dX9_judge_3 ⟨Nat.zero_le _, Nat.zero_le _⟩) hW (fun H locs hW => ?_)
  refine lv_istore_n (lv' := [(3, .int r_3), (0, .ref (ow_ad Z 56)), (1, .int a1), (2, .int a2)]) hx hb dX9_judge_6 rfl hl (by decide) rfl (fun ls hl => ?_)
  refine lv_iload_n hx hb dX9_judge_7 rfl (lv_at hl 0 rfl) ?_
  refine lv_if_ne (tgt := 20) hx hb dX9_judge_8 (by decide) (fun c8 => ?_) (fun c8 => ?_)
  · replace hf := ow_if_f c8 hf
    refine lv_iload_n hx hb dX9_judge_20 rfl (lv_at hl 0 rfl) ?_
    exact ow_iret hx hb hr hW hf dX9_judge_21 hlocks
  · replace hf := ow_if_t c8 hf
    refine lv_aload_n hx hb dX9_judge_11 rfl (lv_at hl 1 rfl) ?_
    refine lv_iload_n hx hb dX9_judge_12 rfl (lv_at hl 2 rfl) ?_
    refine lv_iload_n hx hb dX9_judge_13 rfl (lv_at hl 3 rfl) ?_
    obtain ⟨r_14, σ_14, hc14, hf⟩ := ow_cl_i hf
    refine ow_calli (va_runV (As := [.int a1, .int a2]) (rest := []) ⟨hx, hb, hml, hown, hts⟩ (c_X9_unlike l Z fu a1 a2 σ_3 r_14 σ_14 hc14) (cwV 2 hts gX9_judge_X9_unlike rfl rfl rfl (by decide +kernel) ⟨Nat.le_of_ble_eq_true rfl, Nat.le_of_ble_eq_true rfl⟩) (ow_preV hG hW ow_i56 (by decide) rfl) rfl rfl hl.1 rfl (lv_room (Nat.le_of_ble_eq_true rfl)) dX9_judge_14 ⟨Nat.zero_le _, Nat.zero_le _⟩) hW (fun H locs hW => ?_)
    refine lv_goto (tgt := 21) hx hb dX9_judge_17 (by decide) ?_
    exact ow_iret hx hb hr hW hf dX9_judge_21 hlocks
set_option maxHeartbeats 40000000 in
set_option maxRecDepth 100000 in
theorem c_X9_kinds (l : Launch) (Z : ow_Z) (fu : Nat) (a1 : Int32) (a2 : Int32) (a3 : Int32) (σ : ow_S) (rr : Int32) (σr : ow_S) (hf : f_X9_kinds fu a1 a2 a3 σ = some (rr, σr)) : Met l yX9_kinds wsX9_kinds { frames := 8, cells := 0, slots := 0, locals := 225 } (ow_Pc Z 56 20 [.ref (ow_ad Z 56), .int a1, .int a2, .int a3] σ) (ow_Qi Z 56 20 rr σr) 0 0 (ow_A Z 56 20) := by
  refine Met.ofW (cc := cX9_kinds) (maxL := 10) (ret := (some .int)) (by decide) rfl ?_
  intro p e s m args below meth c s₁ B hml hv
  obtain ⟨hav, hB⟩ := hv
  obtain ⟨hG, hW⟩ := ow_begin hB
  have hx := B.exec
  have hb := B.bytes
  have hr := B.returns
  have hts := atoms_spec (ws := wsX9_kinds) B.pre
  have hown : s.vm.findClass RX9 = some m.cls := findClass_of_methodNamed B.named
  have hlocks := B.notSynchronized
  have hinX9 : ∀ w ∈ wsX90, w ∈ wsX9_kinds := by decide +kernel
  have hJ170 : ∀ (k69 : Int32 → Int32 → Int32 → Int32 → Int32 → Int32 → Int32 → Int32 → ow_S → Option (Int32 × ow_S)) (hk69 : ∀ (x1 : Int32) (x2 : Int32) (x3 : Int32) (x5 : Int32) (x6 : Int32) (x7 : Int32) (x8 : Int32) (x9 : Int32) (σ : ow_S) (H : Heap) (locs : List Loc) (ls : Array Slot), k69 x1 x2 x3 x5 x6 x7 x8 x9 σ = some (rr, σr) → ow_Wd Z 56 20 σ s H locs → lv_has ls 10 [(0, .ref (ow_ad Z 56)), (1, .int x1), (2, .int x2), (3, .int x3), (5, .int x5), (6, .int x6), (7, .int x7), (8, .int x8), (9, .int x9)] → W p l e (headSpec wsX9_kinds { frames := 8, cells := 0, slots := 0, locals := 225 }).room s m args below meth c H locs 0 0 (MQ below (ow_Qi Z 56 20 rr σr) args s 0 0 (ow_A Z 56 20)) (F0 m 69 ls [])), ∀ (x1 : Int32) (x2 : Int32) (x3 : Int32) (x5 : Int32) (x6 : Int32) (x7 : Int32) (x9 : Int32) (s0 : Int32) (s1 : Int32) (σ : ow_S) (H : Heap) (locs : List Loc) (ls : Array Slot), L_X9_kinds_170 fu k69 x1 x2 x3 x5 x6 x7 x9 s0 s1 σ = some (rr, σr) → ow_Wd Z 56 20 σ s H locs → lv_has ls 10 [(0, .ref (ow_ad Z 56)), (1, .int x1), (2, .int x2), (3, .int x3), (5, .int x5), (6, .int x6), (7, .int x7), (9, .int x9)] → W p l e (headSpec wsX9_kinds { frames := 8, cells := 0, slots := 0, locals := 225 }).room s m args below meth c H locs 0 0 (MQ below (ow_Qi Z 56 20 rr σr) args s 0 0 (ow_A Z 56 20)) (F0 m 170 ls [.int s1, .int s0]) := by
    intro k69 hk69 x1 x2 x3 x5 x6 x7 x9 s0 s1 σ H locs ls hf hW hl
    unfold L_X9_kinds_170 at hf
    refine lv_ior hx hb dX9_kinds_170 ?_
    refine ow_topi hf (fun x8_171 hf => ?_)
    refine lv_istore (lv' := [(8, .int x8_171), (0, .ref (ow_ad Z 56)), (1, .int x1), (2, .int x2), (3, .int x3), (5, .int x5), (6, .int x6), (7, .int x7), (9, .int x9)]) hx hb dX9_kinds_171 hl (by decide) rfl (fun ls hl => ?_)
    refine ow_iinc (d := 1) (lv' := fun z => [(9, .int z), (8, .int x8_171), (0, .ref (ow_ad Z 56)), (1, .int x1), (2, .int x2), (3, .int x3), (5, .int x5), (6, .int x6), (7, .int x7)]) hx hb hf dX9_kinds_173 hl (k := 8) rfl (by decide) (by decide) (fun z => rfl) (fun x9_173 hf ls hl => ?_)
    refine lv_goto (tgt := 69) hx hb dX9_kinds_176 (by decide) ?_
    exact hk69 x1 x2 x3 x5 x6 x7 x8_171 x9_173 σ _ _ _ hf hW (lv_sub hl [2, 3, 4, 5, 6, 7, 8, 1, 0] rfl)
  have hJ149 : ∀ (k69 : Int32 → Int32 → Int32 → Int32 → Int32 → Int32 → Int32 → Int32 → ow_S → Option (Int32 × ow_S)) (hk69 : ∀ (x1 : Int32) (x2 : Int32) (x3 : Int32) (x5 : Int32) (x6 : Int32) (x7 : Int32) (x8 : Int32) (x9 : Int32) (σ : ow_S) (H : Heap) (locs : List Loc) (ls : Array Slot), k69 x1 x2 x3 x5 x6 x7 x8 x9 σ = some (rr, σr) → ow_Wd Z 56 20 σ s H locs → lv_has ls 10 [(0, .ref (ow_ad Z 56)), (1, .int x1), (2, .int x2), (3, .int x3), (5, .int x5), (6, .int x6), (7, .int x7), (8, .int x8), (9, .int x9)] → W p l e (headSpec wsX9_kinds { frames := 8, cells := 0, slots := 0, locals := 225 }).room s m args below meth c H locs 0 0 (MQ below (ow_Qi Z 56 20 rr σr) args s 0 0 (ow_A Z 56 20)) (F0 m 69 ls [])), ∀ (x1 : Int32) (x2 : Int32) (x3 : Int32) (x5 : Int32) (x6 : Int32) (x7 : Int32) (x8 : Int32) (x9 : Int32) (s1 : Int32) (s2 : Int32) (σ : ow_S) (H : Heap) (locs : List Loc) (ls : Array Slot), L_X9_kinds_149 fu k69 x1 x2 x3 x5 x6 x7 x8 x9 s1 s2 σ = some (rr, σr) → ow_Wd Z 56 20 σ s H locs → lv_has ls 10 [(0, .ref (ow_ad Z 56)), (1, .int x1), (2, .int x2), (3, .int x3), (5, .int x5), (6, .int x6), (7, .int x7), (8, .int x8), (9, .int x9)] → W p l e (headSpec wsX9_kinds { frames := 8, cells := 0, slots := 0, locals := 225 }).room s m args below meth c H locs 0 0 (MQ below (ow_Qi Z 56 20 rr σr) args s 0 0 (ow_A Z 56 20)) (F0 m 149 ls [.int s2, .int s1, .ref (ow_ad Z 60)]) := by
    intro k69 hk69 x1 x2 x3 x5 x6 x7 x8 x9 s1 s2 σ H locs ls hf hW hl
    unfold L_X9_kinds_149 at hf
    obtain ⟨q149, hf⟩ := ow_ck_i hf
    refine ow_ist (q := s1.toNatClampNeg) hx hb hG hW ow_i60 rfl q149 rfl hf dX9_kinds_149 (fun σ_149 H locs hf hW => ?_)
    refine lv_iload hx hb dX9_kinds_150 (lv_at hl 7 rfl) ?_
    refine lv_aload_n hx hb dX9_kinds_152 rfl (lv_at hl 0 rfl) ?_
    refine lv_iload_n hx hb dX9_kinds_153 rfl (lv_at hl 1 rfl) ?_
    refine lv_iload_n hx hb dX9_kinds_154 rfl (lv_at hl 2 rfl) ?_
    obtain ⟨r_155, σ_155, hc155, hf⟩ := ow_cl_i hf
    refine ow_calli (va_runV (As := [.int x1, .int x2]) (rest := [.int x8]) ⟨hx, hb, hml, hown, hts⟩ (c_X9_unlike l Z fu x1 x2 σ_149 r_155 σ_155 hc155) (cwV 2 hts gX9_kinds_X9_unlike rfl rfl rfl (by decide +kernel) ⟨Nat.le_of_ble_eq_true rfl, Nat.le_of_ble_eq_true rfl⟩) (ow_preV hG hW ow_i56 (by decide) rfl) rfl rfl hl.1 rfl (lv_room (Nat.le_of_ble_eq_true rfl)) dX9_kinds_155 ⟨Nat.zero_le _, Nat.zero_le _⟩) hW (fun H locs hW => ?_)
    refine lv_iconst (v := -1) hx hb dX9_kinds_158 (by decide) ?_
    refine lv_icmp_ne (tgt := 169) hx hb dX9_kinds_159 (by decide) (fun c159 => ?_) (fun c159 => ?_)
    · replace hf := ow_if_f c159 hf
      refine lv_iconst (v := 0) hx hb dX9_kinds_169 (by decide) ?_
      exact hJ170 k69 hk69 x1 x2 x3 x5 x6 x7 x9 x8 (0 : Int32) σ_155 _ _ _ hf hW (lv_sub hl [0, 1, 2, 3, 4, 5, 6, 8] rfl)
    · replace hf := ow_if_t c159 hf
      refine lv_iconst (v := 1) hx hb dX9_kinds_162 (by decide) ?_
      refine lv_iload hx hb dX9_kinds_163 (lv_at hl 8 rfl) ?_
      refine lv_ishl hx hb dX9_kinds_165 ?_
      refine lv_goto (tgt := 170) hx hb dX9_kinds_166 (by decide) ?_
      exact hJ170 k69 hk69 x1 x2 x3 x5 x6 x7 x9 x8 ((1 : Int32) <<< (x9 &&& 31)) σ_155 _ _ _ hf hW (lv_sub hl [0, 1, 2, 3, 4, 5, 6, 8] rfl)
  have hJ129 : ∀ (k69 : Int32 → Int32 → Int32 → Int32 → Int32 → Int32 → Int32 → Int32 → ow_S → Option (Int32 × ow_S)) (hk69 : ∀ (x1 : Int32) (x2 : Int32) (x3 : Int32) (x5 : Int32) (x6 : Int32) (x7 : Int32) (x8 : Int32) (x9 : Int32) (σ : ow_S) (H : Heap) (locs : List Loc) (ls : Array Slot), k69 x1 x2 x3 x5 x6 x7 x8 x9 σ = some (rr, σr) → ow_Wd Z 56 20 σ s H locs → lv_has ls 10 [(0, .ref (ow_ad Z 56)), (1, .int x1), (2, .int x2), (3, .int x3), (5, .int x5), (6, .int x6), (7, .int x7), (8, .int x8), (9, .int x9)] → W p l e (headSpec wsX9_kinds { frames := 8, cells := 0, slots := 0, locals := 225 }).room s m args below meth c H locs 0 0 (MQ below (ow_Qi Z 56 20 rr σr) args s 0 0 (ow_A Z 56 20)) (F0 m 69 ls [])), ∀ (x1 : Int32) (x2 : Int32) (x3 : Int32) (x5 : Int32) (x6 : Int32) (x7 : Int32) (x8 : Int32) (x9 : Int32) (s1 : Int32) (s2 : Int32) (σ : ow_S) (H : Heap) (locs : List Loc) (ls : Array Slot), L_X9_kinds_129 fu k69 x1 x2 x3 x5 x6 x7 x8 x9 s1 s2 σ = some (rr, σr) → ow_Wd Z 56 20 σ s H locs → lv_has ls 10 [(0, .ref (ow_ad Z 56)), (1, .int x1), (2, .int x2), (3, .int x3), (5, .int x5), (6, .int x6), (7, .int x7), (8, .int x8), (9, .int x9)] → W p l e (headSpec wsX9_kinds { frames := 8, cells := 0, slots := 0, locals := 225 }).room s m args below meth c H locs 0 0 (MQ below (ow_Qi Z 56 20 rr σr) args s 0 0 (ow_A Z 56 20)) (F0 m 129 ls [.int s2, .int s1, .ref (ow_ad Z 59)]) := by
    intro k69 hk69 x1 x2 x3 x5 x6 x7 x8 x9 s1 s2 σ H locs ls hf hW hl
    unfold L_X9_kinds_129 at hf
    obtain ⟨q129, hf⟩ := ow_ck_i hf
    refine ow_ist (q := s1.toNatClampNeg) hx hb hG hW ow_i59 rfl q129 rfl hf dX9_kinds_129 (fun σ_129 H locs hf hW => ?_)
    refine lv_aload_n hx hb dX9_kinds_130 rfl (lv_at hl 0 rfl) ?_
    refine ow_getV (ci := 9) (C := RX9) (T := TX9) (N := 41) hx hb hts hown hG hW ow_i56 (by decide) rfl hinX9 6 (by decide) (fk := 2) rfl (hts (.fieldLink RX9 23 "FiftyOneCardsModel" "kept" "[I") (by decide +kernel)) (v := .ref (ow_ad Z 60)) (ow_vR hW ow_i56.1 ow_i56.2.1 rfl) dX9_kinds_131 ?_
    refine lv_iconst (v := 3) hx hb dX9_kinds_134 (by decide) ?_
    refine lv_iload_n hx hb dX9_kinds_135 rfl (lv_at hl 2 rfl) ?_
    refine lv_imul hx hb dX9_kinds_136 ?_
    refine lv_iload_n hx hb dX9_kinds_137 rfl (lv_at hl 3 rfl) ?_
    refine lv_iconst (v := 2) hx hb dX9_kinds_138 (by decide) ?_
    refine lv_icmp_ne (tgt := 147) hx hb dX9_kinds_139 (by decide) (fun c139 => ?_) (fun c139 => ?_)
    · replace hf := ow_if_f c139 hf
      refine lv_iload hx hb dX9_kinds_147 (lv_at hl 6 rfl) ?_
      exact hJ149 k69 hk69 x1 x2 x3 x5 x6 x7 x8 x9 ((3 : Int32) * x2) x7 σ_129 _ _ _ hf hW (lv_sub hl [0, 1, 2, 3, 4, 5, 6, 7, 8] rfl)
    · replace hf := ow_if_t c139 hf
      refine lv_iload hx hb dX9_kinds_142 (lv_at hl 8 rfl) ?_
      refine lv_goto (tgt := 149) hx hb dX9_kinds_144 (by decide) ?_
      exact hJ149 k69 hk69 x1 x2 x3 x5 x6 x7 x8 x9 ((3 : Int32) * x2) x9 σ_129 _ _ _ hf hW (lv_sub hl [0, 1, 2, 3, 4, 5, 6, 7, 8] rfl)
  have hJ111 : ∀ (k69 : Int32 → Int32 → Int32 → Int32 → Int32 → Int32 → Int32 → Int32 → ow_S → Option (Int32 × ow_S)) (hk69 : ∀ (x1 : Int32) (x2 : Int32) (x3 : Int32) (x5 : Int32) (x6 : Int32) (x7 : Int32) (x8 : Int32) (x9 : Int32) (σ : ow_S) (H : Heap) (locs : List Loc) (ls : Array Slot), k69 x1 x2 x3 x5 x6 x7 x8 x9 σ = some (rr, σr) → ow_Wd Z 56 20 σ s H locs → lv_has ls 10 [(0, .ref (ow_ad Z 56)), (1, .int x1), (2, .int x2), (3, .int x3), (5, .int x5), (6, .int x6), (7, .int x7), (8, .int x8), (9, .int x9)] → W p l e (headSpec wsX9_kinds { frames := 8, cells := 0, slots := 0, locals := 225 }).room s m args below meth c H locs 0 0 (MQ below (ow_Qi Z 56 20 rr σr) args s 0 0 (ow_A Z 56 20)) (F0 m 69 ls [])), ∀ (x1 : Int32) (x2 : Int32) (x3 : Int32) (x5 : Int32) (x6 : Int32) (x7 : Int32) (x8 : Int32) (x9 : Int32) (s1 : Int32) (s2 : Int32) (σ : ow_S) (H : Heap) (locs : List Loc) (ls : Array Slot), L_X9_kinds_111 fu k69 x1 x2 x3 x5 x6 x7 x8 x9 s1 s2 σ = some (rr, σr) → ow_Wd Z 56 20 σ s H locs → lv_has ls 10 [(0, .ref (ow_ad Z 56)), (1, .int x1), (2, .int x2), (3, .int x3), (5, .int x5), (6, .int x6), (7, .int x7), (8, .int x8), (9, .int x9)] → W p l e (headSpec wsX9_kinds { frames := 8, cells := 0, slots := 0, locals := 225 }).room s m args below meth c H locs 0 0 (MQ below (ow_Qi Z 56 20 rr σr) args s 0 0 (ow_A Z 56 20)) (F0 m 111 ls [.int s2, .int s1, .ref (ow_ad Z 58)]) := by
    intro k69 hk69 x1 x2 x3 x5 x6 x7 x8 x9 s1 s2 σ H locs ls hf hW hl
    unfold L_X9_kinds_111 at hf
    obtain ⟨q111, hf⟩ := ow_ck_i hf
    refine ow_ist (q := s1.toNatClampNeg) hx hb hG hW ow_i58 rfl q111 rfl hf dX9_kinds_111 (fun σ_111 H locs hf hW => ?_)
    refine lv_aload_n hx hb dX9_kinds_112 rfl (lv_at hl 0 rfl) ?_
    refine ow_getV (ci := 9) (C := RX9) (T := TX9) (N := 41) hx hb hts hown hG hW ow_i56 (by decide) rfl hinX9 5 (by decide) (fk := 2) rfl (hts (.fieldLink RX9 20 "FiftyOneCardsModel" "moreOf" "[I") (by decide +kernel)) (v := .ref (ow_ad Z 59)) (ow_vR hW ow_i56.1 ow_i56.2.1 rfl) dX9_kinds_113 ?_
    refine lv_iload_n hx hb dX9_kinds_116 rfl (lv_at hl 2 rfl) ?_
    refine lv_iload_n hx hb dX9_kinds_117 rfl (lv_at hl 3 rfl) ?_
    refine lv_iconst (v := 1) hx hb dX9_kinds_118 (by decide) ?_
    refine lv_icmp_ne (tgt := 127) hx hb dX9_kinds_119 (by decide) (fun c119 => ?_) (fun c119 => ?_)
    · replace hf := ow_if_f c119 hf
      refine lv_iload hx hb dX9_kinds_127 (lv_at hl 5 rfl) ?_
      exact hJ129 k69 hk69 x1 x2 x3 x5 x6 x7 x8 x9 x2 x6 σ_111 _ _ _ hf hW (lv_sub hl [0, 1, 2, 3, 4, 5, 6, 7, 8] rfl)
    · replace hf := ow_if_t c119 hf
      refine lv_iload hx hb dX9_kinds_122 (lv_at hl 8 rfl) ?_
      refine lv_goto (tgt := 129) hx hb dX9_kinds_124 (by decide) ?_
      exact hJ129 k69 hk69 x1 x2 x3 x5 x6 x7 x8 x9 x2 x9 σ_111 _ _ _ hf hW (lv_sub hl [0, 1, 2, 3, 4, 5, 6, 7, 8] rfl)
  have hJ92 : ∀ (k69 : Int32 → Int32 → Int32 → Int32 → Int32 → Int32 → Int32 → Int32 → ow_S → Option (Int32 × ow_S)) (hk69 : ∀ (x1 : Int32) (x2 : Int32) (x3 : Int32) (x5 : Int32) (x6 : Int32) (x7 : Int32) (x8 : Int32) (x9 : Int32) (σ : ow_S) (H : Heap) (locs : List Loc) (ls : Array Slot), k69 x1 x2 x3 x5 x6 x7 x8 x9 σ = some (rr, σr) → ow_Wd Z 56 20 σ s H locs → lv_has ls 10 [(0, .ref (ow_ad Z 56)), (1, .int x1), (2, .int x2), (3, .int x3), (5, .int x5), (6, .int x6), (7, .int x7), (8, .int x8), (9, .int x9)] → W p l e (headSpec wsX9_kinds { frames := 8, cells := 0, slots := 0, locals := 225 }).room s m args below meth c H locs 0 0 (MQ below (ow_Qi Z 56 20 rr σr) args s 0 0 (ow_A Z 56 20)) (F0 m 69 ls [])), ∀ (x1 : Int32) (x2 : Int32) (x3 : Int32) (x5 : Int32) (x6 : Int32) (x7 : Int32) (x8 : Int32) (x9 : Int32) (s0 : Int32) (s1 : Int32) (σ : ow_S) (H : Heap) (locs : List Loc) (ls : Array Slot), L_X9_kinds_92 fu k69 x1 x2 x3 x5 x6 x7 x8 x9 s0 s1 σ = some (rr, σr) → ow_Wd Z 56 20 σ s H locs → lv_has ls 10 [(0, .ref (ow_ad Z 56)), (1, .int x1), (2, .int x2), (3, .int x3), (5, .int x5), (6, .int x6), (7, .int x7), (8, .int x8), (9, .int x9)] → W p l e (headSpec wsX9_kinds { frames := 8, cells := 0, slots := 0, locals := 225 }).room s m args below meth c H locs 0 0 (MQ below (ow_Qi Z 56 20 rr σr) args s 0 0 (ow_A Z 56 20)) (F0 m 92 ls [.int s1, .int s0]) := by
    intro k69 hk69 x1 x2 x3 x5 x6 x7 x8 x9 s0 s1 σ H locs ls hf hW hl
    unfold L_X9_kinds_92 at hf
    refine lv_icmp_ge (tgt := 179) hx hb dX9_kinds_92 (by decide) (fun c92 => ?_) (fun c92 => ?_)
    · replace hf := ow_if_t c92 hf
      refine lv_aload_n hx hb dX9_kinds_179 rfl (lv_at hl 0 rfl) ?_
      refine ow_getV (ci := 9) (C := RX9) (T := TX9) (N := 41) hx hb hts hown hG hW ow_i56 (by decide) rfl hinX9 4 (by decide) (fk := 2) rfl (hts (.fieldLink RX9 17 "FiftyOneCardsModel" "kind" "[I") (by decide +kernel)) (v := .ref (ow_ad Z 58)) (ow_vR hW ow_i56.1 ow_i56.2.1 rfl) dX9_kinds_180 ?_
      refine lv_iload_n hx hb dX9_kinds_183 rfl (lv_at hl 2 rfl) ?_
      refine lv_iload hx hb dX9_kinds_184 (lv_at hl 4 rfl) ?_
      obtain ⟨q186, hf⟩ := ow_ck_i hf
      refine ow_ist (q := x2.toNatClampNeg) hx hb hG hW ow_i58 rfl q186 rfl hf dX9_kinds_186 (fun σ_186 H locs hf hW => ?_)
      refine lv_aload_n hx hb dX9_kinds_187 rfl (lv_at hl 0 rfl) ?_
      refine ow_getV (ci := 9) (C := RX9) (T := TX9) (N := 41) hx hb hts hown hG hW ow_i56 (by decide) rfl hinX9 5 (by decide) (fk := 2) rfl (hts (.fieldLink RX9 20 "FiftyOneCardsModel" "moreOf" "[I") (by decide +kernel)) (v := .ref (ow_ad Z 59)) (ow_vR hW ow_i56.1 ow_i56.2.1 rfl) dX9_kinds_188 ?_
      refine lv_iload_n hx hb dX9_kinds_191 rfl (lv_at hl 2 rfl) ?_
      refine lv_iload hx hb dX9_kinds_192 (lv_at hl 5 rfl) ?_
      obtain ⟨q194, hf⟩ := ow_ck_i hf
      refine ow_ist (q := x2.toNatClampNeg) hx hb hG hW ow_i59 rfl q194 rfl hf dX9_kinds_194 (fun σ_194 H locs hf hW => ?_)
      refine lv_aload_n hx hb dX9_kinds_195 rfl (lv_at hl 0 rfl) ?_
      refine ow_getV (ci := 9) (C := RX9) (T := TX9) (N := 41) hx hb hts hown hG hW ow_i56 (by decide) rfl hinX9 6 (by decide) (fk := 2) rfl (hts (.fieldLink RX9 23 "FiftyOneCardsModel" "kept" "[I") (by decide +kernel)) (v := .ref (ow_ad Z 60)) (ow_vR hW ow_i56.1 ow_i56.2.1 rfl) dX9_kinds_196 ?_
      refine lv_iconst (v := 3) hx hb dX9_kinds_199 (by decide) ?_
      refine lv_iload_n hx hb dX9_kinds_200 rfl (lv_at hl 2 rfl) ?_
      refine lv_imul hx hb dX9_kinds_201 ?_
      refine lv_iload hx hb dX9_kinds_202 (lv_at hl 6 rfl) ?_
      obtain ⟨q204, hf⟩ := ow_ck_i hf
      refine ow_ist (q := ((3 : Int32) * x2).toNatClampNeg) hx hb hG hW ow_i60 rfl q204 rfl hf dX9_kinds_204 (fun σ_204 H locs hf hW => ?_)
      refine lv_iload hx hb dX9_kinds_205 (lv_at hl 7 rfl) ?_
      exact ow_iret hx hb hr hW hf dX9_kinds_207 hlocks
    · replace hf := ow_if_f c92 hf
      refine lv_aload_n hx hb dX9_kinds_95 rfl (lv_at hl 0 rfl) ?_
      refine ow_getV (ci := 9) (C := RX9) (T := TX9) (N := 41) hx hb hts hown hG hW ow_i56 (by decide) rfl hinX9 4 (by decide) (fk := 2) rfl (hts (.fieldLink RX9 17 "FiftyOneCardsModel" "kind" "[I") (by decide +kernel)) (v := .ref (ow_ad Z 58)) (ow_vR hW ow_i56.1 ow_i56.2.1 rfl) dX9_kinds_96 ?_
      refine lv_iload_n hx hb dX9_kinds_99 rfl (lv_at hl 2 rfl) ?_
      refine lv_iload_n hx hb dX9_kinds_100 rfl (lv_at hl 3 rfl) ?_
      refine lv_if_ne (tgt := 109) hx hb dX9_kinds_101 (by decide) (fun c101 => ?_) (fun c101 => ?_)
      · replace hf := ow_if_f c101 hf
        refine lv_iload hx hb dX9_kinds_109 (lv_at hl 4 rfl) ?_
        exact hJ111 k69 hk69 x1 x2 x3 x5 x6 x7 x8 x9 x2 x5 σ _ _ _ hf hW (lv_sub hl [0, 1, 2, 3, 4, 5, 6, 7, 8] rfl)
      · replace hf := ow_if_t c101 hf
        refine lv_iload hx hb dX9_kinds_104 (lv_at hl 8 rfl) ?_
        refine lv_goto (tgt := 111) hx hb dX9_kinds_106 (by decide) ?_
        exact hJ111 k69 hk69 x1 x2 x3 x5 x6 x7 x8 x9 x2 x9 σ _ _ _ hf hW (lv_sub hl [0, 1, 2, 3, 4, 5, 6, 7, 8] rfl)
  have hJ69 : ∀ (fn : Nat), ∀ (x1 : Int32) (x2 : Int32) (x3 : Int32) (x5 : Int32) (x6 : Int32) (x7 : Int32) (x8 : Int32) (x9 : Int32) (σ : ow_S) (H : Heap) (locs : List Loc) (ls : Array Slot), L_X9_kinds_69 fu fn x1 x2 x3 x5 x6 x7 x8 x9 σ = some (rr, σr) → ow_Wd Z 56 20 σ s H locs → lv_has ls 10 [(0, .ref (ow_ad Z 56)), (1, .int x1), (2, .int x2), (3, .int x3), (5, .int x5), (6, .int x6), (7, .int x7), (8, .int x8), (9, .int x9)] → W p l e (headSpec wsX9_kinds { frames := 8, cells := 0, slots := 0, locals := 225 }).room s m args below meth c H locs 0 0 (MQ below (ow_Qi Z 56 20 rr σr) args s 0 0 (ow_A Z 56 20)) (F0 m 69 ls []) := by
    intro fn
    induction fn with
    | zero => intro x1 x2 x3 x5 x6 x7 x8 x9 σ H locs ls hf hW hl; simp [L_X9_kinds_69] at hf
    | succ fn ih =>
      intro x1 x2 x3 x5 x6 x7 x8 x9 σ H locs ls hf hW hl
      rw [L_X9_kinds_69] at hf
      refine lv_iload hx hb dX9_kinds_69 (lv_at hl 8 rfl) ?_
      refine lv_iload_n hx hb dX9_kinds_71 rfl (lv_at hl 3 rfl) ?_
      refine lv_if_ne (tgt := 80) hx hb dX9_kinds_72 (by decide) (fun c72 => ?_) (fun c72 => ?_)
      · replace hf := ow_if_f c72 hf
        refine lv_iload_n hx hb dX9_kinds_80 rfl (lv_at hl 3 rfl) ?_
        refine lv_iconst (v := 1) hx hb dX9_kinds_81 (by decide) ?_
        refine lv_icmp_ne (tgt := 90) hx hb dX9_kinds_82 (by decide) (fun c82 => ?_) (fun c82 => ?_)
        · replace hf := ow_if_f c82 hf
          refine lv_bipush (v := 17) hx hb dX9_kinds_90 (by decide) ?_
          exact hJ92 (L_X9_kinds_69 fu fn) ih x1 x2 x3 x5 x6 x7 x8 x9 x9 (17 : Int32) σ _ _ _ hf hW (lv_sub hl [0, 1, 2, 3, 4, 5, 6, 7, 8] rfl)
        · replace hf := ow_if_t c82 hf
          refine lv_bipush (v := 10) hx hb dX9_kinds_85 (by decide) ?_
          refine lv_goto (tgt := 92) hx hb dX9_kinds_87 (by decide) ?_
          exact hJ92 (L_X9_kinds_69 fu fn) ih x1 x2 x3 x5 x6 x7 x8 x9 x9 (10 : Int32) σ _ _ _ hf hW (lv_sub hl [0, 1, 2, 3, 4, 5, 6, 7, 8] rfl)
      · replace hf := ow_if_t c72 hf
        refine lv_bipush (v := 6) hx hb dX9_kinds_75 (by decide) ?_
        refine lv_goto (tgt := 92) hx hb dX9_kinds_77 (by decide) ?_
        exact hJ92 (L_X9_kinds_69 fu fn) ih x1 x2 x3 x5 x6 x7 x8 x9 x9 (6 : Int32) σ _ _ _ hf hW (lv_sub hl [0, 1, 2, 3, 4, 5, 6, 7, 8] rfl)
  have hJ67 : ∀ (x1 : Int32) (x2 : Int32) (x3 : Int32) (x5 : Int32) (x6 : Int32) (x7 : Int32) (x8 : Int32) (s0 : Int32) (σ : ow_S) (H : Heap) (locs : List Loc) (ls : Array Slot), L_X9_kinds_67 fu x1 x2 x3 x5 x6 x7 x8 s0 σ = some (rr, σr) → ow_Wd Z 56 20 σ s H locs → lv_has ls 10 [(0, .ref (ow_ad Z 56)), (1, .int x1), (2, .int x2), (3, .int x3), (5, .int x5), (6, .int x6), (7, .int x7), (8, .int x8)] → W p l e (headSpec wsX9_kinds { frames := 8, cells := 0, slots := 0, locals := 225 }).room s m args below meth c H locs 0 0 (MQ below (ow_Qi Z 56 20 rr σr) args s 0 0 (ow_A Z 56 20)) (F0 m 67 ls [.int s0]) := by
    intro x1 x2 x3 x5 x6 x7 x8 s0 σ H locs ls hf hW hl
    unfold L_X9_kinds_67 at hf
    refine lv_istore (lv' := [(9, .int s0), (0, .ref (ow_ad Z 56)), (1, .int x1), (2, .int x2), (3, .int x3), (5, .int x5), (6, .int x6), (7, .int x7), (8, .int x8)]) hx hb dX9_kinds_67 hl (by decide) rfl (fun ls hl => ?_)
    exact hJ69 fu x1 x2 x3 x5 x6 x7 x8 s0 σ _ _ _ hf hW (lv_sub hl [1, 2, 3, 4, 5, 6, 7, 8, 0] rfl)
  have hl := lv_entry ([.ref (ow_ad Z 56), .int a1, .int a2, .int a3]) (n := 10) (Nat.le_of_ble_eq_true rfl)
  refine W.eq (g2 := F0 m 0 ((lg_sl ([.ref (ow_ad Z 56), .int a1, .int a2, .int a3]) ++ List.replicate (10 - (lg_sl ([.ref (ow_ad Z 56), .int a1, .int a2, .int a3])).length) Slot.unset).toArray) []) (by rw [hav]; exact lg_entry_eq _ _ _) ?_
  generalize (lg_sl ([.ref (ow_ad Z 56), .int a1, .int a2, .int a3]) ++ List.replicate (10 - (lg_sl ([.ref (ow_ad Z 56), .int a1, .int a2, .int a3])).length) Slot.unset).toArray = ls at hl ⊢
  have hl : lv_has ls 10 [(0, .ref (ow_ad Z 56)), (1, .int a1), (2, .int a2), (3, .int a3)] := hl
  unfold f_X9_kinds at hf
  refine lv_aload_n hx hb dX9_kinds_0 rfl (lv_at hl 0 rfl) ?_
  refine lv_iload_n hx hb dX9_kinds_1 rfl (lv_at hl 1 rfl) ?_
  refine lv_iload_n hx hb dX9_kinds_2 rfl (lv_at hl 2 rfl) ?_
  obtain ⟨r_3, σ_3, hc3, hf⟩ := ow_cl_i hf
  refine ow_calli (va_runV (As := [.int a1, .int a2]) (rest := []) ⟨hx, hb, hml, hown, hts⟩ (c_X9_toldWrong l Z fu a1 a2 σ r_3 σ_3 hc3) (cwV 2 hts gX9_kinds_X9_toldWrong rfl rfl rfl (by decide +kernel) ⟨Nat.le_of_ble_eq_true rfl, Nat.le_of_ble_eq_true rfl⟩) (ow_preV hG hW ow_i56 (by decide) rfl) rfl rfl hl.1 rfl (lv_room (Nat.le_of_ble_eq_true rfl)) dX9_kinds_3 ⟨Nat.zero_le _, Nat.zero_le _⟩) hW (fun H locs hW => ?_)
  refine lv_istore (lv' := [(4, .int r_3), (0, .ref (ow_ad Z 56)), (1, .int a1), (2, .int a2), (3, .int a3)]) hx hb dX9_kinds_6 hl (by decide) rfl (fun ls hl => ?_)
  refine lv_iload hx hb dX9_kinds_8 (lv_at hl 0 rfl) ?_
  refine lv_if_eq (tgt := 16) hx hb dX9_kinds_10 (by decide) (fun c10 => ?_) (fun c10 => ?_)
  · replace hf := ow_if_t c10 hf
    refine lv_iload_n hx hb dX9_kinds_16 rfl (lv_at hl 4 rfl) ?_
    refine lv_iconst (v := 0) hx hb dX9_kinds_17 (by decide) ?_
    refine lv_iconst (v := 2) hx hb dX9_kinds_18 (by decide) ?_
    obtain ⟨r_19, σ_19, hc19, hf⟩ := ow_cl_i hf
    refine ow_callz (va_runS (As := [.int a3, .int (0 : Int32), .int (2 : Int32)]) (rest := []) ⟨hx, hb, hml, hown, hts⟩ (c_X9_in l Z fu a3 (0 : Int32) (2 : Int32) σ_3 r_19 σ_19 hc19) (va_cwS 3 hts gX9_kinds_X9_in rfl rfl rfl (by decide +kernel) ⟨Nat.le_of_ble_eq_true rfl, Nat.le_of_ble_eq_true rfl⟩) (ow_preS hG hW) rfl rfl hl.1 rfl (lv_room (Nat.le_of_ble_eq_true rfl)) dX9_kinds_19 ⟨Nat.zero_le _, Nat.zero_le _⟩) hW (fun b19 H locs hW => ?_)
    refine lv_if_ne (tgt := 28) hx hb dX9_kinds_22 (by decide) (fun c22 => ?_) (fun c22 => ?_)
    · replace hf := ow_if_f c22 hf
      refine lv_aload_n hx hb dX9_kinds_28 rfl (lv_at hl 1 rfl) ?_
      refine ow_getV (ci := 9) (C := RX9) (T := TX9) (N := 41) hx hb hts hown hG hW ow_i56 (by decide) rfl hinX9 4 (by decide) (fk := 2) rfl (hts (.fieldLink RX9 17 "FiftyOneCardsModel" "kind" "[I") (by decide +kernel)) (v := .ref (ow_ad Z 58)) (ow_vR hW ow_i56.1 ow_i56.2.1 rfl) dX9_kinds_29 ?_
      refine lv_iload_n hx hb dX9_kinds_32 rfl (lv_at hl 3 rfl) ?_
      obtain ⟨q33, hf⟩ := ow_ck_i hf
      refine ow_ild (q := a2.toNatClampNeg) hx hb hG hW ow_i58 rfl q33 rfl dX9_kinds_33 ?_
      refine ow_topi hf (fun x5_34 hf => ?_)
      refine lv_istore (lv' := [(5, .int x5_34), (4, .int r_3), (0, .ref (ow_ad Z 56)), (1, .int a1), (2, .int a2), (3, .int a3)]) hx hb dX9_kinds_34 hl (by decide) rfl (fun ls hl => ?_)
      refine lv_aload_n hx hb dX9_kinds_36 rfl (lv_at hl 2 rfl) ?_
      refine ow_getV (ci := 9) (C := RX9) (T := TX9) (N := 41) hx hb hts hown hG hW ow_i56 (by decide) rfl hinX9 5 (by decide) (fk := 2) rfl (hts (.fieldLink RX9 20 "FiftyOneCardsModel" "moreOf" "[I") (by decide +kernel)) (v := .ref (ow_ad Z 59)) (ow_vR hW ow_i56.1 ow_i56.2.1 rfl) dX9_kinds_37 ?_
      refine lv_iload_n hx hb dX9_kinds_40 rfl (lv_at hl 4 rfl) ?_
      obtain ⟨q41, hf⟩ := ow_ck_i hf
      refine ow_ild (q := a2.toNatClampNeg) hx hb hG hW ow_i59 rfl q41 rfl dX9_kinds_41 ?_
      refine ow_topi hf (fun x6_42 hf => ?_)
      refine lv_istore (lv' := [(6, .int x6_42), (5, .int x5_34), (4, .int r_3), (0, .ref (ow_ad Z 56)), (1, .int a1), (2, .int a2), (3, .int a3)]) hx hb dX9_kinds_42 hl (by decide) rfl (fun ls hl => ?_)
      refine lv_aload_n hx hb dX9_kinds_44 rfl (lv_at hl 3 rfl) ?_
      refine ow_getV (ci := 9) (C := RX9) (T := TX9) (N := 41) hx hb hts hown hG hW ow_i56 (by decide) rfl hinX9 6 (by decide) (fk := 2) rfl (hts (.fieldLink RX9 23 "FiftyOneCardsModel" "kept" "[I") (by decide +kernel)) (v := .ref (ow_ad Z 60)) (ow_vR hW ow_i56.1 ow_i56.2.1 rfl) dX9_kinds_45 ?_
      refine lv_iconst (v := 3) hx hb dX9_kinds_48 (by decide) ?_
      refine lv_iload_n hx hb dX9_kinds_49 rfl (lv_at hl 5 rfl) ?_
      refine lv_imul hx hb dX9_kinds_50 ?_
      obtain ⟨q51, hf⟩ := ow_ck_i hf
      refine ow_ild (q := ((3 : Int32) * a2).toNatClampNeg) hx hb hG hW ow_i60 rfl q51 rfl dX9_kinds_51 ?_
      refine ow_topi hf (fun x7_52 hf => ?_)
      refine lv_istore (lv' := [(7, .int x7_52), (6, .int x6_42), (5, .int x5_34), (4, .int r_3), (0, .ref (ow_ad Z 56)), (1, .int a1), (2, .int a2), (3, .int a3)]) hx hb dX9_kinds_52 hl (by decide) rfl (fun ls hl => ?_)
      refine lv_iconst (v := 0) hx hb dX9_kinds_54 (by decide) ?_
      refine lv_istore (lv' := [(8, .int (0 : Int32)), (7, .int x7_52), (6, .int x6_42), (5, .int x5_34), (4, .int r_3), (0, .ref (ow_ad Z 56)), (1, .int a1), (2, .int a2), (3, .int a3)]) hx hb dX9_kinds_55 hl (by decide) rfl (fun ls hl => ?_)
      refine lv_iload_n hx hb dX9_kinds_57 rfl (lv_at hl 8 rfl) ?_
      refine lv_iconst (v := 2) hx hb dX9_kinds_58 (by decide) ?_
      refine lv_icmp_ne (tgt := 66) hx hb dX9_kinds_59 (by decide) (fun c59 => ?_) (fun c59 => ?_)
      · replace hf := ow_if_f c59 hf
        refine lv_iconst (v := 0) hx hb dX9_kinds_66 (by decide) ?_
        exact hJ67 a1 a2 a3 x5_34 x6_42 x7_52 (0 : Int32) (0 : Int32) σ_19 _ _ _ hf hW (lv_sub hl [5, 6, 7, 8, 3, 2, 1, 0] rfl)
      · replace hf := ow_if_t c59 hf
        refine lv_iconst (v := 1) hx hb dX9_kinds_62 (by decide) ?_
        refine lv_goto (tgt := 67) hx hb dX9_kinds_63 (by decide) ?_
        exact hJ67 a1 a2 a3 x5_34 x6_42 x7_52 (0 : Int32) (1 : Int32) σ_19 _ _ _ hf hW (lv_sub hl [5, 6, 7, 8, 3, 2, 1, 0] rfl)
    · replace hf := ow_if_t c22 hf
      refine lv_bipush (v := -7) hx hb dX9_kinds_25 (by decide) ?_
      exact ow_iret hx hb hr hW hf dX9_kinds_27 hlocks
  · replace hf := ow_if_f c10 hf
    refine lv_iload hx hb dX9_kinds_13 (lv_at hl 0 rfl) ?_
    exact ow_iret hx hb hr hW hf dX9_kinds_15 hlocks
set_option maxHeartbeats 40000000 in
set_option maxRecDepth 100000 in
theorem c_X9_begins (l : Launch) (Z : ow_Z) (fu : Nat) (a1 : Int32) (a2 : Int32) (a3 : Int32) (σ : ow_S) (rr : Int32) (σr : ow_S) (hf : f_X9_begins fu a1 a2 a3 σ = some (rr, σr)) : Met l yX9_begins wsX9_begins { frames := 8, cells := 0, slots := 0, locals := 225 } (ow_Pc Z 56 20 [.ref (ow_ad Z 56), .int a1, .int a2, .int a3] σ) (ow_Qi Z 56 20 rr σr) 0 0 (ow_A Z 56 20) := by
  refine Met.ofW (cc := cX9_begins) (maxL := 10) (ret := (some .int)) (by decide) rfl ?_
  intro p e s m args below meth c s₁ B hml hv
  obtain ⟨hav, hB⟩ := hv
  obtain ⟨hG, hW⟩ := ow_begin hB
  have hx := B.exec
  have hb := B.bytes
  have hr := B.returns
  have hts := atoms_spec (ws := wsX9_begins) B.pre
  have hown : s.vm.findClass RX9 = some m.cls := findClass_of_methodNamed B.named
  have hlocks := B.notSynchronized
  have hinX9 : ∀ w ∈ wsX90, w ∈ wsX9_begins := by decide +kernel
  have hJ119 : ∀ (k49 : Int32 → Int32 → Int32 → Int32 → Int32 → Int32 → Int32 → ow_S → Option (Int32 × ow_S)) (hk49 : ∀ (x1 : Int32) (x2 : Int32) (x3 : Int32) (x5 : Int32) (x6 : Int32) (x7 : Int32) (x8 : Int32) (σ : ow_S) (H : Heap) (locs : List Loc) (ls : Array Slot), k49 x1 x2 x3 x5 x6 x7 x8 σ = some (rr, σr) → ow_Wd Z 56 20 σ s H locs → lv_has ls 10 [(0, .ref (ow_ad Z 56)), (1, .int x1), (2, .int x2), (3, .int x3), (5, .int x5), (6, .int x6), (7, .int x7), (8, .int x8)] → W p l e (headSpec wsX9_begins { frames := 8, cells := 0, slots := 0, locals := 225 }).room s m args below meth c H locs 0 0 (MQ below (ow_Qi Z 56 20 rr σr) args s 0 0 (ow_A Z 56 20)) (F0 m 49 ls [])), ∀ (x1 : Int32) (x2 : Int32) (x3 : Int32) (x5 : Int32) (x6 : Int32) (x8 : Int32) (s0 : Int32) (σ : ow_S) (H : Heap) (locs : List Loc) (ls : Array Slot), L_X9_begins_119 fu k49 x1 x2 x3 x5 x6 x8 s0 σ = some (rr, σr) → ow_Wd Z 56 20 σ s H locs → lv_has ls 10 [(0, .ref (ow_ad Z 56)), (1, .int x1), (2, .int x2), (3, .int x3), (5, .int x5), (6, .int x6), (8, .int x8)] → W p l e (headSpec wsX9_begins { frames := 8, cells := 0, slots := 0, locals := 225 }).room s m args below meth c H locs 0 0 (MQ below (ow_Qi Z 56 20 rr σr) args s 0 0 (ow_A Z 56 20)) (F0 m 119 ls [.int s0]) := by
    intro k49 hk49 x1 x2 x3 x5 x6 x8 s0 σ H locs ls hf hW hl
    unfold L_X9_begins_119 at hf
    refine lv_istore (lv' := [(7, .int s0), (0, .ref (ow_ad Z 56)), (1, .int x1), (2, .int x2), (3, .int x3), (5, .int x5), (6, .int x6), (8, .int x8)]) hx hb dX9_begins_119 hl (by decide) rfl (fun ls hl => ?_)
    refine ow_iinc (d := 1) (lv' := fun z => [(8, .int z), (7, .int s0), (0, .ref (ow_ad Z 56)), (1, .int x1), (2, .int x2), (3, .int x3), (5, .int x5), (6, .int x6)]) hx hb hf dX9_begins_121 hl (k := 7) rfl (by decide) (by decide) (fun z => rfl) (fun x8_121 hf ls hl => ?_)
    refine lv_goto (tgt := 49) hx hb dX9_begins_124 (by decide) ?_
    exact hk49 x1 x2 x3 x5 x6 s0 x8_121 σ _ _ _ hf hW (lv_sub hl [2, 3, 4, 5, 6, 7, 1, 0] rfl)
  have hJ117 : ∀ (k49 : Int32 → Int32 → Int32 → Int32 → Int32 → Int32 → Int32 → ow_S → Option (Int32 × ow_S)) (hk49 : ∀ (x1 : Int32) (x2 : Int32) (x3 : Int32) (x5 : Int32) (x6 : Int32) (x7 : Int32) (x8 : Int32) (σ : ow_S) (H : Heap) (locs : List Loc) (ls : Array Slot), k49 x1 x2 x3 x5 x6 x7 x8 σ = some (rr, σr) → ow_Wd Z 56 20 σ s H locs → lv_has ls 10 [(0, .ref (ow_ad Z 56)), (1, .int x1), (2, .int x2), (3, .int x3), (5, .int x5), (6, .int x6), (7, .int x7), (8, .int x8)] → W p l e (headSpec wsX9_begins { frames := 8, cells := 0, slots := 0, locals := 225 }).room s m args below meth c H locs 0 0 (MQ below (ow_Qi Z 56 20 rr σr) args s 0 0 (ow_A Z 56 20)) (F0 m 49 ls [])), ∀ (x1 : Int32) (x2 : Int32) (x3 : Int32) (x5 : Int32) (x6 : Int32) (x7 : Int32) (x8 : Int32) (σ : ow_S) (H : Heap) (locs : List Loc) (ls : Array Slot), L_X9_begins_117 fu k49 x1 x2 x3 x5 x6 x7 x8 σ = some (rr, σr) → ow_Wd Z 56 20 σ s H locs → lv_has ls 10 [(0, .ref (ow_ad Z 56)), (1, .int x1), (2, .int x2), (3, .int x3), (5, .int x5), (6, .int x6), (7, .int x7), (8, .int x8)] → W p l e (headSpec wsX9_begins { frames := 8, cells := 0, slots := 0, locals := 225 }).room s m args below meth c H locs 0 0 (MQ below (ow_Qi Z 56 20 rr σr) args s 0 0 (ow_A Z 56 20)) (F0 m 117 ls []) := by
    intro k49 hk49 x1 x2 x3 x5 x6 x7 x8 σ H locs ls hf hW hl
    unfold L_X9_begins_117 at hf
    refine lv_iload hx hb dX9_begins_117 (lv_at hl 6 rfl) ?_
    exact hJ119 k49 hk49 x1 x2 x3 x5 x6 x8 x7 σ _ _ _ hf hW (lv_sub hl [0, 1, 2, 3, 4, 5, 7] rfl)
  have hJ98 : ∀ (k49 : Int32 → Int32 → Int32 → Int32 → Int32 → Int32 → Int32 → ow_S → Option (Int32 × ow_S)) (hk49 : ∀ (x1 : Int32) (x2 : Int32) (x3 : Int32) (x5 : Int32) (x6 : Int32) (x7 : Int32) (x8 : Int32) (σ : ow_S) (H : Heap) (locs : List Loc) (ls : Array Slot), k49 x1 x2 x3 x5 x6 x7 x8 σ = some (rr, σr) → ow_Wd Z 56 20 σ s H locs → lv_has ls 10 [(0, .ref (ow_ad Z 56)), (1, .int x1), (2, .int x2), (3, .int x3), (5, .int x5), (6, .int x6), (7, .int x7), (8, .int x8)] → W p l e (headSpec wsX9_begins { frames := 8, cells := 0, slots := 0, locals := 225 }).room s m args below meth c H locs 0 0 (MQ below (ow_Qi Z 56 20 rr σr) args s 0 0 (ow_A Z 56 20)) (F0 m 49 ls [])), ∀ (x1 : Int32) (x2 : Int32) (x3 : Int32) (x5 : Int32) (x7 : Int32) (x8 : Int32) (x9 : Int32) (s0 : Int32) (s1 : Int32) (σ : ow_S) (H : Heap) (locs : List Loc) (ls : Array Slot), L_X9_begins_98 fu k49 x1 x2 x3 x5 x7 x8 x9 s0 s1 σ = some (rr, σr) → ow_Wd Z 56 20 σ s H locs → lv_has ls 10 [(0, .ref (ow_ad Z 56)), (1, .int x1), (2, .int x2), (3, .int x3), (5, .int x5), (7, .int x7), (8, .int x8), (9, .int x9)] → W p l e (headSpec wsX9_begins { frames := 8, cells := 0, slots := 0, locals := 225 }).room s m args below meth c H locs 0 0 (MQ below (ow_Qi Z 56 20 rr σr) args s 0 0 (ow_A Z 56 20)) (F0 m 98 ls [.int s1, .int s0]) := by
    intro k49 hk49 x1 x2 x3 x5 x7 x8 x9 s0 s1 σ H locs ls hf hW hl
    unfold L_X9_begins_98 at hf
    refine lv_iadd hx hb dX9_begins_98 ?_
    refine ow_topi hf (fun x6_99 hf => ?_)
    refine lv_istore (lv' := [(6, .int x6_99), (0, .ref (ow_ad Z 56)), (1, .int x1), (2, .int x2), (3, .int x3), (5, .int x5), (7, .int x7), (8, .int x8), (9, .int x9)]) hx hb dX9_begins_99 hl (by decide) rfl (fun ls hl => ?_)
    refine lv_iload hx hb dX9_begins_101 (lv_at hl 8 rfl) ?_
    refine lv_if_eq (tgt := 117) hx hb dX9_begins_103 (by decide) (fun c103 => ?_) (fun c103 => ?_)
    · replace hf := ow_if_t c103 hf
      exact hJ117 k49 hk49 x1 x2 x3 x5 x6_99 x7 x8 σ _ _ _ hf hW (lv_sub hl [1, 2, 3, 4, 5, 0, 6, 7] rfl)
    · replace hf := ow_if_f c103 hf
      refine lv_iload hx hb dX9_begins_106 (lv_at hl 6 rfl) ?_
      refine lv_iconst (v := -1) hx hb dX9_begins_108 (by decide) ?_
      refine lv_icmp_ne (tgt := 117) hx hb dX9_begins_109 (by decide) (fun c109 => ?_) (fun c109 => ?_)
      · replace hf := ow_if_f c109 hf
        exact hJ117 k49 hk49 x1 x2 x3 x5 x6_99 x7 x8 σ _ _ _ hf hW (lv_sub hl [1, 2, 3, 4, 5, 0, 6, 7] rfl)
      · replace hf := ow_if_t c109 hf
        refine lv_iload hx hb dX9_begins_112 (lv_at hl 7 rfl) ?_
        refine lv_goto (tgt := 119) hx hb dX9_begins_114 (by decide) ?_
        exact hJ119 k49 hk49 x1 x2 x3 x5 x6_99 x8 x8 σ _ _ _ hf hW (lv_sub hl [1, 2, 3, 4, 5, 0, 7] rfl)
  have hJ84 : ∀ (k49 : Int32 → Int32 → Int32 → Int32 → Int32 → Int32 → Int32 → ow_S → Option (Int32 × ow_S)) (hk49 : ∀ (x1 : Int32) (x2 : Int32) (x3 : Int32) (x5 : Int32) (x6 : Int32) (x7 : Int32) (x8 : Int32) (σ : ow_S) (H : Heap) (locs : List Loc) (ls : Array Slot), k49 x1 x2 x3 x5 x6 x7 x8 σ = some (rr, σr) → ow_Wd Z 56 20 σ s H locs → lv_has ls 10 [(0, .ref (ow_ad Z 56)), (1, .int x1), (2, .int x2), (3, .int x3), (5, .int x5), (6, .int x6), (7, .int x7), (8, .int x8)] → W p l e (headSpec wsX9_begins { frames := 8, cells := 0, slots := 0, locals := 225 }).room s m args below meth c H locs 0 0 (MQ below (ow_Qi Z 56 20 rr σr) args s 0 0 (ow_A Z 56 20)) (F0 m 49 ls [])), ∀ (x1 : Int32) (x2 : Int32) (x3 : Int32) (x5 : Int32) (x6 : Int32) (x7 : Int32) (x8 : Int32) (s0 : Int32) (σ : ow_S) (H : Heap) (locs : List Loc) (ls : Array Slot), L_X9_begins_84 fu k49 x1 x2 x3 x5 x6 x7 x8 s0 σ = some (rr, σr) → ow_Wd Z 56 20 σ s H locs → lv_has ls 10 [(0, .ref (ow_ad Z 56)), (1, .int x1), (2, .int x2), (3, .int x3), (5, .int x5), (6, .int x6), (7, .int x7), (8, .int x8)] → W p l e (headSpec wsX9_begins { frames := 8, cells := 0, slots := 0, locals := 225 }).room s m args below meth c H locs 0 0 (MQ below (ow_Qi Z 56 20 rr σr) args s 0 0 (ow_A Z 56 20)) (F0 m 84 ls [.int s0]) := by
    intro k49 hk49 x1 x2 x3 x5 x6 x7 x8 s0 σ H locs ls hf hW hl
    unfold L_X9_begins_84 at hf
    refine lv_istore (lv' := [(9, .int s0), (0, .ref (ow_ad Z 56)), (1, .int x1), (2, .int x2), (3, .int x3), (5, .int x5), (6, .int x6), (7, .int x7), (8, .int x8)]) hx hb dX9_begins_84 hl (by decide) rfl (fun ls hl => ?_)
    refine lv_iload hx hb dX9_begins_86 (lv_at hl 6 rfl) ?_
    refine lv_iload hx hb dX9_begins_88 (lv_at hl 0 rfl) ?_
    refine lv_if_eq (tgt := 97) hx hb dX9_begins_90 (by decide) (fun c90 => ?_) (fun c90 => ?_)
    · replace hf := ow_if_t c90 hf
      refine lv_iconst (v := 0) hx hb dX9_begins_97 (by decide) ?_
      exact hJ98 k49 hk49 x1 x2 x3 x5 x7 x8 s0 x6 (0 : Int32) σ _ _ _ hf hW (lv_sub hl [1, 2, 3, 4, 5, 7, 8, 0] rfl)
    · replace hf := ow_if_f c90 hf
      refine lv_iconst (v := 1) hx hb dX9_begins_93 (by decide) ?_
      refine lv_goto (tgt := 98) hx hb dX9_begins_94 (by decide) ?_
      exact hJ98 k49 hk49 x1 x2 x3 x5 x7 x8 s0 x6 (1 : Int32) σ _ _ _ hf hW (lv_sub hl [1, 2, 3, 4, 5, 7, 8, 0] rfl)
  have hJ49 : ∀ (fn : Nat), ∀ (x1 : Int32) (x2 : Int32) (x3 : Int32) (x5 : Int32) (x6 : Int32) (x7 : Int32) (x8 : Int32) (σ : ow_S) (H : Heap) (locs : List Loc) (ls : Array Slot), L_X9_begins_49 fu fn x1 x2 x3 x5 x6 x7 x8 σ = some (rr, σr) → ow_Wd Z 56 20 σ s H locs → lv_has ls 10 [(0, .ref (ow_ad Z 56)), (1, .int x1), (2, .int x2), (3, .int x3), (5, .int x5), (6, .int x6), (7, .int x7), (8, .int x8)] → W p l e (headSpec wsX9_begins { frames := 8, cells := 0, slots := 0, locals := 225 }).room s m args below meth c H locs 0 0 (MQ below (ow_Qi Z 56 20 rr σr) args s 0 0 (ow_A Z 56 20)) (F0 m 49 ls []) := by
    intro fn
    induction fn with
    | zero => intro x1 x2 x3 x5 x6 x7 x8 σ H locs ls hf hW hl; simp [L_X9_begins_49] at hf
    | succ fn ih =>
      intro x1 x2 x3 x5 x6 x7 x8 σ H locs ls hf hW hl
      rw [L_X9_begins_49] at hf
      refine lv_iload hx hb dX9_begins_49 (lv_at hl 7 rfl) ?_
      refine lv_sipush (v := 200) hx hb dX9_begins_51 (by decide) ?_
      refine lv_icmp_gt (tgt := 127) hx hb dX9_begins_54 (by decide) (fun c54 => ?_) (fun c54 => ?_)
      · replace hf := ow_if_t c54 hf
        refine lv_aload_n hx hb dX9_begins_127 rfl (lv_at hl 0 rfl) ?_
        refine ow_getV (ci := 9) (C := RX9) (T := TX9) (N := 41) hx hb hts hown hG hW ow_i56 (by decide) rfl hinX9 6 (by decide) (fk := 2) rfl (hts (.fieldLink RX9 23 "FiftyOneCardsModel" "kept" "[I") (by decide +kernel)) (v := .ref (ow_ad Z 60)) (ow_vR hW ow_i56.1 ow_i56.2.1 rfl) dX9_begins_128 ?_
        refine lv_iconst (v := 3) hx hb dX9_begins_131 (by decide) ?_
        refine lv_iload_n hx hb dX9_begins_132 rfl (lv_at hl 2 rfl) ?_
        refine lv_imul hx hb dX9_begins_133 ?_
        refine lv_iconst (v := 1) hx hb dX9_begins_134 (by decide) ?_
        refine lv_iadd hx hb dX9_begins_135 ?_
        refine lv_iload hx hb dX9_begins_136 (lv_at hl 4 rfl) ?_
        obtain ⟨q138, hf⟩ := ow_ck_i hf
        refine ow_ist (q := (((3 : Int32) * x2) + (1 : Int32)).toNatClampNeg) hx hb hG hW ow_i60 rfl q138 rfl hf dX9_begins_138 (fun σ_138 H locs hf hW => ?_)
        refine lv_iload_n hx hb dX9_begins_139 rfl (lv_at hl 3 rfl) ?_
        refine lv_if_ne (tgt := 148) hx hb dX9_begins_140 (by decide) (fun c140 => ?_) (fun c140 => ?_)
        · replace hf := ow_if_f c140 hf
          refine lv_iload hx hb dX9_begins_148 (lv_at hl 6 rfl) ?_
          exact ow_iret hx hb hr hW hf dX9_begins_150 hlocks
        · replace hf := ow_if_t c140 hf
          refine lv_iload hx hb dX9_begins_143 (lv_at hl 5 rfl) ?_
          refine lv_goto (tgt := 150) hx hb dX9_begins_145 (by decide) ?_
          exact ow_iret hx hb hr hW hf dX9_begins_150 hlocks
      · replace hf := ow_if_f c54 hf
        refine lv_aload_n hx hb dX9_begins_57 rfl (lv_at hl 0 rfl) ?_
        refine ow_getV (ci := 9) (C := RX9) (T := TX9) (N := 41) hx hb hts hown hG hW ow_i56 (by decide) rfl hinX9 6 (by decide) (fk := 2) rfl (hts (.fieldLink RX9 23 "FiftyOneCardsModel" "kept" "[I") (by decide +kernel)) (v := .ref (ow_ad Z 60)) (ow_vR hW ow_i56.1 ow_i56.2.1 rfl) dX9_begins_58 ?_
        refine lv_iconst (v := 3) hx hb dX9_begins_61 (by decide) ?_
        refine lv_iload_n hx hb dX9_begins_62 rfl (lv_at hl 2 rfl) ?_
        refine lv_imul hx hb dX9_begins_63 ?_
        refine lv_iconst (v := 1) hx hb dX9_begins_64 (by decide) ?_
        refine lv_iadd hx hb dX9_begins_65 ?_
        refine lv_iload hx hb dX9_begins_66 (lv_at hl 7 rfl) ?_
        obtain ⟨q68, hf⟩ := ow_ck_i hf
        refine ow_ist (q := (((3 : Int32) * x2) + (1 : Int32)).toNatClampNeg) hx hb hG hW ow_i60 rfl q68 rfl hf dX9_begins_68 (fun σ_68 H locs hf hW => ?_)
        refine lv_aload_n hx hb dX9_begins_69 rfl (lv_at hl 0 rfl) ?_
        refine lv_iload_n hx hb dX9_begins_70 rfl (lv_at hl 1 rfl) ?_
        refine lv_iload_n hx hb dX9_begins_71 rfl (lv_at hl 2 rfl) ?_
        obtain ⟨r_72, σ_72, hc72, hf⟩ := ow_cl_i hf
        refine ow_calli (va_runV (As := [.int x1, .int x2]) (rest := []) ⟨hx, hb, hml, hown, hts⟩ (c_X9_unlike l Z fu x1 x2 σ_68 r_72 σ_72 hc72) (cwV 2 hts gX9_begins_X9_unlike rfl rfl rfl (by decide +kernel) ⟨Nat.le_of_ble_eq_true rfl, Nat.le_of_ble_eq_true rfl⟩) (ow_preV hG hW ow_i56 (by decide) rfl) rfl rfl hl.1 rfl (lv_room (Nat.le_of_ble_eq_true rfl)) dX9_begins_72 ⟨Nat.zero_le _, Nat.zero_le _⟩) hW (fun H locs hW => ?_)
        refine lv_iconst (v := -1) hx hb dX9_begins_75 (by decide) ?_
        refine lv_icmp_ne (tgt := 83) hx hb dX9_begins_76 (by decide) (fun c76 => ?_) (fun c76 => ?_)
        · replace hf := ow_if_f c76 hf
          refine lv_iconst (v := 0) hx hb dX9_begins_83 (by decide) ?_
          exact hJ84 (L_X9_begins_49 fu fn) ih x1 x2 x3 x5 x6 x7 x8 (0 : Int32) σ_72 _ _ _ hf hW (lv_sub hl [0, 1, 2, 3, 4, 5, 6, 7] rfl)
        · replace hf := ow_if_t c76 hf
          refine lv_iconst (v := 1) hx hb dX9_begins_79 (by decide) ?_
          refine lv_goto (tgt := 84) hx hb dX9_begins_80 (by decide) ?_
          exact hJ84 (L_X9_begins_49 fu fn) ih x1 x2 x3 x5 x6 x7 x8 (1 : Int32) σ_72 _ _ _ hf hW (lv_sub hl [0, 1, 2, 3, 4, 5, 6, 7] rfl)
  have hl := lv_entry ([.ref (ow_ad Z 56), .int a1, .int a2, .int a3]) (n := 10) (Nat.le_of_ble_eq_true rfl)
  refine W.eq (g2 := F0 m 0 ((lg_sl ([.ref (ow_ad Z 56), .int a1, .int a2, .int a3]) ++ List.replicate (10 - (lg_sl ([.ref (ow_ad Z 56), .int a1, .int a2, .int a3])).length) Slot.unset).toArray) []) (by rw [hav]; exact lg_entry_eq _ _ _) ?_
  generalize (lg_sl ([.ref (ow_ad Z 56), .int a1, .int a2, .int a3]) ++ List.replicate (10 - (lg_sl ([.ref (ow_ad Z 56), .int a1, .int a2, .int a3])).length) Slot.unset).toArray = ls at hl ⊢
  have hl : lv_has ls 10 [(0, .ref (ow_ad Z 56)), (1, .int a1), (2, .int a2), (3, .int a3)] := hl
  unfold f_X9_begins at hf
  refine lv_aload_n hx hb dX9_begins_0 rfl (lv_at hl 0 rfl) ?_
  refine lv_iload_n hx hb dX9_begins_1 rfl (lv_at hl 1 rfl) ?_
  refine lv_iload_n hx hb dX9_begins_2 rfl (lv_at hl 2 rfl) ?_
  obtain ⟨r_3, σ_3, hc3, hf⟩ := ow_cl_i hf
  refine ow_calli (va_runV (As := [.int a1, .int a2]) (rest := []) ⟨hx, hb, hml, hown, hts⟩ (c_X9_toldWrong l Z fu a1 a2 σ r_3 σ_3 hc3) (cwV 2 hts gX9_begins_X9_toldWrong rfl rfl rfl (by decide +kernel) ⟨Nat.le_of_ble_eq_true rfl, Nat.le_of_ble_eq_true rfl⟩) (ow_preV hG hW ow_i56 (by decide) rfl) rfl rfl hl.1 rfl (lv_room (Nat.le_of_ble_eq_true rfl)) dX9_begins_3 ⟨Nat.zero_le _, Nat.zero_le _⟩) hW (fun H locs hW => ?_)
  refine lv_istore (lv' := [(4, .int r_3), (0, .ref (ow_ad Z 56)), (1, .int a1), (2, .int a2), (3, .int a3)]) hx hb dX9_begins_6 hl (by decide) rfl (fun ls hl => ?_)
  refine lv_iload hx hb dX9_begins_8 (lv_at hl 0 rfl) ?_
  refine lv_if_eq (tgt := 16) hx hb dX9_begins_10 (by decide) (fun c10 => ?_) (fun c10 => ?_)
  · replace hf := ow_if_t c10 hf
    refine lv_iload_n hx hb dX9_begins_16 rfl (lv_at hl 4 rfl) ?_
    refine lv_iconst (v := 0) hx hb dX9_begins_17 (by decide) ?_
    refine lv_iconst (v := 1) hx hb dX9_begins_18 (by decide) ?_
    obtain ⟨r_19, σ_19, hc19, hf⟩ := ow_cl_i hf
    refine ow_callz (va_runS (As := [.int a3, .int (0 : Int32), .int (1 : Int32)]) (rest := []) ⟨hx, hb, hml, hown, hts⟩ (c_X9_in l Z fu a3 (0 : Int32) (1 : Int32) σ_3 r_19 σ_19 hc19) (va_cwS 3 hts gX9_begins_X9_in rfl rfl rfl (by decide +kernel) ⟨Nat.le_of_ble_eq_true rfl, Nat.le_of_ble_eq_true rfl⟩) (ow_preS hG hW) rfl rfl hl.1 rfl (lv_room (Nat.le_of_ble_eq_true rfl)) dX9_begins_19 ⟨Nat.zero_le _, Nat.zero_le _⟩) hW (fun b19 H locs hW => ?_)
    refine lv_if_ne (tgt := 28) hx hb dX9_begins_22 (by decide) (fun c22 => ?_) (fun c22 => ?_)
    · replace hf := ow_if_f c22 hf
      refine lv_aload_n hx hb dX9_begins_28 rfl (lv_at hl 1 rfl) ?_
      refine ow_getV (ci := 9) (C := RX9) (T := TX9) (N := 41) hx hb hts hown hG hW ow_i56 (by decide) rfl hinX9 6 (by decide) (fk := 2) rfl (hts (.fieldLink RX9 23 "FiftyOneCardsModel" "kept" "[I") (by decide +kernel)) (v := .ref (ow_ad Z 60)) (ow_vR hW ow_i56.1 ow_i56.2.1 rfl) dX9_begins_29 ?_
      refine lv_iconst (v := 3) hx hb dX9_begins_32 (by decide) ?_
      refine lv_iload_n hx hb dX9_begins_33 rfl (lv_at hl 3 rfl) ?_
      refine lv_imul hx hb dX9_begins_34 ?_
      refine lv_iconst (v := 1) hx hb dX9_begins_35 (by decide) ?_
      refine lv_iadd hx hb dX9_begins_36 ?_
      obtain ⟨q37, hf⟩ := ow_ck_i hf
      refine ow_ild (q := (((3 : Int32) * a2) + (1 : Int32)).toNatClampNeg) hx hb hG hW ow_i60 rfl q37 rfl dX9_begins_37 ?_
      refine ow_topi hf (fun x5_38 hf => ?_)
      refine lv_istore (lv' := [(5, .int x5_38), (4, .int r_3), (0, .ref (ow_ad Z 56)), (1, .int a1), (2, .int a2), (3, .int a3)]) hx hb dX9_begins_38 hl (by decide) rfl (fun ls hl => ?_)
      refine lv_iconst (v := 0) hx hb dX9_begins_40 (by decide) ?_
      refine lv_istore (lv' := [(6, .int (0 : Int32)), (5, .int x5_38), (4, .int r_3), (0, .ref (ow_ad Z 56)), (1, .int a1), (2, .int a2), (3, .int a3)]) hx hb dX9_begins_41 hl (by decide) rfl (fun ls hl => ?_)
      refine lv_iconst (v := -1) hx hb dX9_begins_43 (by decide) ?_
      refine lv_istore (lv' := [(7, .int (-1 : Int32)), (6, .int (0 : Int32)), (5, .int x5_38), (4, .int r_3), (0, .ref (ow_ad Z 56)), (1, .int a1), (2, .int a2), (3, .int a3)]) hx hb dX9_begins_44 hl (by decide) rfl (fun ls hl => ?_)
      refine lv_iconst (v := 0) hx hb dX9_begins_46 (by decide) ?_
      refine lv_istore (lv' := [(8, .int (0 : Int32)), (7, .int (-1 : Int32)), (6, .int (0 : Int32)), (5, .int x5_38), (4, .int r_3), (0, .ref (ow_ad Z 56)), (1, .int a1), (2, .int a2), (3, .int a3)]) hx hb dX9_begins_47 hl (by decide) rfl (fun ls hl => ?_)
      exact hJ49 fu a1 a2 a3 x5_38 (0 : Int32) (-1 : Int32) (0 : Int32) σ_19 _ _ _ hf hW (lv_sub hl [5, 6, 7, 8, 3, 2, 1, 0] rfl)
    · replace hf := ow_if_t c22 hf
      refine lv_bipush (v := -7) hx hb dX9_begins_25 (by decide) ?_
      exact ow_iret hx hb hr hW hf dX9_begins_27 hlocks
  · replace hf := ow_if_f c10 hf
    refine lv_iload hx hb dX9_begins_13 (lv_at hl 0 rfl) ?_
    exact ow_iret hx hb hr hW hf dX9_begins_15 hlocks
set_option maxHeartbeats 40000000 in
set_option maxRecDepth 100000 in
theorem c_X9_laws (l : Launch) (Z : ow_Z) (fu : Nat) (a1 : Int32) (a2 : Int32) (σ : ow_S) (rr : Int32) (σr : ow_S) (hf : f_X9_laws fu a1 a2 σ = some (rr, σr)) : Met l yX9_laws wsX9_laws { frames := 8, cells := 0, slots := 0, locals := 225 } (ow_Pc Z 56 20 [.ref (ow_ad Z 56), .int a1, .int a2] σ) (ow_Qi Z 56 20 rr σr) 0 0 (ow_A Z 56 20) := by
  refine Met.ofW (cc := cX9_laws) (maxL := 7) (ret := (some .int)) (by decide) rfl ?_
  intro p e s m args below meth c s₁ B hml hv
  obtain ⟨hav, hB⟩ := hv
  obtain ⟨hG, hW⟩ := ow_begin hB
  have hx := B.exec
  have hb := B.bytes
  have hr := B.returns
  have hts := atoms_spec (ws := wsX9_laws) B.pre
  have hown : s.vm.findClass RX9 = some m.cls := findClass_of_methodNamed B.named
  have hlocks := B.notSynchronized
  have hinX9 : ∀ w ∈ wsX90, w ∈ wsX9_laws := by decide +kernel
  have hJ60 : ∀ (k25 : Int32 → Int32 → Int32 → Int32 → Int32 → ow_S → Option (Int32 × ow_S)) (hk25 : ∀ (x1 : Int32) (x2 : Int32) (x4 : Int32) (x5 : Int32) (x6 : Int32) (σ : ow_S) (H : Heap) (locs : List Loc) (ls : Array Slot), k25 x1 x2 x4 x5 x6 σ = some (rr, σr) → ow_Wd Z 56 20 σ s H locs → lv_has ls 7 [(0, .ref (ow_ad Z 56)), (1, .int x1), (2, .int x2), (4, .int x4), (5, .int x5), (6, .int x6)] → W p l e (headSpec wsX9_laws { frames := 8, cells := 0, slots := 0, locals := 225 }).room s m args below meth c H locs 0 0 (MQ below (ow_Qi Z 56 20 rr σr) args s 0 0 (ow_A Z 56 20)) (F0 m 25 ls [])), ∀ (x1 : Int32) (x2 : Int32) (x4 : Int32) (x6 : Int32) (s0 : Int32) (s1 : Int32) (σ : ow_S) (H : Heap) (locs : List Loc) (ls : Array Slot), L_X9_laws_60 fu k25 x1 x2 x4 x6 s0 s1 σ = some (rr, σr) → ow_Wd Z 56 20 σ s H locs → lv_has ls 7 [(0, .ref (ow_ad Z 56)), (1, .int x1), (2, .int x2), (4, .int x4), (6, .int x6)] → W p l e (headSpec wsX9_laws { frames := 8, cells := 0, slots := 0, locals := 225 }).room s m args below meth c H locs 0 0 (MQ below (ow_Qi Z 56 20 rr σr) args s 0 0 (ow_A Z 56 20)) (F0 m 60 ls [.int s1, .int s0]) := by
    intro k25 hk25 x1 x2 x4 x6 s0 s1 σ H locs ls hf hW hl
    unfold L_X9_laws_60 at hf
    refine lv_ior hx hb dX9_laws_60 ?_
    refine ow_topi hf (fun x5_61 hf => ?_)
    refine lv_istore (lv' := [(5, .int x5_61), (0, .ref (ow_ad Z 56)), (1, .int x1), (2, .int x2), (4, .int x4), (6, .int x6)]) hx hb dX9_laws_61 hl (by decide) rfl (fun ls hl => ?_)
    refine ow_iinc (d := 1) (lv' := fun z => [(6, .int z), (5, .int x5_61), (0, .ref (ow_ad Z 56)), (1, .int x1), (2, .int x2), (4, .int x4)]) hx hb hf dX9_laws_63 hl (k := 5) rfl (by decide) (by decide) (fun z => rfl) (fun x6_63 hf ls hl => ?_)
    refine lv_goto (tgt := 25) hx hb dX9_laws_66 (by decide) ?_
    exact hk25 x1 x2 x4 x5_61 x6_63 σ _ _ _ hf hW (lv_sub hl [2, 3, 4, 5, 1, 0] rfl)
  have hJ25 : ∀ (fn : Nat), ∀ (x1 : Int32) (x2 : Int32) (x4 : Int32) (x5 : Int32) (x6 : Int32) (σ : ow_S) (H : Heap) (locs : List Loc) (ls : Array Slot), L_X9_laws_25 fu fn x1 x2 x4 x5 x6 σ = some (rr, σr) → ow_Wd Z 56 20 σ s H locs → lv_has ls 7 [(0, .ref (ow_ad Z 56)), (1, .int x1), (2, .int x2), (4, .int x4), (5, .int x5), (6, .int x6)] → W p l e (headSpec wsX9_laws { frames := 8, cells := 0, slots := 0, locals := 225 }).room s m args below meth c H locs 0 0 (MQ below (ow_Qi Z 56 20 rr σr) args s 0 0 (ow_A Z 56 20)) (F0 m 25 ls []) := by
    intro fn
    induction fn with
    | zero => intro x1 x2 x4 x5 x6 σ H locs ls hf hW hl; simp [L_X9_laws_25] at hf
    | succ fn ih =>
      intro x1 x2 x4 x5 x6 σ H locs ls hf hW hl
      rw [L_X9_laws_25] at hf
      refine lv_iload hx hb dX9_laws_25 (lv_at hl 5 rfl) ?_
      refine lv_aload_n hx hb dX9_laws_27 rfl (lv_at hl 0 rfl) ?_
      refine ow_getV (ci := 9) (C := RX9) (T := TX9) (N := 41) hx hb hts hown hG hW ow_i56 (by decide) rfl hinX9 11 (by decide) (fk := 0) rfl (hts (.fieldLink RX9 88 "FiftyOneCardsModel" "texts" "I") (by decide +kernel)) (v := .int (σ.1 56 11)) rfl dX9_laws_28 ?_
      refine lv_icmp_ge (tgt := 69) hx hb dX9_laws_31 (by decide) (fun c31 => ?_) (fun c31 => ?_)
      · replace hf := ow_if_t c31 hf
        refine lv_aload_n hx hb dX9_laws_69 rfl (lv_at hl 0 rfl) ?_
        refine lv_iload hx hb dX9_laws_70 (lv_at hl 3 rfl) ?_
        refine ow_putI (ci := 9) (C := RX9) (T := TX9) (N := 41) hx hb hts hown hG hW ow_i56 (by decide) rfl hinX9 tyX9 tyX9_ok nmX9 12 (by decide) rfl (hts (.fieldLink RX9 91 "FiftyOneCardsModel" "rule" "I") (by decide +kernel)) rfl rfl rfl hf dX9_laws_72 (fun σ_72 H locs hf hW => ?_)
        refine lv_iload hx hb dX9_laws_75 (lv_at hl 4 rfl) ?_
        exact ow_iret hx hb hr hW hf dX9_laws_77 hlocks
      · replace hf := ow_if_f c31 hf
        refine lv_aload_n hx hb dX9_laws_34 rfl (lv_at hl 0 rfl) ?_
        refine lv_iload hx hb dX9_laws_35 (lv_at hl 5 rfl) ?_
        refine ow_putI (ci := 9) (C := RX9) (T := TX9) (N := 41) hx hb hts hown hG hW ow_i56 (by decide) rfl hinX9 tyX9 tyX9_ok nmX9 12 (by decide) rfl (hts (.fieldLink RX9 91 "FiftyOneCardsModel" "rule" "I") (by decide +kernel)) rfl rfl rfl hf dX9_laws_37 (fun σ_37 H locs hf hW => ?_)
        refine lv_iload hx hb dX9_laws_40 (lv_at hl 4 rfl) ?_
        refine lv_aload_n hx hb dX9_laws_42 rfl (lv_at hl 0 rfl) ?_
        refine lv_iload_n hx hb dX9_laws_43 rfl (lv_at hl 1 rfl) ?_
        refine lv_iload_n hx hb dX9_laws_44 rfl (lv_at hl 2 rfl) ?_
        obtain ⟨r_45, σ_45, hc45, hf⟩ := ow_cl_i hf
        refine ow_calli (va_runV (As := [.int x1, .int x2]) (rest := [.int x5]) ⟨hx, hb, hml, hown, hts⟩ (c_X9_unlike l Z fu x1 x2 σ_37 r_45 σ_45 hc45) (cwV 2 hts gX9_laws_X9_unlike rfl rfl rfl (by decide +kernel) ⟨Nat.le_of_ble_eq_true rfl, Nat.le_of_ble_eq_true rfl⟩) (ow_preV hG hW ow_i56 (by decide) rfl) rfl rfl hl.1 rfl (lv_room (Nat.le_of_ble_eq_true rfl)) dX9_laws_45 ⟨Nat.zero_le _, Nat.zero_le _⟩) hW (fun H locs hW => ?_)
        refine lv_iconst (v := -1) hx hb dX9_laws_48 (by decide) ?_
        refine lv_icmp_ne (tgt := 59) hx hb dX9_laws_49 (by decide) (fun c49 => ?_) (fun c49 => ?_)
        · replace hf := ow_if_f c49 hf
          refine lv_iconst (v := 0) hx hb dX9_laws_59 (by decide) ?_
          exact hJ60 (L_X9_laws_25 fu fn) ih x1 x2 x4 x6 x5 (0 : Int32) σ_45 _ _ _ hf hW (lv_sub hl [0, 1, 2, 3, 5] rfl)
        · replace hf := ow_if_t c49 hf
          refine lv_iconst (v := 1) hx hb dX9_laws_52 (by decide) ?_
          refine lv_iload hx hb dX9_laws_53 (lv_at hl 5 rfl) ?_
          refine lv_ishl hx hb dX9_laws_55 ?_
          refine lv_goto (tgt := 60) hx hb dX9_laws_56 (by decide) ?_
          exact hJ60 (L_X9_laws_25 fu fn) ih x1 x2 x4 x6 x5 ((1 : Int32) <<< (x6 &&& 31)) σ_45 _ _ _ hf hW (lv_sub hl [0, 1, 2, 3, 5] rfl)
  have hl := lv_entry ([.ref (ow_ad Z 56), .int a1, .int a2]) (n := 7) (Nat.le_of_ble_eq_true rfl)
  refine W.eq (g2 := F0 m 0 ((lg_sl ([.ref (ow_ad Z 56), .int a1, .int a2]) ++ List.replicate (7 - (lg_sl ([.ref (ow_ad Z 56), .int a1, .int a2])).length) Slot.unset).toArray) []) (by rw [hav]; exact lg_entry_eq _ _ _) ?_
  generalize (lg_sl ([.ref (ow_ad Z 56), .int a1, .int a2]) ++ List.replicate (7 - (lg_sl ([.ref (ow_ad Z 56), .int a1, .int a2])).length) Slot.unset).toArray = ls at hl ⊢
  have hl : lv_has ls 7 [(0, .ref (ow_ad Z 56)), (1, .int a1), (2, .int a2)] := hl
  unfold f_X9_laws at hf
  refine lv_aload_n hx hb dX9_laws_0 rfl (lv_at hl 0 rfl) ?_
  refine lv_iload_n hx hb dX9_laws_1 rfl (lv_at hl 1 rfl) ?_
  refine lv_iload_n hx hb dX9_laws_2 rfl (lv_at hl 2 rfl) ?_
  obtain ⟨r_3, σ_3, hc3, hf⟩ := ow_cl_i hf
  refine ow_calli (va_runV (As := [.int a1, .int a2]) (rest := []) ⟨hx, hb, hml, hown, hts⟩ (c_X9_toldWrong l Z fu a1 a2 σ r_3 σ_3 hc3) (cwV 2 hts gX9_laws_X9_toldWrong rfl rfl rfl (by decide +kernel) ⟨Nat.le_of_ble_eq_true rfl, Nat.le_of_ble_eq_true rfl⟩) (ow_preV hG hW ow_i56 (by decide) rfl) rfl rfl hl.1 rfl (lv_room (Nat.le_of_ble_eq_true rfl)) dX9_laws_3 ⟨Nat.zero_le _, Nat.zero_le _⟩) hW (fun H locs hW => ?_)
  refine lv_istore_n (lv' := [(3, .int r_3), (0, .ref (ow_ad Z 56)), (1, .int a1), (2, .int a2)]) hx hb dX9_laws_6 rfl hl (by decide) rfl (fun ls hl => ?_)
  refine lv_iload_n hx hb dX9_laws_7 rfl (lv_at hl 0 rfl) ?_
  refine lv_if_eq (tgt := 13) hx hb dX9_laws_8 (by decide) (fun c8 => ?_) (fun c8 => ?_)
  · replace hf := ow_if_t c8 hf
    refine lv_aload_n hx hb dX9_laws_13 rfl (lv_at hl 1 rfl) ?_
    refine ow_getV (ci := 9) (C := RX9) (T := TX9) (N := 41) hx hb hts hown hG hW ow_i56 (by decide) rfl hinX9 12 (by decide) (fk := 0) rfl (hts (.fieldLink RX9 91 "FiftyOneCardsModel" "rule" "I") (by decide +kernel)) (v := .int (σ_3.1 56 12)) rfl dX9_laws_14 ?_
    refine ow_topi hf (fun x4_17 hf => ?_)
    refine lv_istore (lv' := [(4, .int x4_17), (3, .int r_3), (0, .ref (ow_ad Z 56)), (1, .int a1), (2, .int a2)]) hx hb dX9_laws_17 hl (by decide) rfl (fun ls hl => ?_)
    refine lv_iconst (v := 0) hx hb dX9_laws_19 (by decide) ?_
    refine lv_istore (lv' := [(5, .int (0 : Int32)), (4, .int x4_17), (3, .int r_3), (0, .ref (ow_ad Z 56)), (1, .int a1), (2, .int a2)]) hx hb dX9_laws_20 hl (by decide) rfl (fun ls hl => ?_)
    refine lv_iconst (v := 0) hx hb dX9_laws_22 (by decide) ?_
    refine lv_istore (lv' := [(6, .int (0 : Int32)), (5, .int (0 : Int32)), (4, .int x4_17), (3, .int r_3), (0, .ref (ow_ad Z 56)), (1, .int a1), (2, .int a2)]) hx hb dX9_laws_23 hl (by decide) rfl (fun ls hl => ?_)
    exact hJ25 fu a1 a2 x4_17 (0 : Int32) (0 : Int32) σ_3 _ _ _ hf hW (lv_sub hl [4, 5, 6, 2, 1, 0] rfl)
  · replace hf := ow_if_f c8 hf
    refine lv_iload_n hx hb dX9_laws_11 rfl (lv_at hl 0 rfl) ?_
    exact ow_iret hx hb hr hW hf dX9_laws_12 hlocks

set_option maxHeartbeats 40000000 in
set_option maxRecDepth 100000 in
theorem c_X9_whose (l : Launch) (Z : ow_Z) (fu : Nat) (a1 : Int32) (σ : ow_S) (rr : Int32) (σr : ow_S) (hf : f_X9_whose fu a1 σ = some (rr, σr)) : Met l yX9_whose wsX9_whose { frames := 8, cells := 0, slots := 0, locals := 225 } (ow_Pc Z 56 20 [.ref (ow_ad Z 56), .int a1] σ) (ow_Qi Z 56 20 rr σr) 0 0 (ow_A Z 56 20) := by
  refine Met.ofW (cc := cX9_whose) (maxL := 5) (ret := (some .int)) (by decide) rfl ?_
  intro p e s m args below meth c s₁ B hml hv
  obtain ⟨hav, hB⟩ := hv
  obtain ⟨hG, hW⟩ := ow_begin hB
  have hx := B.exec
  have hb := B.bytes
  have hr := B.returns
  have hts := atoms_spec (ws := wsX9_whose) B.pre
  have hown : s.vm.findClass RX9 = some m.cls := findClass_of_methodNamed B.named
  have hlocks := B.notSynchronized
  have hinX9 : ∀ w ∈ wsX90, w ∈ wsX9_whose := by decide +kernel
  have hJ46 : ∀ (k17 : Int32 → Int32 → Int32 → ow_S → Option (Int32 × ow_S)) (hk17 : ∀ (x1 : Int32) (x3 : Int32) (x4 : Int32) (σ : ow_S) (H : Heap) (locs : List Loc) (ls : Array Slot), k17 x1 x3 x4 σ = some (rr, σr) → ow_Wd Z 56 20 σ s H locs → lv_has ls 5 [(0, .ref (ow_ad Z 56)), (1, .int x1), (3, .int x3), (4, .int x4)] → W p l e (headSpec wsX9_whose { frames := 8, cells := 0, slots := 0, locals := 225 }).room s m args below meth c H locs 0 0 (MQ below (ow_Qi Z 56 20 rr σr) args s 0 0 (ow_A Z 56 20)) (F0 m 17 ls [])), ∀ (x1 : Int32) (x4 : Int32) (s0 : Int32) (s1 : Int32) (σ : ow_S) (H : Heap) (locs : List Loc) (ls : Array Slot), L_X9_whose_46 fu k17 x1 x4 s0 s1 σ = some (rr, σr) → ow_Wd Z 56 20 σ s H locs → lv_has ls 5 [(0, .ref (ow_ad Z 56)), (1, .int x1), (4, .int x4)] → W p l e (headSpec wsX9_whose { frames := 8, cells := 0, slots := 0, locals := 225 }).room s m args below meth c H locs 0 0 (MQ below (ow_Qi Z 56 20 rr σr) args s 0 0 (ow_A Z 56 20)) (F0 m 46 ls [.int s1, .int s0]) := by
    intro k17 hk17 x1 x4 s0 s1 σ H locs ls hf hW hl
    unfold L_X9_whose_46 at hf
    refine lv_ior hx hb dX9_whose_46 ?_
    refine ow_topi hf (fun x3_47 hf => ?_)
    refine lv_istore_n (lv' := [(3, .int x3_47), (0, .ref (ow_ad Z 56)), (1, .int x1), (4, .int x4)]) hx hb dX9_whose_47 rfl hl (by decide) rfl (fun ls hl => ?_)
    refine ow_iinc (d := 1) (lv' := fun z => [(4, .int z), (3, .int x3_47), (0, .ref (ow_ad Z 56)), (1, .int x1)]) hx hb hf dX9_whose_48 hl (k := 3) rfl (by decide) (by decide) (fun z => rfl) (fun x4_48 hf ls hl => ?_)
    refine lv_goto (tgt := 17) hx hb dX9_whose_51 (by decide) ?_
    exact hk17 x1 x3_47 x4_48 σ _ _ _ hf hW (lv_sub hl [2, 3, 1, 0] rfl)
  have hJ17 : ∀ (fn : Nat), ∀ (x1 : Int32) (x3 : Int32) (x4 : Int32) (σ : ow_S) (H : Heap) (locs : List Loc) (ls : Array Slot), L_X9_whose_17 fu fn x1 x3 x4 σ = some (rr, σr) → ow_Wd Z 56 20 σ s H locs → lv_has ls 5 [(0, .ref (ow_ad Z 56)), (1, .int x1), (3, .int x3), (4, .int x4)] → W p l e (headSpec wsX9_whose { frames := 8, cells := 0, slots := 0, locals := 225 }).room s m args below meth c H locs 0 0 (MQ below (ow_Qi Z 56 20 rr σr) args s 0 0 (ow_A Z 56 20)) (F0 m 17 ls []) := by
    intro fn
    induction fn with
    | zero => intro x1 x3 x4 σ H locs ls hf hW hl; simp [L_X9_whose_17] at hf
    | succ fn ih =>
      intro x1 x3 x4 σ H locs ls hf hW hl
      rw [L_X9_whose_17] at hf
      refine lv_iload hx hb dX9_whose_17 (lv_at hl 3 rfl) ?_
      refine lv_aload_n hx hb dX9_whose_19 rfl (lv_at hl 0 rfl) ?_
      refine ow_getV (ci := 9) (C := RX9) (T := TX9) (N := 41) hx hb hts hown hG hW ow_i56 (by decide) rfl hinX9 3 (by decide) (fk := 0) rfl (hts (.fieldLink RX9 82 "FiftyOneCardsModel" "heads" "I") (by decide +kernel)) (v := .int (σ.1 56 3)) rfl dX9_whose_20 ?_
      refine lv_icmp_ge (tgt := 54) hx hb dX9_whose_23 (by decide) (fun c23 => ?_) (fun c23 => ?_)
      · replace hf := ow_if_t c23 hf
        refine lv_iload_n hx hb dX9_whose_54 rfl (lv_at hl 2 rfl) ?_
        exact ow_iret hx hb hr hW hf dX9_whose_55 hlocks
      · replace hf := ow_if_f c23 hf
        refine lv_iload_n hx hb dX9_whose_26 rfl (lv_at hl 2 rfl) ?_
        refine lv_aload_n hx hb dX9_whose_27 rfl (lv_at hl 0 rfl) ?_
        refine lv_iload_n hx hb dX9_whose_28 rfl (lv_at hl 1 rfl) ?_
        refine lv_iload hx hb dX9_whose_29 (lv_at hl 3 rfl) ?_
        obtain ⟨r_31, σ_31, hc31, hf⟩ := ow_cl_i hf
        refine ow_calli (va_runV (As := [.int x1, .int x4]) (rest := [.int x3]) ⟨hx, hb, hml, hown, hts⟩ (c_X9_unlike l Z fu x1 x4 σ r_31 σ_31 hc31) (cwV 2 hts gX9_whose_X9_unlike rfl rfl rfl (by decide +kernel) ⟨Nat.le_of_ble_eq_true rfl, Nat.le_of_ble_eq_true rfl⟩) (ow_preV hG hW ow_i56 (by decide) rfl) rfl rfl hl.1 rfl (lv_room (Nat.le_of_ble_eq_true rfl)) dX9_whose_31 ⟨Nat.zero_le _, Nat.zero_le _⟩) hW (fun H locs hW => ?_)
        refine lv_iconst (v := -1) hx hb dX9_whose_34 (by decide) ?_
        refine lv_icmp_ne (tgt := 45) hx hb dX9_whose_35 (by decide) (fun c35 => ?_) (fun c35 => ?_)
        · replace hf := ow_if_f c35 hf
          refine lv_iconst (v := 0) hx hb dX9_whose_45 (by decide) ?_
          exact hJ46 (L_X9_whose_17 fu fn) ih x1 x4 x3 (0 : Int32) σ_31 _ _ _ hf hW (lv_sub hl [0, 1, 3] rfl)
        · replace hf := ow_if_t c35 hf
          refine lv_iconst (v := 1) hx hb dX9_whose_38 (by decide) ?_
          refine lv_iload hx hb dX9_whose_39 (lv_at hl 3 rfl) ?_
          refine lv_ishl hx hb dX9_whose_41 ?_
          refine lv_goto (tgt := 46) hx hb dX9_whose_42 (by decide) ?_
          exact hJ46 (L_X9_whose_17 fu fn) ih x1 x4 x3 ((1 : Int32) <<< (x4 &&& 31)) σ_31 _ _ _ hf hW (lv_sub hl [0, 1, 3] rfl)
  have hl := lv_entry ([.ref (ow_ad Z 56), .int a1]) (n := 5) (Nat.le_of_ble_eq_true rfl)
  refine W.eq (g2 := F0 m 0 ((lg_sl ([.ref (ow_ad Z 56), .int a1]) ++ List.replicate (5 - (lg_sl ([.ref (ow_ad Z 56), .int a1])).length) Slot.unset).toArray) []) (by rw [hav]; exact lg_entry_eq _ _ _) ?_
  generalize (lg_sl ([.ref (ow_ad Z 56), .int a1]) ++ List.replicate (5 - (lg_sl ([.ref (ow_ad Z 56), .int a1])).length) Slot.unset).toArray = ls at hl ⊢
  have hl : lv_has ls 5 [(0, .ref (ow_ad Z 56)), (1, .int a1)] := hl
  unfold f_X9_whose at hf
  refine lv_aload_n hx hb dX9_whose_0 rfl (lv_at hl 0 rfl) ?_
  refine lv_iload_n hx hb dX9_whose_1 rfl (lv_at hl 1 rfl) ?_
  obtain ⟨r_2, σ_2, hc2, hf⟩ := ow_cl_i hf
  refine ow_calli (va_runV (As := [.int a1]) (rest := []) ⟨hx, hb, hml, hown, hts⟩ (c_X9_sheetWrong l Z fu a1 σ r_2 σ_2 hc2) (cwV 1 hts gX9_whose_X9_sheetWrong rfl rfl rfl (by decide +kernel) ⟨Nat.le_of_ble_eq_true rfl, Nat.le_of_ble_eq_true rfl⟩) (ow_preV hG hW ow_i56 (by decide) rfl) rfl rfl hl.1 rfl (lv_room (Nat.le_of_ble_eq_true rfl)) dX9_whose_2 ⟨Nat.zero_le _, Nat.zero_le _⟩) hW (fun H locs hW => ?_)
  refine lv_istore_n (lv' := [(2, .int r_2), (0, .ref (ow_ad Z 56)), (1, .int a1)]) hx hb dX9_whose_5 rfl hl (by decide) rfl (fun ls hl => ?_)
  refine lv_iload_n hx hb dX9_whose_6 rfl (lv_at hl 0 rfl) ?_
  refine lv_if_eq (tgt := 12) hx hb dX9_whose_7 (by decide) (fun c7 => ?_) (fun c7 => ?_)
  · replace hf := ow_if_t c7 hf
    refine lv_iconst (v := 0) hx hb dX9_whose_12 (by decide) ?_
    refine lv_istore_n (lv' := [(3, .int (0 : Int32)), (2, .int r_2), (0, .ref (ow_ad Z 56)), (1, .int a1)]) hx hb dX9_whose_13 rfl hl (by decide) rfl (fun ls hl => ?_)
    refine lv_iconst (v := 0) hx hb dX9_whose_14 (by decide) ?_
    refine lv_istore (lv' := [(4, .int (0 : Int32)), (3, .int (0 : Int32)), (2, .int r_2), (0, .ref (ow_ad Z 56)), (1, .int a1)]) hx hb dX9_whose_15 hl (by decide) rfl (fun ls hl => ?_)
    exact hJ17 fu a1 (0 : Int32) (0 : Int32) σ_2 _ _ _ hf hW (lv_sub hl [3, 4, 1, 0] rfl)
  · replace hf := ow_if_f c7 hf
    refine lv_iload_n hx hb dX9_whose_10 rfl (lv_at hl 0 rfl) ?_
    exact ow_iret hx hb hr hW hf dX9_whose_11 hlocks
set_option maxHeartbeats 40000000 in
set_option maxRecDepth 100000 in
theorem c_X9_film (l : Launch) (Z : ow_Z) (fu : Nat) (a1 : Int32) (a2 : Int32) (a3 : Int32) (σ : ow_S) (rr : Int32) (σr : ow_S) (hf : f_X9_film fu a1 a2 a3 σ = some (rr, σr)) : Met l yX9_film wsX9_film { frames := 7, cells := 0, slots := 0, locals := 202 } (ow_Pc Z 56 20 [.ref (ow_ad Z 56), .int a1, .int a2, .int a3] σ) (ow_Qi Z 56 20 rr σr) 0 0 (ow_A Z 56 20) := by
  refine Met.ofW (cc := cX9_film) (maxL := 6) (ret := (some .int)) (by decide) rfl ?_
  intro p e s m args below meth c s₁ B hml hv
  obtain ⟨hav, hB⟩ := hv
  obtain ⟨hG, hW⟩ := ow_begin hB
  have hx := B.exec
  have hb := B.bytes
  have hr := B.returns
  have hts := atoms_spec (ws := wsX9_film) B.pre
  have hown : s.vm.findClass RX9 = some m.cls := findClass_of_methodNamed B.named
  have hlocks := B.notSynchronized
  have hinX9 : ∀ w ∈ wsX90, w ∈ wsX9_film := by decide +kernel
  have hJ93 : ∀ (k61 : Int32 → Int32 → Int32 → Int32 → ow_S → Option (Int32 × ow_S)) (hk61 : ∀ (x1 : Int32) (x2 : Int32) (x3 : Int32) (x4 : Int32) (σ : ow_S) (H : Heap) (locs : List Loc) (ls : Array Slot), k61 x1 x2 x3 x4 σ = some (rr, σr) → ow_Wd Z 56 20 σ s H locs → lv_has ls 6 [(0, .ref (ow_ad Z 56)), (1, .int x1), (2, .int x2), (3, .int x3), (4, .int x4)] → W p l e (headSpec wsX9_film { frames := 7, cells := 0, slots := 0, locals := 202 }).room s m args below meth c H locs 0 0 (MQ below (ow_Qi Z 56 20 rr σr) args s 0 0 (ow_A Z 56 20)) (F0 m 61 ls [])), ∀ (x1 : Int32) (x2 : Int32) (x3 : Int32) (x4 : Int32) (x5 : Int32) (σ : ow_S) (H : Heap) (locs : List Loc) (ls : Array Slot), L_X9_film_93 fu k61 x1 x2 x3 x4 x5 σ = some (rr, σr) → ow_Wd Z 56 20 σ s H locs → lv_has ls 6 [(0, .ref (ow_ad Z 56)), (1, .int x1), (2, .int x2), (3, .int x3), (4, .int x4), (5, .int x5)] → W p l e (headSpec wsX9_film { frames := 7, cells := 0, slots := 0, locals := 202 }).room s m args below meth c H locs 0 0 (MQ below (ow_Qi Z 56 20 rr σr) args s 0 0 (ow_A Z 56 20)) (F0 m 93 ls []) := by
    intro k61 hk61 x1 x2 x3 x4 x5 σ H locs ls hf hW hl
    unfold L_X9_film_93 at hf
    refine lv_aload_n hx hb dX9_film_93 rfl (lv_at hl 0 rfl) ?_
    refine ow_getV (ci := 9) (C := RX9) (T := TX9) (N := 41) hx hb hts hown hG hW ow_i56 (by decide) rfl hinX9 22 (by decide) (fk := 2) rfl (hts (.fieldLink RX9 47 "FiftyOneCardsModel" "cells" "[I") (by decide +kernel)) (v := .ref (ow_ad Z 68)) (ow_vR hW ow_i56.1 ow_i56.2.1 rfl) dX9_film_94 ?_
    refine lv_bipush (v := 40) hx hb dX9_film_97 (by decide) ?_
    refine lv_iload_n hx hb dX9_film_99 rfl (lv_at hl 1 rfl) ?_
    refine lv_imul hx hb dX9_film_100 ?_
    refine lv_iload hx hb dX9_film_101 (lv_at hl 4 rfl) ?_
    refine lv_iadd hx hb dX9_film_103 ?_
    refine lv_iload hx hb dX9_film_104 (lv_at hl 5 rfl) ?_
    obtain ⟨q106, hf⟩ := ow_ck_i hf
    refine ow_ist (q := (((40 : Int32) * x1) + x4).toNatClampNeg) hx hb hG hW ow_i68 rfl q106 rfl hf dX9_film_106 (fun σ_106 H locs hf hW => ?_)
    refine ow_iinc (d := 1) (lv' := fun z => [(4, .int z), (0, .ref (ow_ad Z 56)), (1, .int x1), (2, .int x2), (3, .int x3), (5, .int x5)]) hx hb hf dX9_film_107 hl (k := 4) rfl (by decide) (by decide) (fun z => rfl) (fun x4_107 hf ls hl => ?_)
    refine lv_goto (tgt := 61) hx hb dX9_film_110 (by decide) ?_
    exact hk61 x1 x2 x3 x4_107 σ_106 _ _ _ hf hW (lv_sub hl [1, 2, 3, 4, 0] rfl)
  have hJ61 : ∀ (fn : Nat), ∀ (x1 : Int32) (x2 : Int32) (x3 : Int32) (x4 : Int32) (σ : ow_S) (H : Heap) (locs : List Loc) (ls : Array Slot), L_X9_film_61 fu fn x1 x2 x3 x4 σ = some (rr, σr) → ow_Wd Z 56 20 σ s H locs → lv_has ls 6 [(0, .ref (ow_ad Z 56)), (1, .int x1), (2, .int x2), (3, .int x3), (4, .int x4)] → W p l e (headSpec wsX9_film { frames := 7, cells := 0, slots := 0, locals := 202 }).room s m args below meth c H locs 0 0 (MQ below (ow_Qi Z 56 20 rr σr) args s 0 0 (ow_A Z 56 20)) (F0 m 61 ls []) := by
    intro fn
    induction fn with
    | zero => intro x1 x2 x3 x4 σ H locs ls hf hW hl; simp [L_X9_film_61] at hf
    | succ fn ih =>
      intro x1 x2 x3 x4 σ H locs ls hf hW hl
      rw [L_X9_film_61] at hf
      refine lv_iload hx hb dX9_film_61 (lv_at hl 4 rfl) ?_
      refine lv_bipush (v := 40) hx hb dX9_film_63 (by decide) ?_
      refine lv_icmp_ge (tgt := 113) hx hb dX9_film_65 (by decide) (fun c65 => ?_) (fun c65 => ?_)
      · replace hf := ow_if_t c65 hf
        refine lv_iload_n hx hb dX9_film_113 rfl (lv_at hl 3 rfl) ?_
        exact ow_iret hx hb hr hW hf dX9_film_114 hlocks
      · replace hf := ow_if_f c65 hf
        refine lv_iconst (v := 0) hx hb dX9_film_68 (by decide) ?_
        refine lv_istore (lv' := [(5, .int (0 : Int32)), (0, .ref (ow_ad Z 56)), (1, .int x1), (2, .int x2), (3, .int x3), (4, .int x4)]) hx hb dX9_film_69 hl (by decide) rfl (fun ls hl => ?_)
        refine lv_iload hx hb dX9_film_71 (lv_at hl 5 rfl) ?_
        refine lv_iload_n hx hb dX9_film_73 rfl (lv_at hl 4 rfl) ?_
        refine lv_icmp_ge (tgt := 93) hx hb dX9_film_74 (by decide) (fun c74 => ?_) (fun c74 => ?_)
        · replace hf := ow_if_t c74 hf
          exact hJ93 (L_X9_film_61 fu fn) ih x1 x2 x3 x4 (0 : Int32) σ _ _ _ hf hW (lv_sub hl [1, 2, 3, 4, 5, 0] rfl)
        · replace hf := ow_if_f c74 hf
          refine lv_aload_n hx hb dX9_film_77 rfl (lv_at hl 1 rfl) ?_
          refine lv_iload hx hb dX9_film_78 (lv_at hl 5 rfl) ?_
          refine lv_iconst (v := 1) hx hb dX9_film_80 (by decide) ?_
          refine lv_iadd hx hb dX9_film_81 ?_
          refine lv_iconst (v := 0) hx hb dX9_film_82 (by decide) ?_
          obtain ⟨σ_83, hc83, hf⟩ := ow_cv_i hf
          refine ow_callv (va_runV (As := [.int (x4 + (1 : Int32)), .int (0 : Int32)]) (rest := []) ⟨hx, hb, hml, hown, hts⟩ (c_X9_laysBut l Z fu (x4 + (1 : Int32)) (0 : Int32) σ σ_83  hc83) (cwV 2 hts gX9_film_X9_laysBut rfl rfl rfl (by decide +kernel) ⟨Nat.le_of_ble_eq_true rfl, Nat.le_of_ble_eq_true rfl⟩) (ow_preV hG hW ow_i56 (by decide) rfl) rfl rfl hl.1 rfl (lv_room (Nat.le_of_ble_eq_true rfl)) dX9_film_83 ⟨Nat.zero_le _, Nat.zero_le _⟩) hW (fun H locs hW => ?_)
          refine lv_aload_n hx hb dX9_film_86 rfl (lv_at hl 1 rfl) ?_
          refine lv_iload_n hx hb dX9_film_87 rfl (lv_at hl 3 rfl) ?_
          obtain ⟨r_88, σ_88, hc88, hf⟩ := ow_cl_i hf
          refine ow_calli (va_runV (As := [.int x2]) (rest := []) ⟨hx, hb, hml, hown, hts⟩ (c_X9_saysOf l Z fu x2 σ_83 r_88 σ_88 hc88) (cwV 1 hts gX9_film_X9_saysOf rfl rfl rfl (by decide +kernel) ⟨Nat.le_of_ble_eq_true rfl, Nat.le_of_ble_eq_true rfl⟩) (ow_preV hG hW ow_i56 (by decide) rfl) rfl rfl hl.1 rfl (lv_room (Nat.le_of_ble_eq_true rfl)) dX9_film_88 ⟨Nat.zero_le _, Nat.zero_le _⟩) hW (fun H locs hW => ?_)
          refine lv_istore (lv' := [(5, .int r_88), (0, .ref (ow_ad Z 56)), (1, .int x1), (2, .int x2), (3, .int x3), (4, .int x4)]) hx hb dX9_film_91 hl (by decide) rfl (fun ls hl => ?_)
          exact hJ93 (L_X9_film_61 fu fn) ih x1 x2 x3 x4 r_88 σ_88 _ _ _ hf hW (lv_sub hl [1, 2, 3, 4, 5, 0] rfl)
  have hl := lv_entry ([.ref (ow_ad Z 56), .int a1, .int a2, .int a3]) (n := 6) (Nat.le_of_ble_eq_true rfl)
  refine W.eq (g2 := F0 m 0 ((lg_sl ([.ref (ow_ad Z 56), .int a1, .int a2, .int a3]) ++ List.replicate (6 - (lg_sl ([.ref (ow_ad Z 56), .int a1, .int a2, .int a3])).length) Slot.unset).toArray) []) (by rw [hav]; exact lg_entry_eq _ _ _) ?_
  generalize (lg_sl ([.ref (ow_ad Z 56), .int a1, .int a2, .int a3]) ++ List.replicate (6 - (lg_sl ([.ref (ow_ad Z 56), .int a1, .int a2, .int a3])).length) Slot.unset).toArray = ls at hl ⊢
  have hl : lv_has ls 6 [(0, .ref (ow_ad Z 56)), (1, .int a1), (2, .int a2), (3, .int a3)] := hl
  unfold f_X9_film at hf
  refine lv_iload_n hx hb dX9_film_0 rfl (lv_at hl 1 rfl) ?_
  refine lv_iconst (v := 0) hx hb dX9_film_1 (by decide) ?_
  refine lv_iconst (v := 3) hx hb dX9_film_2 (by decide) ?_
  obtain ⟨r_3, σ_3, hc3, hf⟩ := ow_cl_i hf
  refine ow_callz (va_runS (As := [.int a1, .int (0 : Int32), .int (3 : Int32)]) (rest := []) ⟨hx, hb, hml, hown, hts⟩ (c_X9_in l Z fu a1 (0 : Int32) (3 : Int32) σ r_3 σ_3 hc3) (va_cwS 3 hts gX9_film_X9_in rfl rfl rfl (by decide +kernel) ⟨Nat.le_of_ble_eq_true rfl, Nat.le_of_ble_eq_true rfl⟩) (ow_preS hG hW) rfl rfl hl.1 rfl (lv_room (Nat.le_of_ble_eq_true rfl)) dX9_film_3 ⟨Nat.zero_le _, Nat.zero_le _⟩) hW (fun b3 H locs hW => ?_)
  refine lv_if_ne (tgt := 12) hx hb dX9_film_6 (by decide) (fun c6 => ?_) (fun c6 => ?_)
  · replace hf := ow_if_f c6 hf
    refine lv_aload_n hx hb dX9_film_12 rfl (lv_at hl 0 rfl) ?_
    refine lv_iload_n hx hb dX9_film_13 rfl (lv_at hl 2 rfl) ?_
    obtain ⟨r_14, σ_14, hc14, hf⟩ := ow_cl_i hf
    refine ow_callz (va_runV (As := [.int a2]) (rest := []) ⟨hx, hb, hml, hown, hts⟩ (c_X9_isHead l Z fu a2 σ_3 r_14 σ_14 hc14) (cwV 1 hts gX9_film_X9_isHead rfl rfl rfl (by decide +kernel) ⟨Nat.le_of_ble_eq_true rfl, Nat.le_of_ble_eq_true rfl⟩) (ow_preV hG hW ow_i56 (by decide) rfl) rfl rfl hl.1 rfl (lv_room (Nat.le_of_ble_eq_true rfl)) dX9_film_14 ⟨Nat.zero_le _, Nat.zero_le _⟩) hW (fun b14 H locs hW => ?_)
    refine lv_if_ne (tgt := 23) hx hb dX9_film_17 (by decide) (fun c17 => ?_) (fun c17 => ?_)
    · replace hf := ow_if_f c17 hf
      refine lv_iload_n hx hb dX9_film_23 rfl (lv_at hl 3 rfl) ?_
      refine lv_iconst (v := 0) hx hb dX9_film_24 (by decide) ?_
      refine lv_aload_n hx hb dX9_film_25 rfl (lv_at hl 0 rfl) ?_
      refine ow_getV (ci := 9) (C := RX9) (T := TX9) (N := 41) hx hb hts hown hG hW ow_i56 (by decide) rfl hinX9 0 (by decide) (fk := 0) rfl (hts (.fieldLink RX9 7 "FiftyOneCardsModel" "pack" "I") (by decide +kernel)) (v := .int (σ_14.1 56 0)) rfl dX9_film_26 ?_
      refine lv_iconst (v := 0) hx hb dX9_film_29 (by decide) ?_
      refine lv_bipush (v := 40) hx hb dX9_film_30 (by decide) ?_
      obtain ⟨r_32, σ_32, hc32, hf⟩ := ow_cl_i hf
      refine ow_calli (va_runS (As := [.int (σ_14.1 56 0), .int (0 : Int32), .int (40 : Int32)]) (rest := [.int (0 : Int32), .int a3]) ⟨hx, hb, hml, hown, hts⟩ (c_X9_within l Z fu (σ_14.1 56 0) (0 : Int32) (40 : Int32) σ_14 r_32 σ_32 hc32) (va_cwS 3 hts gX9_film_X9_within rfl rfl rfl (by decide +kernel) ⟨Nat.le_of_ble_eq_true rfl, Nat.le_of_ble_eq_true rfl⟩) (ow_preS hG hW) rfl rfl hl.1 rfl (lv_room (Nat.le_of_ble_eq_true rfl)) dX9_film_32 ⟨Nat.zero_le _, Nat.zero_le _⟩) hW (fun H locs hW => ?_)
      obtain ⟨r_35, σ_35, hc35, hf⟩ := ow_cl_i hf
      refine ow_callz (va_runS (As := [.int a3, .int (0 : Int32), .int r_32]) (rest := []) ⟨hx, hb, hml, hown, hts⟩ (c_X9_in l Z fu a3 (0 : Int32) r_32 σ_32 r_35 σ_35 hc35) (va_cwS 3 hts gX9_film_X9_in rfl rfl rfl (by decide +kernel) ⟨Nat.le_of_ble_eq_true rfl, Nat.le_of_ble_eq_true rfl⟩) (ow_preS hG hW) rfl rfl hl.1 rfl (lv_room (Nat.le_of_ble_eq_true rfl)) dX9_film_35 ⟨Nat.zero_le _, Nat.zero_le _⟩) hW (fun b35 H locs hW => ?_)
      refine lv_if_ne (tgt := 44) hx hb dX9_film_38 (by decide) (fun c38 => ?_) (fun c38 => ?_)
      · replace hf := ow_if_f c38 hf
        refine lv_aload_n hx hb dX9_film_44 rfl (lv_at hl 0 rfl) ?_
        refine ow_getV (ci := 9) (C := RX9) (T := TX9) (N := 41) hx hb hts hown hG hW ow_i56 (by decide) rfl hinX9 20 (by decide) (fk := 2) rfl (hts (.fieldLink RX9 41 "FiftyOneCardsModel" "sheetSort" "[I") (by decide +kernel)) (v := .ref (ow_ad Z 66)) (ow_vR hW ow_i56.1 ow_i56.2.1 rfl) dX9_film_45 ?_
        refine lv_iload_n hx hb dX9_film_48 rfl (lv_at hl 1 rfl) ?_
        refine lv_iconst (v := 2) hx hb dX9_film_49 (by decide) ?_
        obtain ⟨q50, hf⟩ := ow_ck_i hf
        refine ow_ist (q := a1.toNatClampNeg) hx hb hG hW ow_i66 rfl q50 rfl hf dX9_film_50 (fun σ_50 H locs hf hW => ?_)
        refine lv_aload_n hx hb dX9_film_51 rfl (lv_at hl 0 rfl) ?_
        refine ow_getV (ci := 9) (C := RX9) (T := TX9) (N := 41) hx hb hts hown hG hW ow_i56 (by decide) rfl hinX9 21 (by decide) (fk := 2) rfl (hts (.fieldLink RX9 44 "FiftyOneCardsModel" "sheetSize" "[I") (by decide +kernel)) (v := .ref (ow_ad Z 67)) (ow_vR hW ow_i56.1 ow_i56.2.1 rfl) dX9_film_52 ?_
        refine lv_iload_n hx hb dX9_film_55 rfl (lv_at hl 1 rfl) ?_
        refine lv_iload_n hx hb dX9_film_56 rfl (lv_at hl 3 rfl) ?_
        obtain ⟨q57, hf⟩ := ow_ck_i hf
        refine ow_ist (q := a1.toNatClampNeg) hx hb hG hW ow_i67 rfl q57 rfl hf dX9_film_57 (fun σ_57 H locs hf hW => ?_)
        refine lv_iconst (v := 0) hx hb dX9_film_58 (by decide) ?_
        refine lv_istore (lv' := [(4, .int (0 : Int32)), (0, .ref (ow_ad Z 56)), (1, .int a1), (2, .int a2), (3, .int a3)]) hx hb dX9_film_59 hl (by decide) rfl (fun ls hl => ?_)
        exact hJ61 fu a1 a2 a3 (0 : Int32) σ_57 _ _ _ hf hW (lv_sub hl [1, 2, 3, 4, 0] rfl)
      · replace hf := ow_if_t c38 hf
        refine lv_bipush (v := -7) hx hb dX9_film_41 (by decide) ?_
        exact ow_iret hx hb hr hW hf dX9_film_43 hlocks
    · replace hf := ow_if_t c17 hf
      refine lv_bipush (v := -5) hx hb dX9_film_20 (by decide) ?_
      exact ow_iret hx hb hr hW hf dX9_film_22 hlocks
  · replace hf := ow_if_t c6 hf
    refine lv_bipush (v := -2) hx hb dX9_film_9 (by decide) ?_
    exact ow_iret hx hb hr hW hf dX9_film_11 hlocks
set_option maxHeartbeats 40000000 in
set_option maxRecDepth 100000 in
theorem c_X9_lots (l : Launch) (Z : ow_Z) (fu : Nat) (a1 : Int32) (σ : ow_S) (rr : Int32) (σr : ow_S) (hf : f_X9_lots fu a1 σ = some (rr, σr)) : Met l yX9_lots wsX9_lots { frames := 2, cells := 0, slots := 0, locals := 84 } (ow_Pc Z 56 20 [.ref (ow_ad Z 56), .int a1] σ) (ow_Qi Z 56 20 rr σr) 0 0 (ow_A Z 56 20) := by
  refine Met.ofW (cc := cX9_lots) (maxL := 8) (ret := (some .int)) (by decide) rfl ?_
  intro p e s m args below meth c s₁ B hml hv
  obtain ⟨hav, hB⟩ := hv
  obtain ⟨hG, hW⟩ := ow_begin hB
  have hx := B.exec
  have hb := B.bytes
  have hr := B.returns
  have hts := atoms_spec (ws := wsX9_lots) B.pre
  have hown : s.vm.findClass RX9 = some m.cls := findClass_of_methodNamed B.named
  have hlocks := B.notSynchronized
  have hinX9 : ∀ w ∈ wsX90, w ∈ wsX9_lots := by decide +kernel
  have hJ40 : ∀ (fn : Nat), ∀ (x2 : Int64) (x4 : Int32) (x5 : Int32) (σ : ow_S) (H : Heap) (locs : List Loc) (ls : Array Slot), L_X9_lots_40 fu fn x2 x4 x5 σ = some (rr, σr) → ow_Wd Z 56 20 σ s H locs → lv_has ls 8 [(0, .ref (ow_ad Z 56)), (2, .long x2), (4, .int x4), (5, .int x5)] → W p l e (headSpec wsX9_lots { frames := 2, cells := 0, slots := 0, locals := 84 }).room s m args below meth c H locs 0 0 (MQ below (ow_Qi Z 56 20 rr σr) args s 0 0 (ow_A Z 56 20)) (F0 m 40 ls []) := by
    intro fn
    induction fn with
    | zero => intro x2 x4 x5 σ H locs ls hf hW hl; simp [L_X9_lots_40] at hf
    | succ fn ih =>
      intro x2 x4 x5 σ H locs ls hf hW hl
      rw [L_X9_lots_40] at hf
      refine lv_iload hx hb dX9_lots_40 (lv_at hl 3 rfl) ?_
      refine lv_if_le (tgt := 103) hx hb dX9_lots_42 (by decide) (fun c42 => ?_) (fun c42 => ?_)
      · replace hf := ow_if_t c42 hf
        refine lv_iload hx hb dX9_lots_103 (lv_at hl 2 rfl) ?_
        exact ow_iret hx hb hr hW hf dX9_lots_105 hlocks
      · replace hf := ow_if_f c42 hf
        refine lv_lload_n hx hb dX9_lots_45 rfl (lv_at hl 1 rfl) ?_
        refine lv_ldc2 (v := 48271) hx hb hown (hts (.constantLong RX9 278 (48271)) (by decide +kernel)) dX9_lots_46 ?_
        refine lv_lmul hx hb dX9_lots_49 ?_
        refine lv_ldc2 (v := 2147483647) hx hb hown (hts (.constantLong RX9 280 (2147483647)) (by decide +kernel)) dX9_lots_50 ?_
        refine ow_r_lrem hx hb dX9_lots_53 (by decide) ?_
        refine ow_topl hf (fun x2_54 hf => ?_)
        refine lv_lstore_n (lv' := [(2, .long x2_54), (0, .ref (ow_ad Z 56)), (4, .int x4), (5, .int x5)]) hx hb dX9_lots_54 rfl hl (by decide) rfl (fun ls hl => ?_)
        refine lv_lload_n hx hb dX9_lots_55 rfl (lv_at hl 0 rfl) ?_
        refine lv_iload hx hb dX9_lots_56 (lv_at hl 3 rfl) ?_
        refine lv_iconst (v := 1) hx hb dX9_lots_58 (by decide) ?_
        refine lv_iadd hx hb dX9_lots_59 ?_
        refine lv_i2l (v := ((x5 + (1 : Int32)).toInt64)) hx hb dX9_lots_60 rfl ?_
        obtain ⟨q61, hf⟩ := ow_ck_i hf
        refine ow_r_lrem hx hb dX9_lots_61 q61 ?_
        refine lv_l2i (v := ((ow_lrem x2_54 ((x5 + (1 : Int32)).toInt64)).toInt32)) hx hb dX9_lots_62 rfl ?_
        refine ow_topi hf (fun x6_63 hf => ?_)
        refine lv_istore (lv' := [(6, .int x6_63), (2, .long x2_54), (0, .ref (ow_ad Z 56)), (4, .int x4), (5, .int x5)]) hx hb dX9_lots_63 hl (by decide) rfl (fun ls hl => ?_)
        refine lv_aload_n hx hb dX9_lots_65 rfl (lv_at hl 2 rfl) ?_
        refine ow_getV (ci := 9) (C := RX9) (T := TX9) (N := 41) hx hb hts hown hG hW ow_i56 (by decide) rfl hinX9 35 (by decide) (fk := 2) rfl (hts (.fieldLink RX9 65 "FiftyOneCardsModel" "goes" "[I") (by decide +kernel)) (v := .ref (ow_ad Z 74)) (ow_vR hW ow_i56.1 ow_i56.2.1 rfl) dX9_lots_66 ?_
        refine lv_iload hx hb dX9_lots_69 (lv_at hl 4 rfl) ?_
        obtain ⟨q71, hf⟩ := ow_ck_i hf
        refine ow_ild (q := x5.toNatClampNeg) hx hb hG hW ow_i74 rfl q71 rfl dX9_lots_71 ?_
        refine ow_topi hf (fun x7_72 hf => ?_)
        refine lv_istore (lv' := [(7, .int x7_72), (6, .int x6_63), (2, .long x2_54), (0, .ref (ow_ad Z 56)), (4, .int x4), (5, .int x5)]) hx hb dX9_lots_72 hl (by decide) rfl (fun ls hl => ?_)
        refine lv_aload_n hx hb dX9_lots_74 rfl (lv_at hl 3 rfl) ?_
        refine ow_getV (ci := 9) (C := RX9) (T := TX9) (N := 41) hx hb hts hown hG hW ow_i56 (by decide) rfl hinX9 35 (by decide) (fk := 2) rfl (hts (.fieldLink RX9 65 "FiftyOneCardsModel" "goes" "[I") (by decide +kernel)) (v := .ref (ow_ad Z 74)) (ow_vR hW ow_i56.1 ow_i56.2.1 rfl) dX9_lots_75 ?_
        refine lv_iload hx hb dX9_lots_78 (lv_at hl 5 rfl) ?_
        refine lv_aload_n hx hb dX9_lots_80 rfl (lv_at hl 3 rfl) ?_
        refine ow_getV (ci := 9) (C := RX9) (T := TX9) (N := 41) hx hb hts hown hG hW ow_i56 (by decide) rfl hinX9 35 (by decide) (fk := 2) rfl (hts (.fieldLink RX9 65 "FiftyOneCardsModel" "goes" "[I") (by decide +kernel)) (v := .ref (ow_ad Z 74)) (ow_vR hW ow_i56.1 ow_i56.2.1 rfl) dX9_lots_81 ?_
        refine lv_iload hx hb dX9_lots_84 (lv_at hl 1 rfl) ?_
        obtain ⟨q86, hf⟩ := ow_ck_i hf
        refine ow_ild (q := x6_63.toNatClampNeg) hx hb hG hW ow_i74 rfl q86 rfl dX9_lots_86 ?_
        obtain ⟨q87, hf⟩ := ow_ck_i hf
        refine ow_ist (q := x5.toNatClampNeg) hx hb hG hW ow_i74 rfl q87 rfl hf dX9_lots_87 (fun σ_87 H locs hf hW => ?_)
        refine lv_aload_n hx hb dX9_lots_88 rfl (lv_at hl 3 rfl) ?_
        refine ow_getV (ci := 9) (C := RX9) (T := TX9) (N := 41) hx hb hts hown hG hW ow_i56 (by decide) rfl hinX9 35 (by decide) (fk := 2) rfl (hts (.fieldLink RX9 65 "FiftyOneCardsModel" "goes" "[I") (by decide +kernel)) (v := .ref (ow_ad Z 74)) (ow_vR hW ow_i56.1 ow_i56.2.1 rfl) dX9_lots_89 ?_
        refine lv_iload hx hb dX9_lots_92 (lv_at hl 1 rfl) ?_
        refine lv_iload hx hb dX9_lots_94 (lv_at hl 0 rfl) ?_
        obtain ⟨q96, hf⟩ := ow_ck_i hf
        refine ow_ist (q := x6_63.toNatClampNeg) hx hb hG hW ow_i74 rfl q96 rfl hf dX9_lots_96 (fun σ_96 H locs hf hW => ?_)
        refine ow_iinc (d := -1) (lv' := fun z => [(5, .int z), (7, .int x7_72), (6, .int x6_63), (2, .long x2_54), (0, .ref (ow_ad Z 56)), (4, .int x4)]) hx hb hf dX9_lots_97 hl (k := 5) rfl (by decide) (by decide) (fun z => rfl) (fun x5_97 hf ls hl => ?_)
        refine lv_goto (tgt := 40) hx hb dX9_lots_100 (by decide) ?_
        exact ih x2_54 x4 x5_97 σ_96 _ _ _ hf hW (lv_sub hl [4, 3, 5, 0] rfl)
  have hl := lv_entry ([.ref (ow_ad Z 56), .int a1]) (n := 8) (Nat.le_of_ble_eq_true rfl)
  refine W.eq (g2 := F0 m 0 ((lg_sl ([.ref (ow_ad Z 56), .int a1]) ++ List.replicate (8 - (lg_sl ([.ref (ow_ad Z 56), .int a1])).length) Slot.unset).toArray) []) (by rw [hav]; exact lg_entry_eq _ _ _) ?_
  generalize (lg_sl ([.ref (ow_ad Z 56), .int a1]) ++ List.replicate (8 - (lg_sl ([.ref (ow_ad Z 56), .int a1])).length) Slot.unset).toArray = ls at hl ⊢
  have hl : lv_has ls 8 [(0, .ref (ow_ad Z 56)), (1, .int a1)] := hl
  unfold f_X9_lots at hf
  refine lv_iload_n hx hb dX9_lots_0 rfl (lv_at hl 1 rfl) ?_
  refine lv_i2l (v := (a1.toInt64)) hx hb dX9_lots_1 rfl ?_
  refine lv_lconst (v := 1) hx hb dX9_lots_2 (by decide) ?_
  refine lv_ladd hx hb dX9_lots_3 ?_
  refine lv_ldc2 (v := 48271) hx hb hown (hts (.constantLong RX9 278 (48271)) (by decide +kernel)) dX9_lots_4 ?_
  refine lv_lmul hx hb dX9_lots_7 ?_
  refine lv_ldc2 (v := 2147483647) hx hb hown (hts (.constantLong RX9 280 (2147483647)) (by decide +kernel)) dX9_lots_8 ?_
  refine ow_r_lrem hx hb dX9_lots_11 (by decide) ?_
  refine ow_topl hf (fun x2_12 hf => ?_)
  refine lv_lstore_n (lv' := [(2, .long x2_12), (0, .ref (ow_ad Z 56)), (1, .int a1)]) hx hb dX9_lots_12 rfl hl (by decide) rfl (fun ls hl => ?_)
  refine lv_lload_n hx hb dX9_lots_13 rfl (lv_at hl 0 rfl) ?_
  refine lv_aload_n hx hb dX9_lots_14 rfl (lv_at hl 1 rfl) ?_
  refine ow_getV (ci := 9) (C := RX9) (T := TX9) (N := 41) hx hb hts hown hG hW ow_i56 (by decide) rfl hinX9 0 (by decide) (fk := 0) rfl (hts (.fieldLink RX9 7 "FiftyOneCardsModel" "pack" "I") (by decide +kernel)) (v := .int (σ.1 56 0)) rfl dX9_lots_15 ?_
  refine lv_i2l (v := ((σ.1 56 0).toInt64)) hx hb dX9_lots_18 rfl ?_
  obtain ⟨q19, hf⟩ := ow_ck_i hf
  refine ow_r_lrem hx hb dX9_lots_19 q19 ?_
  refine lv_l2i (v := ((ow_lrem x2_12 ((σ.1 56 0).toInt64)).toInt32)) hx hb dX9_lots_20 rfl ?_
  refine lv_iconst (v := 1) hx hb dX9_lots_21 (by decide) ?_
  refine lv_iadd hx hb dX9_lots_22 ?_
  refine ow_topi hf (fun x4_23 hf => ?_)
  refine lv_istore (lv' := [(4, .int x4_23), (2, .long x2_12), (0, .ref (ow_ad Z 56)), (1, .int a1)]) hx hb dX9_lots_23 hl (by decide) rfl (fun ls hl => ?_)
  refine lv_aload_n hx hb dX9_lots_25 rfl (lv_at hl 2 rfl) ?_
  refine lv_iload hx hb dX9_lots_26 (lv_at hl 0 rfl) ?_
  refine lv_iconst (v := 0) hx hb dX9_lots_28 (by decide) ?_
  obtain ⟨σ_29, hc29, hf⟩ := ow_cv_i hf
  refine ow_callv (va_runV (As := [.int x4_23, .int (0 : Int32)]) (rest := []) ⟨hx, hb, hml, hown, hts⟩ (c_X9_laysBut l Z fu x4_23 (0 : Int32) σ σ_29  hc29) (cwV 2 hts gX9_lots_X9_laysBut rfl rfl rfl (by decide +kernel) ⟨Nat.le_of_ble_eq_true rfl, Nat.le_of_ble_eq_true rfl⟩) (ow_preV hG hW ow_i56 (by decide) rfl) rfl rfl hl.1 rfl (lv_room (Nat.le_of_ble_eq_true rfl)) dX9_lots_29 ⟨Nat.zero_le _, Nat.zero_le _⟩) hW (fun H locs hW => ?_)
  refine lv_aload_n hx hb dX9_lots_32 rfl (lv_at hl 2 rfl) ?_
  refine ow_getV (ci := 9) (C := RX9) (T := TX9) (N := 41) hx hb hts hown hG hW ow_i56 (by decide) rfl hinX9 36 (by decide) (fk := 0) rfl (hts (.fieldLink RX9 102 "FiftyOneCardsModel" "goesMany" "I") (by decide +kernel)) (v := .int (σ_29.1 56 36)) rfl dX9_lots_33 ?_
  refine lv_iconst (v := 1) hx hb dX9_lots_36 (by decide) ?_
  refine lv_isub hx hb dX9_lots_37 ?_
  refine ow_topi hf (fun x5_38 hf => ?_)
  refine lv_istore (lv' := [(5, .int x5_38), (4, .int x4_23), (2, .long x2_12), (0, .ref (ow_ad Z 56)), (1, .int a1)]) hx hb dX9_lots_38 hl (by decide) rfl (fun ls hl => ?_)
  exact hJ40 fu x2_12 x4_23 x5_38 σ_29 _ _ _ hf hW (lv_sub hl [3, 2, 1, 0] rfl)
set_option maxHeartbeats 40000000 in
set_option maxRecDepth 100000 in
theorem c_X9_drawn (l : Launch) (Z : ow_Z) (fu : Nat) (a1 : Int32) (a2 : Int32) (a3 : Int32) (σ : ow_S) (rr : Int32) (σr : ow_S) (hf : f_X9_drawn fu a1 a2 a3 σ = some (rr, σr)) : Met l yX9_drawn wsX9_drawn { frames := 7, cells := 0, slots := 0, locals := 202 } (ow_Pc Z 56 20 [.ref (ow_ad Z 56), .int a1, .int a2, .int a3] σ) (ow_Qi Z 56 20 rr σr) 0 0 (ow_A Z 56 20) := by
  refine Met.ofW (cc := cX9_drawn) (maxL := 5) (ret := (some .int)) (by decide) rfl ?_
  intro p e s m args below meth c s₁ B hml hv
  obtain ⟨hav, hB⟩ := hv
  obtain ⟨hG, hW⟩ := ow_begin hB
  have hx := B.exec
  have hb := B.bytes
  have hr := B.returns
  have hts := atoms_spec (ws := wsX9_drawn) B.pre
  have hown : s.vm.findClass RX9 = some m.cls := findClass_of_methodNamed B.named
  have hlocks := B.notSynchronized
  have hl := lv_entry ([.ref (ow_ad Z 56), .int a1, .int a2, .int a3]) (n := 5) (Nat.le_of_ble_eq_true rfl)
  refine W.eq (g2 := F0 m 0 ((lg_sl ([.ref (ow_ad Z 56), .int a1, .int a2, .int a3]) ++ List.replicate (5 - (lg_sl ([.ref (ow_ad Z 56), .int a1, .int a2, .int a3])).length) Slot.unset).toArray) []) (by rw [hav]; exact lg_entry_eq _ _ _) ?_
  generalize (lg_sl ([.ref (ow_ad Z 56), .int a1, .int a2, .int a3]) ++ List.replicate (5 - (lg_sl ([.ref (ow_ad Z 56), .int a1, .int a2, .int a3])).length) Slot.unset).toArray = ls at hl ⊢
  have hl : lv_has ls 5 [(0, .ref (ow_ad Z 56)), (1, .int a1), (2, .int a2), (3, .int a3)] := hl
  unfold f_X9_drawn at hf
  refine lv_aload_n hx hb dX9_drawn_0 rfl (lv_at hl 0 rfl) ?_
  refine lv_iload_n hx hb dX9_drawn_1 rfl (lv_at hl 2 rfl) ?_
  obtain ⟨r_2, σ_2, hc2, hf⟩ := ow_cl_i hf
  refine ow_callz (va_runV (As := [.int a2]) (rest := []) ⟨hx, hb, hml, hown, hts⟩ (c_X9_isHead l Z fu a2 σ r_2 σ_2 hc2) (cwV 1 hts gX9_drawn_X9_isHead rfl rfl rfl (by decide +kernel) ⟨Nat.le_of_ble_eq_true rfl, Nat.le_of_ble_eq_true rfl⟩) (ow_preV hG hW ow_i56 (by decide) rfl) rfl rfl hl.1 rfl (lv_room (Nat.le_of_ble_eq_true rfl)) dX9_drawn_2 ⟨Nat.zero_le _, Nat.zero_le _⟩) hW (fun b2 H locs hW => ?_)
  refine lv_if_ne (tgt := 11) hx hb dX9_drawn_5 (by decide) (fun c5 => ?_) (fun c5 => ?_)
  · replace hf := ow_if_f c5 hf
    refine lv_iload_n hx hb dX9_drawn_11 rfl (lv_at hl 1 rfl) ?_
    refine lv_iconst (v := 0) hx hb dX9_drawn_12 (by decide) ?_
    refine lv_ldcw (v := 99999) hx hb hown (hts (.constant RX9 282 (99999)) (by decide +kernel)) dX9_drawn_13 ?_
    obtain ⟨r_16, σ_16, hc16, hf⟩ := ow_cl_i hf
    refine ow_callz (va_runS (As := [.int a1, .int (0 : Int32), .int (99999 : Int32)]) (rest := []) ⟨hx, hb, hml, hown, hts⟩ (c_X9_in l Z fu a1 (0 : Int32) (99999 : Int32) σ_2 r_16 σ_16 hc16) (va_cwS 3 hts gX9_drawn_X9_in rfl rfl rfl (by decide +kernel) ⟨Nat.le_of_ble_eq_true rfl, Nat.le_of_ble_eq_true rfl⟩) (ow_preS hG hW) rfl rfl hl.1 rfl (lv_room (Nat.le_of_ble_eq_true rfl)) dX9_drawn_16 ⟨Nat.zero_le _, Nat.zero_le _⟩) hW (fun b16 H locs hW => ?_)
    refine lv_if_eq (tgt := 31) hx hb dX9_drawn_19 (by decide) (fun c19 => ?_) (fun c19 => ?_)
    · replace hf := ow_if_t c19 hf
      refine lv_ldcw (v := -1000007) hx hb hown (hts (.constant RX9 265 (-1000007)) (by decide +kernel)) dX9_drawn_31 ?_
      exact ow_iret hx hb hr hW hf dX9_drawn_34 hlocks
    · replace hf := ow_if_f c19 hf
      refine lv_iload_n hx hb dX9_drawn_22 rfl (lv_at hl 3 rfl) ?_
      refine lv_iconst (v := 0) hx hb dX9_drawn_23 (by decide) ?_
      refine lv_iconst (v := 1) hx hb dX9_drawn_24 (by decide) ?_
      obtain ⟨r_25, σ_25, hc25, hf⟩ := ow_cl_i hf
      refine ow_callz (va_runS (As := [.int a3, .int (0 : Int32), .int (1 : Int32)]) (rest := []) ⟨hx, hb, hml, hown, hts⟩ (c_X9_in l Z fu a3 (0 : Int32) (1 : Int32) σ_16 r_25 σ_25 hc25) (va_cwS 3 hts gX9_drawn_X9_in rfl rfl rfl (by decide +kernel) ⟨Nat.le_of_ble_eq_true rfl, Nat.le_of_ble_eq_true rfl⟩) (ow_preS hG hW) rfl rfl hl.1 rfl (lv_room (Nat.le_of_ble_eq_true rfl)) dX9_drawn_25 ⟨Nat.zero_le _, Nat.zero_le _⟩) hW (fun b25 H locs hW => ?_)
      refine lv_if_ne (tgt := 35) hx hb dX9_drawn_28 (by decide) (fun c28 => ?_) (fun c28 => ?_)
      · replace hf := ow_if_f c28 hf
        refine lv_aload_n hx hb dX9_drawn_35 rfl (lv_at hl 0 rfl) ?_
        refine lv_iload_n hx hb dX9_drawn_36 rfl (lv_at hl 1 rfl) ?_
        obtain ⟨r_37, σ_37, hc37, hf⟩ := ow_cl_i hf
        refine ow_calli (va_runV (As := [.int a1]) (rest := []) ⟨hx, hb, hml, hown, hts⟩ (c_X9_lots l Z fu a1 σ_25 r_37 σ_37 hc37) (cwV 1 hts gX9_drawn_X9_lots rfl rfl rfl (by decide +kernel) ⟨Nat.le_of_ble_eq_true rfl, Nat.le_of_ble_eq_true rfl⟩) (ow_preV hG hW ow_i56 (by decide) rfl) rfl rfl hl.1 rfl (lv_room (Nat.le_of_ble_eq_true rfl)) dX9_drawn_37 ⟨Nat.zero_le _, Nat.zero_le _⟩) hW (fun H locs hW => ?_)
        refine lv_istore (lv' := [(4, .int r_37), (0, .ref (ow_ad Z 56)), (1, .int a1), (2, .int a2), (3, .int a3)]) hx hb dX9_drawn_40 hl (by decide) rfl (fun ls hl => ?_)
        refine lv_iload_n hx hb dX9_drawn_42 rfl (lv_at hl 4 rfl) ?_
        refine lv_if_ne (tgt := 51) hx hb dX9_drawn_43 (by decide) (fun c43 => ?_) (fun c43 => ?_)
        · replace hf := ow_if_f c43 hf
          refine lv_aload_n hx hb dX9_drawn_51 rfl (lv_at hl 1 rfl) ?_
          refine lv_iload_n hx hb dX9_drawn_52 rfl (lv_at hl 3 rfl) ?_
          obtain ⟨r_53, σ_53, hc53, hf⟩ := ow_cl_i hf
          refine ow_calli (va_runV (As := [.int a2]) (rest := []) ⟨hx, hb, hml, hown, hts⟩ (c_X9_saysOf l Z fu a2 σ_37 r_53 σ_53 hc53) (cwV 1 hts gX9_drawn_X9_saysOf rfl rfl rfl (by decide +kernel) ⟨Nat.le_of_ble_eq_true rfl, Nat.le_of_ble_eq_true rfl⟩) (ow_preV hG hW ow_i56 (by decide) rfl) rfl rfl hl.1 rfl (lv_room (Nat.le_of_ble_eq_true rfl)) dX9_drawn_53 ⟨Nat.zero_le _, Nat.zero_le _⟩) hW (fun H locs hW => ?_)
          exact ow_iret hx hb hr hW hf dX9_drawn_56 hlocks
        · replace hf := ow_if_t c43 hf
          refine lv_iload hx hb dX9_drawn_46 (lv_at hl 0 rfl) ?_
          refine lv_goto (tgt := 56) hx hb dX9_drawn_48 (by decide) ?_
          exact ow_iret hx hb hr hW hf dX9_drawn_56 hlocks
      · replace hf := ow_if_t c28 hf
        refine lv_ldcw (v := -1000007) hx hb hown (hts (.constant RX9 265 (-1000007)) (by decide +kernel)) dX9_drawn_31 ?_
        exact ow_iret hx hb hr hW hf dX9_drawn_34 hlocks
  · replace hf := ow_if_t c5 hf
    refine lv_ldc (v := -1000005) hx hb hown (hts (.constant RX9 239 (-1000005)) (by decide +kernel)) dX9_drawn_8 ?_
    exact ow_iret hx hb hr hW hf dX9_drawn_10 hlocks
set_option maxHeartbeats 40000000 in
set_option maxRecDepth 100000 in
theorem c_X9_lowest (l : Launch) (Z : ow_Z) (fu : Nat) (a1 : Int64) (a2 : Int64) (a3 : Int32) (σ : ow_S) (rr : Int64) (σr : ow_S) (hf : f_X9_lowest fu a1 a2 a3 σ = some (rr, σr)) : Met l yX9_lowest wsX9_lowest { frames := 1, cells := 0, slots := 0, locals := 60 } (ow_Pc Z 56 20 [.long a1, .long a2, .int a3] σ) (ow_Ql Z 56 20 rr σr) 0 0 (ow_A Z 56 20) := by
  refine Met.ofW (cc := cX9_lowest) (maxL := 11) (ret := (some .long)) (by decide) rfl ?_
  intro p e s m args below meth c s₁ B hml hv
  obtain ⟨hav, hB⟩ := hv
  obtain ⟨hG, hW⟩ := ow_begin hB
  have hx := B.exec
  have hb := B.bytes
  have hr := B.returns
  have hts := atoms_spec (ws := wsX9_lowest) B.pre
  have hown : s.vm.findClass RX9 = some m.cls := findClass_of_methodNamed B.named
  have hlocks := B.notSynchronized
  have hJ16 : ∀ (fn : Nat), ∀ (x0 : Int64) (x2 : Int64) (x4 : Int32) (x5 : Int64) (x7 : Int64) (σ : ow_S) (H : Heap) (locs : List Loc) (ls : Array Slot), L_X9_lowest_16 fu fn x0 x2 x4 x5 x7 σ = some (rr, σr) → ow_Wd Z 56 20 σ s H locs → lv_has ls 11 [(0, .long x0), (2, .long x2), (4, .int x4), (5, .long x5), (7, .long x7)] → W p l e (headSpec wsX9_lowest { frames := 1, cells := 0, slots := 0, locals := 60 }).room s m args below meth c H locs 0 0 (MQ below (ow_Ql Z 56 20 rr σr) args s 0 0 (ow_A Z 56 20)) (F0 m 16 ls []) := by
    intro fn
    induction fn with
    | zero => intro x0 x2 x4 x5 x7 σ H locs ls hf hW hl; simp [L_X9_lowest_16] at hf
    | succ fn ih =>
      intro x0 x2 x4 x5 x7 σ H locs ls hf hW hl
      rw [L_X9_lowest_16] at hf
      refine lv_lload hx hb dX9_lowest_16 (lv_at hl 4 rfl) ?_
      refine lv_lconst (v := 0) hx hb dX9_lowest_18 (by decide) ?_
      refine W.lcmp hx hb dX9_lowest_19 ?_
      refine lv_if_eq (tgt := 41) hx hb dX9_lowest_20 (by decide) (fun c20 => ?_) (fun c20 => ?_)
      · replace hf := ow_if_t c20 hf
        refine lv_iload hx hb dX9_lowest_41 (lv_at hl 2 rfl) ?_
        refine lv_if_ne (tgt := 50) hx hb dX9_lowest_43 (by decide) (fun c43 => ?_) (fun c43 => ?_)
        · replace hf := ow_if_f c43 hf
          refine lv_lload_n hx hb dX9_lowest_50 rfl (lv_at hl 1 rfl) ?_
          refine lv_lload hx hb dX9_lowest_51 (lv_at hl 3 rfl) ?_
          obtain ⟨q53, hf⟩ := ow_ck_i hf
          refine lv_ldiv hx hb dX9_lowest_53 q53 ?_
          exact ow_lret hx hb hr hW hf dX9_lowest_54 hlocks
        · replace hf := ow_if_t c43 hf
          refine lv_lload_n hx hb dX9_lowest_46 rfl (lv_at hl 0 rfl) ?_
          refine lv_goto (tgt := 51) hx hb dX9_lowest_47 (by decide) ?_
          refine lv_lload hx hb dX9_lowest_51 (lv_at hl 3 rfl) ?_
          obtain ⟨q53, hf⟩ := ow_ck_i hf
          refine lv_ldiv hx hb dX9_lowest_53 q53 ?_
          exact ow_lret hx hb hr hW hf dX9_lowest_54 hlocks
      · replace hf := ow_if_f c20 hf
        refine lv_lload hx hb dX9_lowest_23 (lv_at hl 3 rfl) ?_
        refine lv_lload hx hb dX9_lowest_25 (lv_at hl 4 rfl) ?_
        obtain ⟨q27, hf⟩ := ow_ck_i hf
        refine ow_r_lrem hx hb dX9_lowest_27 q27 ?_
        refine ow_topl hf (fun x9_28 hf => ?_)
        refine lv_lstore (lv' := [(9, .long x9_28), (0, .long x0), (2, .long x2), (4, .int x4), (5, .long x5), (7, .long x7)]) hx hb dX9_lowest_28 hl (by decide) rfl (fun ls hl => ?_)
        refine lv_lload hx hb dX9_lowest_30 (lv_at hl 5 rfl) ?_
        refine lv_lstore (lv' := [(5, .long x7), (9, .long x9_28), (0, .long x0), (2, .long x2), (4, .int x4), (7, .long x7)]) hx hb dX9_lowest_32 hl (by decide) rfl (fun ls hl => ?_)
        refine lv_lload hx hb dX9_lowest_34 (lv_at hl 1 rfl) ?_
        refine lv_lstore (lv' := [(7, .long x9_28), (5, .long x7), (9, .long x9_28), (0, .long x0), (2, .long x2), (4, .int x4)]) hx hb dX9_lowest_36 hl (by decide) rfl (fun ls hl => ?_)
        refine lv_goto (tgt := 16) hx hb dX9_lowest_38 (by decide) ?_
        exact ih x0 x2 x4 x7 x9_28 σ _ _ _ hf hW (lv_sub hl [3, 4, 5, 1, 0] rfl)
  have hl := lv_entry ([.long a1, .long a2, .int a3]) (n := 11) (Nat.le_of_ble_eq_true rfl)
  refine W.eq (g2 := F0 m 0 ((lg_sl ([.long a1, .long a2, .int a3]) ++ List.replicate (11 - (lg_sl ([.long a1, .long a2, .int a3])).length) Slot.unset).toArray) []) (by rw [hav]; exact lg_entry_eq _ _ _) ?_
  generalize (lg_sl ([.long a1, .long a2, .int a3]) ++ List.replicate (11 - (lg_sl ([.long a1, .long a2, .int a3])).length) Slot.unset).toArray = ls at hl ⊢
  have hl : lv_has ls 11 [(0, .long a1), (2, .long a2), (4, .int a3)] := hl
  unfold f_X9_lowest at hf
  refine lv_lload_n hx hb dX9_lowest_0 rfl (lv_at hl 0 rfl) ?_
  refine lv_lconst (v := 0) hx hb dX9_lowest_1 (by decide) ?_
  refine W.lcmp hx hb dX9_lowest_2 ?_
  refine lv_if_ne (tgt := 10) hx hb dX9_lowest_3 (by decide) (fun c3 => ?_) (fun c3 => ?_)
  · replace hf := ow_if_f c3 hf
    refine lv_lload_n hx hb dX9_lowest_10 rfl (lv_at hl 0 rfl) ?_
    refine lv_lstore (lv' := [(5, .long a1), (0, .long a1), (2, .long a2), (4, .int a3)]) hx hb dX9_lowest_11 hl (by decide) rfl (fun ls hl => ?_)
    refine lv_lload_n hx hb dX9_lowest_13 rfl (lv_at hl 2 rfl) ?_
    refine lv_lstore (lv' := [(7, .long a2), (5, .long a1), (0, .long a1), (2, .long a2), (4, .int a3)]) hx hb dX9_lowest_14 hl (by decide) rfl (fun ls hl => ?_)
    exact hJ16 fu a1 a2 a3 a1 a2 σ _ _ _ hf hW (lv_sub hl [2, 3, 4, 1, 0] rfl)
  · replace hf := ow_if_t c3 hf
    refine lv_iload hx hb dX9_lowest_6 (lv_at hl 2 rfl) ?_
    refine lv_i2l (v := (a3.toInt64)) hx hb dX9_lowest_8 rfl ?_
    exact ow_lret hx hb hr hW hf dX9_lowest_9 hlocks
set_option maxHeartbeats 40000000 in
set_option maxRecDepth 100000 in
theorem c_X9_odds (l : Launch) (Z : ow_Z) (fu : Nat) (a1 : Int32) (a2 : Int32) (a3 : Int32) (a4 : Int32) (σ : ow_S) (rr : Int64) (σr : ow_S) (hf : f_X9_odds fu a1 a2 a3 a4 σ = some (rr, σr)) : Met l yX9_odds wsX9_odds { frames := 7, cells := 0, slots := 0, locals := 202 } (ow_Pc Z 56 20 [.ref (ow_ad Z 56), .int a1, .int a2, .int a3, .int a4] σ) (ow_Ql Z 56 20 rr σr) 0 0 (ow_A Z 56 20) := by
  refine Met.ofW (cc := cX9_odds) (maxL := 9) (ret := (some .long)) (by decide) rfl ?_
  intro p e s m args below meth c s₁ B hml hv
  obtain ⟨hav, hB⟩ := hv
  obtain ⟨hG, hW⟩ := ow_begin hB
  have hx := B.exec
  have hb := B.bytes
  have hr := B.returns
  have hts := atoms_spec (ws := wsX9_odds) B.pre
  have hown : s.vm.findClass RX9 = some m.cls := findClass_of_methodNamed B.named
  have hlocks := B.notSynchronized
  have hJ82 : ∀ (k49 : Int32 → Int32 → Int32 → Int32 → Int64 → Int32 → ow_S → Option (Int64 × ow_S)) (hk49 : ∀ (x1 : Int32) (x2 : Int32) (x3 : Int32) (x4 : Int32) (x5 : Int64) (x7 : Int32) (σ : ow_S) (H : Heap) (locs : List Loc) (ls : Array Slot), k49 x1 x2 x3 x4 x5 x7 σ = some (rr, σr) → ow_Wd Z 56 20 σ s H locs → lv_has ls 9 [(0, .ref (ow_ad Z 56)), (1, .int x1), (2, .int x2), (3, .int x3), (4, .int x4), (5, .long x5), (7, .int x7)] → W p l e (headSpec wsX9_odds { frames := 7, cells := 0, slots := 0, locals := 202 }).room s m args below meth c H locs 0 0 (MQ below (ow_Ql Z 56 20 rr σr) args s 0 0 (ow_A Z 56 20)) (F0 m 49 ls [])), ∀ (x1 : Int32) (x2 : Int32) (x3 : Int32) (x4 : Int32) (x7 : Int32) (s0 : Int64) (s1 : Int64) (σ : ow_S) (H : Heap) (locs : List Loc) (ls : Array Slot), L_X9_odds_82 fu k49 x1 x2 x3 x4 x7 s0 s1 σ = some (rr, σr) → ow_Wd Z 56 20 σ s H locs → lv_has ls 9 [(0, .ref (ow_ad Z 56)), (1, .int x1), (2, .int x2), (3, .int x3), (4, .int x4), (7, .int x7)] → W p l e (headSpec wsX9_odds { frames := 7, cells := 0, slots := 0, locals := 202 }).room s m args below meth c H locs 0 0 (MQ below (ow_Ql Z 56 20 rr σr) args s 0 0 (ow_A Z 56 20)) (F0 m 82 ls [.long s1, .long s0]) := by
    intro k49 hk49 x1 x2 x3 x4 x7 s0 s1 σ H locs ls hf hW hl
    unfold L_X9_odds_82 at hf
    refine lv_ladd hx hb dX9_odds_82 ?_
    refine ow_topl hf (fun x5_83 hf => ?_)
    refine lv_lstore (lv' := [(5, .long x5_83), (0, .ref (ow_ad Z 56)), (1, .int x1), (2, .int x2), (3, .int x3), (4, .int x4), (7, .int x7)]) hx hb dX9_odds_83 hl (by decide) rfl (fun ls hl => ?_)
    refine ow_iinc (d := 1) (lv' := fun z => [(7, .int z), (5, .long x5_83), (0, .ref (ow_ad Z 56)), (1, .int x1), (2, .int x2), (3, .int x3), (4, .int x4)]) hx hb hf dX9_odds_85 hl (k := 6) rfl (by decide) (by decide) (fun z => rfl) (fun x7_85 hf ls hl => ?_)
    refine lv_goto (tgt := 49) hx hb dX9_odds_88 (by decide) ?_
    exact hk49 x1 x2 x3 x4 x5_83 x7_85 σ _ _ _ hf hW (lv_sub hl [2, 3, 4, 5, 6, 1, 0] rfl)
  have hJ49 : ∀ (fn : Nat), ∀ (x1 : Int32) (x2 : Int32) (x3 : Int32) (x4 : Int32) (x5 : Int64) (x7 : Int32) (σ : ow_S) (H : Heap) (locs : List Loc) (ls : Array Slot), L_X9_odds_49 fu fn x1 x2 x3 x4 x5 x7 σ = some (rr, σr) → ow_Wd Z 56 20 σ s H locs → lv_has ls 9 [(0, .ref (ow_ad Z 56)), (1, .int x1), (2, .int x2), (3, .int x3), (4, .int x4), (5, .long x5), (7, .int x7)] → W p l e (headSpec wsX9_odds { frames := 7, cells := 0, slots := 0, locals := 202 }).room s m args below meth c H locs 0 0 (MQ below (ow_Ql Z 56 20 rr σr) args s 0 0 (ow_A Z 56 20)) (F0 m 49 ls []) := by
    intro fn
    induction fn with
    | zero => intro x1 x2 x3 x4 x5 x7 σ H locs ls hf hW hl; simp [L_X9_odds_49] at hf
    | succ fn ih =>
      intro x1 x2 x3 x4 x5 x7 σ H locs ls hf hW hl
      rw [L_X9_odds_49] at hf
      refine lv_iload hx hb dX9_odds_49 (lv_at hl 6 rfl) ?_
      refine lv_iload_n hx hb dX9_odds_51 rfl (lv_at hl 2 rfl) ?_
      refine lv_icmp_ge (tgt := 91) hx hb dX9_odds_52 (by decide) (fun c52 => ?_) (fun c52 => ?_)
      · replace hf := ow_if_t c52 hf
        refine lv_lload hx hb dX9_odds_91 (lv_at hl 5 rfl) ?_
        refine lv_iload_n hx hb dX9_odds_93 rfl (lv_at hl 2 rfl) ?_
        refine lv_i2l (v := (x2.toInt64)) hx hb dX9_odds_94 rfl ?_
        refine lv_iload hx hb dX9_odds_95 (lv_at hl 4 rfl) ?_
        obtain ⟨r_97, σ_97, hc97, hf⟩ := ow_cl_i hf
        refine ow_calll (va_runS (As := [.long x5, .long (x2.toInt64), .int x4]) (rest := []) ⟨hx, hb, hml, hown, hts⟩ (c_X9_lowest l Z fu x5 (x2.toInt64) x4 σ r_97 σ_97 hc97) (va_cwS 3 hts gX9_odds_X9_lowest rfl rfl rfl (by decide +kernel) ⟨Nat.le_of_ble_eq_true rfl, Nat.le_of_ble_eq_true rfl⟩) (ow_preS hG hW) rfl rfl hl.1 rfl (lv_room (Nat.le_of_ble_eq_true rfl)) dX9_odds_97 ⟨Nat.zero_le _, Nat.zero_le _⟩) hW (fun H locs hW => ?_)
        exact ow_lret hx hb hr hW hf dX9_odds_100 hlocks
      · replace hf := ow_if_f c52 hf
        refine lv_aload_n hx hb dX9_odds_55 rfl (lv_at hl 0 rfl) ?_
        refine lv_iload_n hx hb dX9_odds_56 rfl (lv_at hl 1 rfl) ?_
        refine lv_iload hx hb dX9_odds_57 (lv_at hl 6 rfl) ?_
        refine lv_iadd hx hb dX9_odds_59 ?_
        obtain ⟨r_60, σ_60, hc60, hf⟩ := ow_cl_i hf
        refine ow_calli (va_runV (As := [.int (x1 + x7)]) (rest := []) ⟨hx, hb, hml, hown, hts⟩ (c_X9_lots l Z fu (x1 + x7) σ r_60 σ_60 hc60) (cwV 1 hts gX9_odds_X9_lots rfl rfl rfl (by decide +kernel) ⟨Nat.le_of_ble_eq_true rfl, Nat.le_of_ble_eq_true rfl⟩) (ow_preV hG hW ow_i56 (by decide) rfl) rfl rfl hl.1 rfl (lv_room (Nat.le_of_ble_eq_true rfl)) dX9_odds_60 ⟨Nat.zero_le _, Nat.zero_le _⟩) hW (fun H locs hW => ?_)
        refine lv_istore (lv' := [(8, .int r_60), (0, .ref (ow_ad Z 56)), (1, .int x1), (2, .int x2), (3, .int x3), (4, .int x4), (5, .long x5), (7, .int x7)]) hx hb dX9_odds_63 hl (by decide) rfl (fun ls hl => ?_)
        refine lv_lload hx hb dX9_odds_65 (lv_at hl 6 rfl) ?_
        refine lv_aload_n hx hb dX9_odds_67 rfl (lv_at hl 1 rfl) ?_
        refine lv_iload_n hx hb dX9_odds_68 rfl (lv_at hl 4 rfl) ?_
        obtain ⟨r_69, σ_69, hc69, hf⟩ := ow_cl_i hf
        refine ow_calli (va_runV (As := [.int x3]) (rest := [.long x5]) ⟨hx, hb, hml, hown, hts⟩ (c_X9_saysOf l Z fu x3 σ_60 r_69 σ_69 hc69) (cwV 1 hts gX9_odds_X9_saysOf rfl rfl rfl (by decide +kernel) ⟨Nat.le_of_ble_eq_true rfl, Nat.le_of_ble_eq_true rfl⟩) (ow_preV hG hW ow_i56 (by decide) rfl) rfl rfl hl.1 rfl (lv_room (Nat.le_of_ble_eq_true rfl)) dX9_odds_69 ⟨Nat.zero_le _, Nat.zero_le _⟩) hW (fun H locs hW => ?_)
        refine lv_iload hx hb dX9_odds_72 (lv_at hl 0 rfl) ?_
        refine lv_icmp_ne (tgt := 81) hx hb dX9_odds_74 (by decide) (fun c74 => ?_) (fun c74 => ?_)
        · replace hf := ow_if_f c74 hf
          refine lv_lconst (v := 0) hx hb dX9_odds_81 (by decide) ?_
          exact hJ82 (L_X9_odds_49 fu fn) ih x1 x2 x3 x4 x7 x5 (0 : Int64) σ_69 _ _ _ hf hW (lv_sub hl [1, 2, 3, 4, 5, 7] rfl)
        · replace hf := ow_if_t c74 hf
          refine lv_lconst (v := 1) hx hb dX9_odds_77 (by decide) ?_
          refine lv_goto (tgt := 82) hx hb dX9_odds_78 (by decide) ?_
          exact hJ82 (L_X9_odds_49 fu fn) ih x1 x2 x3 x4 x7 x5 (1 : Int64) σ_69 _ _ _ hf hW (lv_sub hl [1, 2, 3, 4, 5, 7] rfl)
  have hl := lv_entry ([.ref (ow_ad Z 56), .int a1, .int a2, .int a3, .int a4]) (n := 9) (Nat.le_of_ble_eq_true rfl)
  refine W.eq (g2 := F0 m 0 ((lg_sl ([.ref (ow_ad Z 56), .int a1, .int a2, .int a3, .int a4]) ++ List.replicate (9 - (lg_sl ([.ref (ow_ad Z 56), .int a1, .int a2, .int a3, .int a4])).length) Slot.unset).toArray) []) (by rw [hav]; exact lg_entry_eq _ _ _) ?_
  generalize (lg_sl ([.ref (ow_ad Z 56), .int a1, .int a2, .int a3, .int a4]) ++ List.replicate (9 - (lg_sl ([.ref (ow_ad Z 56), .int a1, .int a2, .int a3, .int a4])).length) Slot.unset).toArray = ls at hl ⊢
  have hl : lv_has ls 9 [(0, .ref (ow_ad Z 56)), (1, .int a1), (2, .int a2), (3, .int a3), (4, .int a4)] := hl
  unfold f_X9_odds at hf
  refine lv_iload_n hx hb dX9_odds_0 rfl (lv_at hl 1 rfl) ?_
  refine lv_iconst (v := 0) hx hb dX9_odds_1 (by decide) ?_
  refine lv_ldcw (v := 99999) hx hb hown (hts (.constant RX9 282 (99999)) (by decide +kernel)) dX9_odds_2 ?_
  obtain ⟨r_5, σ_5, hc5, hf⟩ := ow_cl_i hf
  refine ow_callz (va_runS (As := [.int a1, .int (0 : Int32), .int (99999 : Int32)]) (rest := []) ⟨hx, hb, hml, hown, hts⟩ (c_X9_in l Z fu a1 (0 : Int32) (99999 : Int32) σ r_5 σ_5 hc5) (va_cwS 3 hts gX9_odds_X9_in rfl rfl rfl (by decide +kernel) ⟨Nat.le_of_ble_eq_true rfl, Nat.le_of_ble_eq_true rfl⟩) (ow_preS hG hW) rfl rfl hl.1 rfl (lv_room (Nat.le_of_ble_eq_true rfl)) dX9_odds_5 ⟨Nat.zero_le _, Nat.zero_le _⟩) hW (fun b5 H locs hW => ?_)
  refine lv_if_eq (tgt := 39) hx hb dX9_odds_8 (by decide) (fun c8 => ?_) (fun c8 => ?_)
  · replace hf := ow_if_t c8 hf
    refine lv_ldc2 (v := -4611686018427387904) hx hb hown (hts (.constantLong RX9 247 (-4611686018427387904)) (by decide +kernel)) dX9_odds_39 ?_
    exact ow_lret hx hb hr hW hf dX9_odds_42 hlocks
  · replace hf := ow_if_f c8 hf
    refine lv_iload_n hx hb dX9_odds_11 rfl (lv_at hl 2 rfl) ?_
    refine lv_iconst (v := 1) hx hb dX9_odds_12 (by decide) ?_
    refine lv_bipush (v := 30) hx hb dX9_odds_13 (by decide) ?_
    obtain ⟨r_15, σ_15, hc15, hf⟩ := ow_cl_i hf
    refine ow_callz (va_runS (As := [.int a2, .int (1 : Int32), .int (30 : Int32)]) (rest := []) ⟨hx, hb, hml, hown, hts⟩ (c_X9_in l Z fu a2 (1 : Int32) (30 : Int32) σ_5 r_15 σ_15 hc15) (va_cwS 3 hts gX9_odds_X9_in rfl rfl rfl (by decide +kernel) ⟨Nat.le_of_ble_eq_true rfl, Nat.le_of_ble_eq_true rfl⟩) (ow_preS hG hW) rfl rfl hl.1 rfl (lv_room (Nat.le_of_ble_eq_true rfl)) dX9_odds_15 ⟨Nat.zero_le _, Nat.zero_le _⟩) hW (fun b15 H locs hW => ?_)
    refine lv_if_eq (tgt := 39) hx hb dX9_odds_18 (by decide) (fun c18 => ?_) (fun c18 => ?_)
    · replace hf := ow_if_t c18 hf
      refine lv_ldc2 (v := -4611686018427387904) hx hb hown (hts (.constantLong RX9 247 (-4611686018427387904)) (by decide +kernel)) dX9_odds_39 ?_
      exact ow_lret hx hb hr hW hf dX9_odds_42 hlocks
    · replace hf := ow_if_f c18 hf
      refine lv_aload_n hx hb dX9_odds_21 rfl (lv_at hl 0 rfl) ?_
      refine lv_iload_n hx hb dX9_odds_22 rfl (lv_at hl 3 rfl) ?_
      obtain ⟨r_23, σ_23, hc23, hf⟩ := ow_cl_i hf
      refine ow_callz (va_runV (As := [.int a3]) (rest := []) ⟨hx, hb, hml, hown, hts⟩ (c_X9_isHead l Z fu a3 σ_15 r_23 σ_23 hc23) (cwV 1 hts gX9_odds_X9_isHead rfl rfl rfl (by decide +kernel) ⟨Nat.le_of_ble_eq_true rfl, Nat.le_of_ble_eq_true rfl⟩) (ow_preV hG hW ow_i56 (by decide) rfl) rfl rfl hl.1 rfl (lv_room (Nat.le_of_ble_eq_true rfl)) dX9_odds_23 ⟨Nat.zero_le _, Nat.zero_le _⟩) hW (fun b23 H locs hW => ?_)
      refine lv_if_eq (tgt := 39) hx hb dX9_odds_26 (by decide) (fun c26 => ?_) (fun c26 => ?_)
      · replace hf := ow_if_t c26 hf
        refine lv_ldc2 (v := -4611686018427387904) hx hb hown (hts (.constantLong RX9 247 (-4611686018427387904)) (by decide +kernel)) dX9_odds_39 ?_
        exact ow_lret hx hb hr hW hf dX9_odds_42 hlocks
      · replace hf := ow_if_f c26 hf
        refine lv_iload hx hb dX9_odds_29 (lv_at hl 4 rfl) ?_
        refine lv_iconst (v := 0) hx hb dX9_odds_31 (by decide) ?_
        refine lv_iconst (v := 1) hx hb dX9_odds_32 (by decide) ?_
        obtain ⟨r_33, σ_33, hc33, hf⟩ := ow_cl_i hf
        refine ow_callz (va_runS (As := [.int a4, .int (0 : Int32), .int (1 : Int32)]) (rest := []) ⟨hx, hb, hml, hown, hts⟩ (c_X9_in l Z fu a4 (0 : Int32) (1 : Int32) σ_23 r_33 σ_33 hc33) (va_cwS 3 hts gX9_odds_X9_in rfl rfl rfl (by decide +kernel) ⟨Nat.le_of_ble_eq_true rfl, Nat.le_of_ble_eq_true rfl⟩) (ow_preS hG hW) rfl rfl hl.1 rfl (lv_room (Nat.le_of_ble_eq_true rfl)) dX9_odds_33 ⟨Nat.zero_le _, Nat.zero_le _⟩) hW (fun b33 H locs hW => ?_)
        refine lv_if_ne (tgt := 43) hx hb dX9_odds_36 (by decide) (fun c36 => ?_) (fun c36 => ?_)
        · replace hf := ow_if_f c36 hf
          refine lv_lconst (v := 0) hx hb dX9_odds_43 (by decide) ?_
          refine ow_topl hf (fun x5_44 hf => ?_)
          refine lv_lstore (lv' := [(5, .long x5_44), (0, .ref (ow_ad Z 56)), (1, .int a1), (2, .int a2), (3, .int a3), (4, .int a4)]) hx hb dX9_odds_44 hl (by decide) rfl (fun ls hl => ?_)
          refine lv_iconst (v := 0) hx hb dX9_odds_46 (by decide) ?_
          refine lv_istore (lv' := [(7, .int (0 : Int32)), (5, .long x5_44), (0, .ref (ow_ad Z 56)), (1, .int a1), (2, .int a2), (3, .int a3), (4, .int a4)]) hx hb dX9_odds_47 hl (by decide) rfl (fun ls hl => ?_)
          exact hJ49 fu a1 a2 a3 a4 x5_44 (0 : Int32) σ_33 _ _ _ hf hW (lv_sub hl [2, 3, 4, 5, 6, 1, 0] rfl)
        · replace hf := ow_if_t c36 hf
          refine lv_ldc2 (v := -4611686018427387904) hx hb hown (hts (.constantLong RX9 247 (-4611686018427387904)) (by decide +kernel)) dX9_odds_39 ?_
          exact ow_lret hx hb hr hW hf dX9_odds_42 hlocks
set_option maxHeartbeats 40000000 in
set_option maxRecDepth 100000 in
theorem c_X9_image (l : Launch) (Z : ow_Z) (fu : Nat) (σ : ow_S) (rr : Int32) (σr : ow_S) (hf : f_X9_image fu σ = some (rr, σr)) : Met l yX9_image wsX9_image { frames := 1, cells := 0, slots := 0, locals := 60 } (ow_Pc Z 56 20 [.ref (ow_ad Z 56)] σ) (ow_Qi Z 56 20 rr σr) 0 0 (ow_A Z 56 20) := by
  refine Met.ofW (cc := cX9_image) (maxL := 2) (ret := (some .int)) (by decide) rfl ?_
  intro p e s m args below meth c s₁ B hml hv
  obtain ⟨hav, hB⟩ := hv
  obtain ⟨hG, hW⟩ := ow_begin hB
  have hx := B.exec
  have hb := B.bytes
  have hr := B.returns
  have hts := atoms_spec (ws := wsX9_image) B.pre
  have hown : s.vm.findClass RX9 = some m.cls := findClass_of_methodNamed B.named
  have hlocks := B.notSynchronized
  have hinX9 : ∀ w ∈ wsX90, w ∈ wsX9_image := by decide +kernel
  have hJ65 : ∀ (fn : Nat), ∀ (x1 : Int32) (σ : ow_S) (H : Heap) (locs : List Loc) (ls : Array Slot), L_X9_image_65 fu fn x1 σ = some (rr, σr) → ow_Wd Z 56 20 σ s H locs → lv_has ls 2 [(0, .ref (ow_ad Z 56)), (1, .int x1)] → W p l e (headSpec wsX9_image { frames := 1, cells := 0, slots := 0, locals := 60 }).room s m args below meth c H locs 0 0 (MQ below (ow_Qi Z 56 20 rr σr) args s 0 0 (ow_A Z 56 20)) (F0 m 65 ls []) := by
    intro fn
    induction fn with
    | zero => intro x1 σ H locs ls hf hW hl; simp [L_X9_image_65] at hf
    | succ fn ih =>
      intro x1 σ H locs ls hf hW hl
      rw [L_X9_image_65] at hf
      refine lv_iload_n hx hb dX9_image_65 rfl (lv_at hl 1 rfl) ?_
      refine lv_bipush (v := 15) hx hb dX9_image_66 (by decide) ?_
      refine lv_icmp_ge (tgt := 89) hx hb dX9_image_68 (by decide) (fun c68 => ?_) (fun c68 => ?_)
      · replace hf := ow_if_t c68 hf
        refine lv_aload_n hx hb dX9_image_89 rfl (lv_at hl 0 rfl) ?_
        refine ow_getV (ci := 9) (C := RX9) (T := TX9) (N := 41) hx hb hts hown hG hW ow_i56 (by decide) rfl hinX9 3 (by decide) (fk := 0) rfl (hts (.fieldLink RX9 82 "FiftyOneCardsModel" "heads" "I") (by decide +kernel)) (v := .int (σ.1 56 3)) rfl dX9_image_90 ?_
        exact ow_iret hx hb hr hW hf dX9_image_93 hlocks
      · replace hf := ow_if_f c68 hf
        refine lv_aload_n hx hb dX9_image_71 rfl (lv_at hl 0 rfl) ?_
        refine ow_getV (ci := 9) (C := RX9) (T := TX9) (N := 41) hx hb hts hown hG hW ow_i56 (by decide) rfl hinX9 19 (by decide) (fk := 2) rfl (hts (.fieldLink RX9 38 "FiftyOneCardsModel" "imageKept" "[I") (by decide +kernel)) (v := .ref (ow_ad Z 65)) (ow_vR hW ow_i56.1 ow_i56.2.1 rfl) dX9_image_72 ?_
        refine lv_iload_n hx hb dX9_image_75 rfl (lv_at hl 1 rfl) ?_
        refine lv_aload_n hx hb dX9_image_76 rfl (lv_at hl 0 rfl) ?_
        refine ow_getV (ci := 9) (C := RX9) (T := TX9) (N := 41) hx hb hts hown hG hW ow_i56 (by decide) rfl hinX9 6 (by decide) (fk := 2) rfl (hts (.fieldLink RX9 23 "FiftyOneCardsModel" "kept" "[I") (by decide +kernel)) (v := .ref (ow_ad Z 60)) (ow_vR hW ow_i56.1 ow_i56.2.1 rfl) dX9_image_77 ?_
        refine lv_iload_n hx hb dX9_image_80 rfl (lv_at hl 1 rfl) ?_
        obtain ⟨q81, hf⟩ := ow_ck_i hf
        refine ow_ild (q := x1.toNatClampNeg) hx hb hG hW ow_i60 rfl q81 rfl dX9_image_81 ?_
        obtain ⟨q82, hf⟩ := ow_ck_i hf
        refine ow_ist (q := x1.toNatClampNeg) hx hb hG hW ow_i65 rfl q82 rfl hf dX9_image_82 (fun σ_82 H locs hf hW => ?_)
        refine ow_iinc (d := 1) (lv' := fun z => [(1, .int z), (0, .ref (ow_ad Z 56))]) hx hb hf dX9_image_83 hl (k := 1) rfl (by decide) (by decide) (fun z => rfl) (fun x1_83 hf ls hl => ?_)
        refine lv_goto (tgt := 65) hx hb dX9_image_86 (by decide) ?_
        exact ih x1_83 σ_82 _ _ _ hf hW (lv_sub hl [1, 0] rfl)
  have hJ39 : ∀ (fn : Nat), ∀ (x1 : Int32) (σ : ow_S) (H : Heap) (locs : List Loc) (ls : Array Slot), L_X9_image_39 fu fn x1 σ = some (rr, σr) → ow_Wd Z 56 20 σ s H locs → lv_has ls 2 [(0, .ref (ow_ad Z 56)), (1, .int x1)] → W p l e (headSpec wsX9_image { frames := 1, cells := 0, slots := 0, locals := 60 }).room s m args below meth c H locs 0 0 (MQ below (ow_Qi Z 56 20 rr σr) args s 0 0 (ow_A Z 56 20)) (F0 m 39 ls []) := by
    intro fn
    induction fn with
    | zero => intro x1 σ H locs ls hf hW hl; simp [L_X9_image_39] at hf
    | succ fn ih =>
      intro x1 σ H locs ls hf hW hl
      rw [L_X9_image_39] at hf
      refine lv_iload_n hx hb dX9_image_39 rfl (lv_at hl 1 rfl) ?_
      refine lv_bipush (v := 60) hx hb dX9_image_40 (by decide) ?_
      refine lv_icmp_ge (tgt := 63) hx hb dX9_image_42 (by decide) (fun c42 => ?_) (fun c42 => ?_)
      · replace hf := ow_if_t c42 hf
        refine lv_iconst (v := 0) hx hb dX9_image_63 (by decide) ?_
        refine lv_istore_n (lv' := [(1, .int (0 : Int32)), (0, .ref (ow_ad Z 56))]) hx hb dX9_image_64 rfl hl (by decide) rfl (fun ls hl => ?_)
        exact hJ65 fu (0 : Int32) σ _ _ _ hf hW (lv_sub hl [1, 0] rfl)
      · replace hf := ow_if_f c42 hf
        refine lv_aload_n hx hb dX9_image_45 rfl (lv_at hl 0 rfl) ?_
        refine ow_getV (ci := 9) (C := RX9) (T := TX9) (N := 41) hx hb hts hown hG hW ow_i56 (by decide) rfl hinX9 18 (by decide) (fk := 2) rfl (hts (.fieldLink RX9 35 "FiftyOneCardsModel" "imageRow" "[I") (by decide +kernel)) (v := .ref (ow_ad Z 64)) (ow_vR hW ow_i56.1 ow_i56.2.1 rfl) dX9_image_46 ?_
        refine lv_iload_n hx hb dX9_image_49 rfl (lv_at hl 1 rfl) ?_
        refine lv_aload_n hx hb dX9_image_50 rfl (lv_at hl 0 rfl) ?_
        refine ow_getV (ci := 9) (C := RX9) (T := TX9) (N := 41) hx hb hts hown hG hW ow_i56 (by decide) rfl hinX9 1 (by decide) (fk := 2) rfl (hts (.fieldLink RX9 13 "FiftyOneCardsModel" "row" "[I") (by decide +kernel)) (v := .ref (ow_ad Z 57)) (ow_vR hW ow_i56.1 ow_i56.2.1 rfl) dX9_image_51 ?_
        refine lv_iload_n hx hb dX9_image_54 rfl (lv_at hl 1 rfl) ?_
        obtain ⟨q55, hf⟩ := ow_ck_i hf
        refine ow_ild (q := x1.toNatClampNeg) hx hb hG hW ow_i57 rfl q55 rfl dX9_image_55 ?_
        obtain ⟨q56, hf⟩ := ow_ck_i hf
        refine ow_ist (q := x1.toNatClampNeg) hx hb hG hW ow_i64 rfl q56 rfl hf dX9_image_56 (fun σ_56 H locs hf hW => ?_)
        refine ow_iinc (d := 1) (lv' := fun z => [(1, .int z), (0, .ref (ow_ad Z 56))]) hx hb hf dX9_image_57 hl (k := 1) rfl (by decide) (by decide) (fun z => rfl) (fun x1_57 hf ls hl => ?_)
        refine lv_goto (tgt := 39) hx hb dX9_image_60 (by decide) ?_
        exact ih x1_57 σ_56 _ _ _ hf hW (lv_sub hl [1, 0] rfl)
  have hl := lv_entry ([.ref (ow_ad Z 56)]) (n := 2) (Nat.le_of_ble_eq_true rfl)
  refine W.eq (g2 := F0 m 0 ((lg_sl ([.ref (ow_ad Z 56)]) ++ List.replicate (2 - (lg_sl ([.ref (ow_ad Z 56)])).length) Slot.unset).toArray) []) (by rw [hav]; exact lg_entry_eq _ _ _) ?_
  generalize (lg_sl ([.ref (ow_ad Z 56)]) ++ List.replicate (2 - (lg_sl ([.ref (ow_ad Z 56)])).length) Slot.unset).toArray = ls at hl ⊢
  have hl : lv_has ls 2 [(0, .ref (ow_ad Z 56))] := hl
  unfold f_X9_image at hf
  refine lv_aload_n hx hb dX9_image_0 rfl (lv_at hl 0 rfl) ?_
  refine lv_iconst (v := 1) hx hb dX9_image_1 (by decide) ?_
  refine ow_putI (ci := 9) (C := RX9) (T := TX9) (N := 41) hx hb hts hown hG hW ow_i56 (by decide) rfl hinX9 tyX9 tyX9_ok nmX9 13 (by decide) rfl (hts (.fieldLink RX9 290 "FiftyOneCardsModel" "hasImage" "Z") (by decide +kernel)) rfl rfl rfl hf dX9_image_2 (fun σ_2 H locs hf hW => ?_)
  refine lv_aload_n hx hb dX9_image_5 rfl (lv_at hl 0 rfl) ?_
  refine lv_aload_n hx hb dX9_image_6 rfl (lv_at hl 0 rfl) ?_
  refine ow_getV (ci := 9) (C := RX9) (T := TX9) (N := 41) hx hb hts hown hG hW ow_i56 (by decide) rfl hinX9 0 (by decide) (fk := 0) rfl (hts (.fieldLink RX9 7 "FiftyOneCardsModel" "pack" "I") (by decide +kernel)) (v := .int (σ_2.1 56 0)) rfl dX9_image_7 ?_
  refine ow_putI (ci := 9) (C := RX9) (T := TX9) (N := 41) hx hb hts hown hG hW ow_i56 (by decide) rfl hinX9 tyX9 tyX9_ok nmX9 14 (by decide) rfl (hts (.fieldLink RX9 294 "FiftyOneCardsModel" "imagePack" "I") (by decide +kernel)) rfl rfl rfl hf dX9_image_10 (fun σ_10 H locs hf hW => ?_)
  refine lv_aload_n hx hb dX9_image_13 rfl (lv_at hl 0 rfl) ?_
  refine lv_aload_n hx hb dX9_image_14 rfl (lv_at hl 0 rfl) ?_
  refine ow_getV (ci := 9) (C := RX9) (T := TX9) (N := 41) hx hb hts hown hG hW ow_i56 (by decide) rfl hinX9 2 (by decide) (fk := 0) rfl (hts (.fieldLink RX9 85 "FiftyOneCardsModel" "rowMany" "I") (by decide +kernel)) (v := .int (σ_10.1 56 2)) rfl dX9_image_15 ?_
  refine ow_putI (ci := 9) (C := RX9) (T := TX9) (N := 41) hx hb hts hown hG hW ow_i56 (by decide) rfl hinX9 tyX9 tyX9_ok nmX9 15 (by decide) rfl (hts (.fieldLink RX9 297 "FiftyOneCardsModel" "imageRowMany" "I") (by decide +kernel)) rfl rfl rfl hf dX9_image_18 (fun σ_18 H locs hf hW => ?_)
  refine lv_aload_n hx hb dX9_image_21 rfl (lv_at hl 0 rfl) ?_
  refine lv_aload_n hx hb dX9_image_22 rfl (lv_at hl 0 rfl) ?_
  refine ow_getV (ci := 9) (C := RX9) (T := TX9) (N := 41) hx hb hts hown hG hW ow_i56 (by decide) rfl hinX9 3 (by decide) (fk := 0) rfl (hts (.fieldLink RX9 82 "FiftyOneCardsModel" "heads" "I") (by decide +kernel)) (v := .int (σ_18.1 56 3)) rfl dX9_image_23 ?_
  refine ow_putI (ci := 9) (C := RX9) (T := TX9) (N := 41) hx hb hts hown hG hW ow_i56 (by decide) rfl hinX9 tyX9 tyX9_ok nmX9 16 (by decide) rfl (hts (.fieldLink RX9 300 "FiftyOneCardsModel" "imageHeads" "I") (by decide +kernel)) rfl rfl rfl hf dX9_image_26 (fun σ_26 H locs hf hW => ?_)
  refine lv_aload_n hx hb dX9_image_29 rfl (lv_at hl 0 rfl) ?_
  refine lv_aload_n hx hb dX9_image_30 rfl (lv_at hl 0 rfl) ?_
  refine ow_getV (ci := 9) (C := RX9) (T := TX9) (N := 41) hx hb hts hown hG hW ow_i56 (by decide) rfl hinX9 12 (by decide) (fk := 0) rfl (hts (.fieldLink RX9 91 "FiftyOneCardsModel" "rule" "I") (by decide +kernel)) (v := .int (σ_26.1 56 12)) rfl dX9_image_31 ?_
  refine ow_putI (ci := 9) (C := RX9) (T := TX9) (N := 41) hx hb hts hown hG hW ow_i56 (by decide) rfl hinX9 tyX9 tyX9_ok nmX9 17 (by decide) rfl (hts (.fieldLink RX9 303 "FiftyOneCardsModel" "imageRule" "I") (by decide +kernel)) rfl rfl rfl hf dX9_image_34 (fun σ_34 H locs hf hW => ?_)
  refine lv_iconst (v := 0) hx hb dX9_image_37 (by decide) ?_
  refine lv_istore_n (lv' := [(1, .int (0 : Int32)), (0, .ref (ow_ad Z 56))]) hx hb dX9_image_38 rfl hl (by decide) rfl (fun ls hl => ?_)
  exact hJ39 fu (0 : Int32) σ_34 _ _ _ hf hW (lv_sub hl [1, 0] rfl)
set_option maxHeartbeats 40000000 in
set_option maxRecDepth 100000 in
theorem c_X9_back (l : Launch) (Z : ow_Z) (fu : Nat) (σ : ow_S) (rr : Int32) (σr : ow_S) (hf : f_X9_back fu σ = some (rr, σr)) : Met l yX9_back wsX9_back { frames := 1, cells := 0, slots := 0, locals := 60 } (ow_Pc Z 56 20 [.ref (ow_ad Z 56)] σ) (ow_Qi Z 56 20 rr σr) 0 0 (ow_A Z 56 20) := by
  refine Met.ofW (cc := cX9_back) (maxL := 2) (ret := (some .int)) (by decide) rfl ?_
  intro p e s m args below meth c s₁ B hml hv
  obtain ⟨hav, hB⟩ := hv
  obtain ⟨hG, hW⟩ := ow_begin hB
  have hx := B.exec
  have hb := B.bytes
  have hr := B.returns
  have hts := atoms_spec (ws := wsX9_back) B.pre
  have hown : s.vm.findClass RX9 = some m.cls := findClass_of_methodNamed B.named
  have hlocks := B.notSynchronized
  have hinX9 : ∀ w ∈ wsX90, w ∈ wsX9_back := by decide +kernel
  have hJ70 : ∀ (fn : Nat), ∀ (x1 : Int32) (σ : ow_S) (H : Heap) (locs : List Loc) (ls : Array Slot), L_X9_back_70 fu fn x1 σ = some (rr, σr) → ow_Wd Z 56 20 σ s H locs → lv_has ls 2 [(0, .ref (ow_ad Z 56)), (1, .int x1)] → W p l e (headSpec wsX9_back { frames := 1, cells := 0, slots := 0, locals := 60 }).room s m args below meth c H locs 0 0 (MQ below (ow_Qi Z 56 20 rr σr) args s 0 0 (ow_A Z 56 20)) (F0 m 70 ls []) := by
    intro fn
    induction fn with
    | zero => intro x1 σ H locs ls hf hW hl; simp [L_X9_back_70] at hf
    | succ fn ih =>
      intro x1 σ H locs ls hf hW hl
      rw [L_X9_back_70] at hf
      refine lv_iload_n hx hb dX9_back_70 rfl (lv_at hl 1 rfl) ?_
      refine lv_bipush (v := 15) hx hb dX9_back_71 (by decide) ?_
      refine lv_icmp_ge (tgt := 94) hx hb dX9_back_73 (by decide) (fun c73 => ?_) (fun c73 => ?_)
      · replace hf := ow_if_t c73 hf
        refine lv_aload_n hx hb dX9_back_94 rfl (lv_at hl 0 rfl) ?_
        refine ow_getV (ci := 9) (C := RX9) (T := TX9) (N := 41) hx hb hts hown hG hW ow_i56 (by decide) rfl hinX9 3 (by decide) (fk := 0) rfl (hts (.fieldLink RX9 82 "FiftyOneCardsModel" "heads" "I") (by decide +kernel)) (v := .int (σ.1 56 3)) rfl dX9_back_95 ?_
        exact ow_iret hx hb hr hW hf dX9_back_98 hlocks
      · replace hf := ow_if_f c73 hf
        refine lv_aload_n hx hb dX9_back_76 rfl (lv_at hl 0 rfl) ?_
        refine ow_getV (ci := 9) (C := RX9) (T := TX9) (N := 41) hx hb hts hown hG hW ow_i56 (by decide) rfl hinX9 6 (by decide) (fk := 2) rfl (hts (.fieldLink RX9 23 "FiftyOneCardsModel" "kept" "[I") (by decide +kernel)) (v := .ref (ow_ad Z 60)) (ow_vR hW ow_i56.1 ow_i56.2.1 rfl) dX9_back_77 ?_
        refine lv_iload_n hx hb dX9_back_80 rfl (lv_at hl 1 rfl) ?_
        refine lv_aload_n hx hb dX9_back_81 rfl (lv_at hl 0 rfl) ?_
        refine ow_getV (ci := 9) (C := RX9) (T := TX9) (N := 41) hx hb hts hown hG hW ow_i56 (by decide) rfl hinX9 19 (by decide) (fk := 2) rfl (hts (.fieldLink RX9 38 "FiftyOneCardsModel" "imageKept" "[I") (by decide +kernel)) (v := .ref (ow_ad Z 65)) (ow_vR hW ow_i56.1 ow_i56.2.1 rfl) dX9_back_82 ?_
        refine lv_iload_n hx hb dX9_back_85 rfl (lv_at hl 1 rfl) ?_
        obtain ⟨q86, hf⟩ := ow_ck_i hf
        refine ow_ild (q := x1.toNatClampNeg) hx hb hG hW ow_i65 rfl q86 rfl dX9_back_86 ?_
        obtain ⟨q87, hf⟩ := ow_ck_i hf
        refine ow_ist (q := x1.toNatClampNeg) hx hb hG hW ow_i60 rfl q87 rfl hf dX9_back_87 (fun σ_87 H locs hf hW => ?_)
        refine ow_iinc (d := 1) (lv' := fun z => [(1, .int z), (0, .ref (ow_ad Z 56))]) hx hb hf dX9_back_88 hl (k := 1) rfl (by decide) (by decide) (fun z => rfl) (fun x1_88 hf ls hl => ?_)
        refine lv_goto (tgt := 70) hx hb dX9_back_91 (by decide) ?_
        exact ih x1_88 σ_87 _ _ _ hf hW (lv_sub hl [1, 0] rfl)
  have hJ44 : ∀ (fn : Nat), ∀ (x1 : Int32) (σ : ow_S) (H : Heap) (locs : List Loc) (ls : Array Slot), L_X9_back_44 fu fn x1 σ = some (rr, σr) → ow_Wd Z 56 20 σ s H locs → lv_has ls 2 [(0, .ref (ow_ad Z 56)), (1, .int x1)] → W p l e (headSpec wsX9_back { frames := 1, cells := 0, slots := 0, locals := 60 }).room s m args below meth c H locs 0 0 (MQ below (ow_Qi Z 56 20 rr σr) args s 0 0 (ow_A Z 56 20)) (F0 m 44 ls []) := by
    intro fn
    induction fn with
    | zero => intro x1 σ H locs ls hf hW hl; simp [L_X9_back_44] at hf
    | succ fn ih =>
      intro x1 σ H locs ls hf hW hl
      rw [L_X9_back_44] at hf
      refine lv_iload_n hx hb dX9_back_44 rfl (lv_at hl 1 rfl) ?_
      refine lv_bipush (v := 60) hx hb dX9_back_45 (by decide) ?_
      refine lv_icmp_ge (tgt := 68) hx hb dX9_back_47 (by decide) (fun c47 => ?_) (fun c47 => ?_)
      · replace hf := ow_if_t c47 hf
        refine lv_iconst (v := 0) hx hb dX9_back_68 (by decide) ?_
        refine lv_istore_n (lv' := [(1, .int (0 : Int32)), (0, .ref (ow_ad Z 56))]) hx hb dX9_back_69 rfl hl (by decide) rfl (fun ls hl => ?_)
        exact hJ70 fu (0 : Int32) σ _ _ _ hf hW (lv_sub hl [1, 0] rfl)
      · replace hf := ow_if_f c47 hf
        refine lv_aload_n hx hb dX9_back_50 rfl (lv_at hl 0 rfl) ?_
        refine ow_getV (ci := 9) (C := RX9) (T := TX9) (N := 41) hx hb hts hown hG hW ow_i56 (by decide) rfl hinX9 1 (by decide) (fk := 2) rfl (hts (.fieldLink RX9 13 "FiftyOneCardsModel" "row" "[I") (by decide +kernel)) (v := .ref (ow_ad Z 57)) (ow_vR hW ow_i56.1 ow_i56.2.1 rfl) dX9_back_51 ?_
        refine lv_iload_n hx hb dX9_back_54 rfl (lv_at hl 1 rfl) ?_
        refine lv_aload_n hx hb dX9_back_55 rfl (lv_at hl 0 rfl) ?_
        refine ow_getV (ci := 9) (C := RX9) (T := TX9) (N := 41) hx hb hts hown hG hW ow_i56 (by decide) rfl hinX9 18 (by decide) (fk := 2) rfl (hts (.fieldLink RX9 35 "FiftyOneCardsModel" "imageRow" "[I") (by decide +kernel)) (v := .ref (ow_ad Z 64)) (ow_vR hW ow_i56.1 ow_i56.2.1 rfl) dX9_back_56 ?_
        refine lv_iload_n hx hb dX9_back_59 rfl (lv_at hl 1 rfl) ?_
        obtain ⟨q60, hf⟩ := ow_ck_i hf
        refine ow_ild (q := x1.toNatClampNeg) hx hb hG hW ow_i64 rfl q60 rfl dX9_back_60 ?_
        obtain ⟨q61, hf⟩ := ow_ck_i hf
        refine ow_ist (q := x1.toNatClampNeg) hx hb hG hW ow_i57 rfl q61 rfl hf dX9_back_61 (fun σ_61 H locs hf hW => ?_)
        refine ow_iinc (d := 1) (lv' := fun z => [(1, .int z), (0, .ref (ow_ad Z 56))]) hx hb hf dX9_back_62 hl (k := 1) rfl (by decide) (by decide) (fun z => rfl) (fun x1_62 hf ls hl => ?_)
        refine lv_goto (tgt := 44) hx hb dX9_back_65 (by decide) ?_
        exact ih x1_62 σ_61 _ _ _ hf hW (lv_sub hl [1, 0] rfl)
  have hl := lv_entry ([.ref (ow_ad Z 56)]) (n := 2) (Nat.le_of_ble_eq_true rfl)
  refine W.eq (g2 := F0 m 0 ((lg_sl ([.ref (ow_ad Z 56)]) ++ List.replicate (2 - (lg_sl ([.ref (ow_ad Z 56)])).length) Slot.unset).toArray) []) (by rw [hav]; exact lg_entry_eq _ _ _) ?_
  generalize (lg_sl ([.ref (ow_ad Z 56)]) ++ List.replicate (2 - (lg_sl ([.ref (ow_ad Z 56)])).length) Slot.unset).toArray = ls at hl ⊢
  have hl : lv_has ls 2 [(0, .ref (ow_ad Z 56))] := hl
  unfold f_X9_back at hf
  refine lv_aload_n hx hb dX9_back_0 rfl (lv_at hl 0 rfl) ?_
  refine ow_getV (ci := 9) (C := RX9) (T := TX9) (N := 41) hx hb hts hown hG hW ow_i56 (by decide) rfl hinX9 13 (by decide) (fk := 0) rfl (hts (.fieldLink RX9 290 "FiftyOneCardsModel" "hasImage" "Z") (by decide +kernel)) (v := .int (σ.1 56 13)) rfl dX9_back_1 ?_
  refine lv_if_ne (tgt := 10) hx hb dX9_back_4 (by decide) (fun c4 => ?_) (fun c4 => ?_)
  · replace hf := ow_if_f c4 hf
    refine lv_aload_n hx hb dX9_back_10 rfl (lv_at hl 0 rfl) ?_
    refine lv_aload_n hx hb dX9_back_11 rfl (lv_at hl 0 rfl) ?_
    refine ow_getV (ci := 9) (C := RX9) (T := TX9) (N := 41) hx hb hts hown hG hW ow_i56 (by decide) rfl hinX9 14 (by decide) (fk := 0) rfl (hts (.fieldLink RX9 294 "FiftyOneCardsModel" "imagePack" "I") (by decide +kernel)) (v := .int (σ.1 56 14)) rfl dX9_back_12 ?_
    refine ow_putI (ci := 9) (C := RX9) (T := TX9) (N := 41) hx hb hts hown hG hW ow_i56 (by decide) rfl hinX9 tyX9 tyX9_ok nmX9 0 (by decide) rfl (hts (.fieldLink RX9 7 "FiftyOneCardsModel" "pack" "I") (by decide +kernel)) rfl rfl rfl hf dX9_back_15 (fun σ_15 H locs hf hW => ?_)
    refine lv_aload_n hx hb dX9_back_18 rfl (lv_at hl 0 rfl) ?_
    refine lv_aload_n hx hb dX9_back_19 rfl (lv_at hl 0 rfl) ?_
    refine ow_getV (ci := 9) (C := RX9) (T := TX9) (N := 41) hx hb hts hown hG hW ow_i56 (by decide) rfl hinX9 15 (by decide) (fk := 0) rfl (hts (.fieldLink RX9 297 "FiftyOneCardsModel" "imageRowMany" "I") (by decide +kernel)) (v := .int (σ_15.1 56 15)) rfl dX9_back_20 ?_
    refine ow_putI (ci := 9) (C := RX9) (T := TX9) (N := 41) hx hb hts hown hG hW ow_i56 (by decide) rfl hinX9 tyX9 tyX9_ok nmX9 2 (by decide) rfl (hts (.fieldLink RX9 85 "FiftyOneCardsModel" "rowMany" "I") (by decide +kernel)) rfl rfl rfl hf dX9_back_23 (fun σ_23 H locs hf hW => ?_)
    refine lv_aload_n hx hb dX9_back_26 rfl (lv_at hl 0 rfl) ?_
    refine lv_aload_n hx hb dX9_back_27 rfl (lv_at hl 0 rfl) ?_
    refine ow_getV (ci := 9) (C := RX9) (T := TX9) (N := 41) hx hb hts hown hG hW ow_i56 (by decide) rfl hinX9 16 (by decide) (fk := 0) rfl (hts (.fieldLink RX9 300 "FiftyOneCardsModel" "imageHeads" "I") (by decide +kernel)) (v := .int (σ_23.1 56 16)) rfl dX9_back_28 ?_
    refine ow_putI (ci := 9) (C := RX9) (T := TX9) (N := 41) hx hb hts hown hG hW ow_i56 (by decide) rfl hinX9 tyX9 tyX9_ok nmX9 3 (by decide) rfl (hts (.fieldLink RX9 82 "FiftyOneCardsModel" "heads" "I") (by decide +kernel)) rfl rfl rfl hf dX9_back_31 (fun σ_31 H locs hf hW => ?_)
    refine lv_aload_n hx hb dX9_back_34 rfl (lv_at hl 0 rfl) ?_
    refine lv_aload_n hx hb dX9_back_35 rfl (lv_at hl 0 rfl) ?_
    refine ow_getV (ci := 9) (C := RX9) (T := TX9) (N := 41) hx hb hts hown hG hW ow_i56 (by decide) rfl hinX9 17 (by decide) (fk := 0) rfl (hts (.fieldLink RX9 303 "FiftyOneCardsModel" "imageRule" "I") (by decide +kernel)) (v := .int (σ_31.1 56 17)) rfl dX9_back_36 ?_
    refine ow_putI (ci := 9) (C := RX9) (T := TX9) (N := 41) hx hb hts hown hG hW ow_i56 (by decide) rfl hinX9 tyX9 tyX9_ok nmX9 12 (by decide) rfl (hts (.fieldLink RX9 91 "FiftyOneCardsModel" "rule" "I") (by decide +kernel)) rfl rfl rfl hf dX9_back_39 (fun σ_39 H locs hf hW => ?_)
    refine lv_iconst (v := 0) hx hb dX9_back_42 (by decide) ?_
    refine lv_istore_n (lv' := [(1, .int (0 : Int32)), (0, .ref (ow_ad Z 56))]) hx hb dX9_back_43 rfl hl (by decide) rfl (fun ls hl => ?_)
    exact hJ44 fu (0 : Int32) σ_39 _ _ _ hf hW (lv_sub hl [1, 0] rfl)
  · replace hf := ow_if_t c4 hf
    refine lv_bipush (v := -3) hx hb dX9_back_7 (by decide) ?_
    exact ow_iret hx hb hr hW hf dX9_back_9 hlocks
set_option maxHeartbeats 40000000 in
set_option maxRecDepth 100000 in
theorem c_X9_sheet (l : Launch) (Z : ow_Z) (fu : Nat) (a1 : Int32) (a2 : Int32) (a3 : Int32) (σ : ow_S) (rr : Int32) (σr : ow_S) (hf : f_X9_sheet fu a1 a2 a3 σ = some (rr, σr)) : Met l yX9_sheet wsX9_sheet { frames := 2, cells := 0, slots := 0, locals := 82 } (ow_Pc Z 56 20 [.ref (ow_ad Z 56), .int a1, .int a2, .int a3] σ) (ow_Qi Z 56 20 rr σr) 0 0 (ow_A Z 56 20) := by
  refine Met.ofW (cc := cX9_sheet) (maxL := 5) (ret := (some .int)) (by decide) rfl ?_
  intro p e s m args below meth c s₁ B hml hv
  obtain ⟨hav, hB⟩ := hv
  obtain ⟨hG, hW⟩ := ow_begin hB
  have hx := B.exec
  have hb := B.bytes
  have hr := B.returns
  have hts := atoms_spec (ws := wsX9_sheet) B.pre
  have hown : s.vm.findClass RX9 = some m.cls := findClass_of_methodNamed B.named
  have hlocks := B.notSynchronized
  have hinX9 : ∀ w ∈ wsX90, w ∈ wsX9_sheet := by decide +kernel
  have hJ70 : ∀ (fn : Nat), ∀ (x1 : Int32) (x4 : Int32) (σ : ow_S) (H : Heap) (locs : List Loc) (ls : Array Slot), L_X9_sheet_70 fu fn x1 x4 σ = some (rr, σr) → ow_Wd Z 56 20 σ s H locs → lv_has ls 5 [(0, .ref (ow_ad Z 56)), (1, .int x1), (4, .int x4)] → W p l e (headSpec wsX9_sheet { frames := 2, cells := 0, slots := 0, locals := 82 }).room s m args below meth c H locs 0 0 (MQ below (ow_Qi Z 56 20 rr σr) args s 0 0 (ow_A Z 56 20)) (F0 m 70 ls []) := by
    intro fn
    induction fn with
    | zero => intro x1 x4 σ H locs ls hf hW hl; simp [L_X9_sheet_70] at hf
    | succ fn ih =>
      intro x1 x4 σ H locs ls hf hW hl
      rw [L_X9_sheet_70] at hf
      refine lv_iload hx hb dX9_sheet_70 (lv_at hl 2 rfl) ?_
      refine lv_bipush (v := 40) hx hb dX9_sheet_72 (by decide) ?_
      refine lv_icmp_ge (tgt := 96) hx hb dX9_sheet_74 (by decide) (fun c74 => ?_) (fun c74 => ?_)
      · replace hf := ow_if_t c74 hf
        refine lv_iconst (v := 1) hx hb dX9_sheet_96 (by decide) ?_
        exact ow_iret hx hb hr hW hf dX9_sheet_97 hlocks
      · replace hf := ow_if_f c74 hf
        refine lv_aload_n hx hb dX9_sheet_77 rfl (lv_at hl 0 rfl) ?_
        refine ow_getV (ci := 9) (C := RX9) (T := TX9) (N := 41) hx hb hts hown hG hW ow_i56 (by decide) rfl hinX9 22 (by decide) (fk := 2) rfl (hts (.fieldLink RX9 47 "FiftyOneCardsModel" "cells" "[I") (by decide +kernel)) (v := .ref (ow_ad Z 68)) (ow_vR hW ow_i56.1 ow_i56.2.1 rfl) dX9_sheet_78 ?_
        refine lv_bipush (v := 40) hx hb dX9_sheet_81 (by decide) ?_
        refine lv_iload_n hx hb dX9_sheet_83 rfl (lv_at hl 1 rfl) ?_
        refine lv_imul hx hb dX9_sheet_84 ?_
        refine lv_iload hx hb dX9_sheet_85 (lv_at hl 2 rfl) ?_
        refine lv_iadd hx hb dX9_sheet_87 ?_
        refine lv_iconst (v := 0) hx hb dX9_sheet_88 (by decide) ?_
        obtain ⟨q89, hf⟩ := ow_ck_i hf
        refine ow_ist (q := (((40 : Int32) * x1) + x4).toNatClampNeg) hx hb hG hW ow_i68 rfl q89 rfl hf dX9_sheet_89 (fun σ_89 H locs hf hW => ?_)
        refine ow_iinc (d := 1) (lv' := fun z => [(4, .int z), (0, .ref (ow_ad Z 56)), (1, .int x1)]) hx hb hf dX9_sheet_90 hl (k := 2) rfl (by decide) (by decide) (fun z => rfl) (fun x4_90 hf ls hl => ?_)
        refine lv_goto (tgt := 70) hx hb dX9_sheet_93 (by decide) ?_
        exact ih x1 x4_90 σ_89 _ _ _ hf hW (lv_sub hl [1, 2, 0] rfl)
  have hJ66 : ∀ (x1 : Int32) (s1 : Int32) (s2 : Int32) (σ : ow_S) (H : Heap) (locs : List Loc) (ls : Array Slot), L_X9_sheet_66 fu x1 s1 s2 σ = some (rr, σr) → ow_Wd Z 56 20 σ s H locs → lv_has ls 5 [(0, .ref (ow_ad Z 56)), (1, .int x1)] → W p l e (headSpec wsX9_sheet { frames := 2, cells := 0, slots := 0, locals := 82 }).room s m args below meth c H locs 0 0 (MQ below (ow_Qi Z 56 20 rr σr) args s 0 0 (ow_A Z 56 20)) (F0 m 66 ls [.int s2, .int s1, .ref (ow_ad Z 67)]) := by
    intro x1 s1 s2 σ H locs ls hf hW hl
    unfold L_X9_sheet_66 at hf
    obtain ⟨q66, hf⟩ := ow_ck_i hf
    refine ow_ist (q := s1.toNatClampNeg) hx hb hG hW ow_i67 rfl q66 rfl hf dX9_sheet_66 (fun σ_66 H locs hf hW => ?_)
    refine lv_iconst (v := 0) hx hb dX9_sheet_67 (by decide) ?_
    refine lv_istore (lv' := [(4, .int (0 : Int32)), (0, .ref (ow_ad Z 56)), (1, .int x1)]) hx hb dX9_sheet_68 hl (by decide) rfl (fun ls hl => ?_)
    exact hJ70 fu x1 (0 : Int32) σ_66 _ _ _ hf hW (lv_sub hl [1, 2, 0] rfl)
  have hJ44 : ∀ (x1 : Int32) (x2 : Int32) (x3 : Int32) (σ : ow_S) (H : Heap) (locs : List Loc) (ls : Array Slot), L_X9_sheet_44 fu x1 x2 x3 σ = some (rr, σr) → ow_Wd Z 56 20 σ s H locs → lv_has ls 5 [(0, .ref (ow_ad Z 56)), (1, .int x1), (2, .int x2), (3, .int x3)] → W p l e (headSpec wsX9_sheet { frames := 2, cells := 0, slots := 0, locals := 82 }).room s m args below meth c H locs 0 0 (MQ below (ow_Qi Z 56 20 rr σr) args s 0 0 (ow_A Z 56 20)) (F0 m 44 ls []) := by
    intro x1 x2 x3 σ H locs ls hf hW hl
    unfold L_X9_sheet_44 at hf
    refine lv_aload_n hx hb dX9_sheet_44 rfl (lv_at hl 0 rfl) ?_
    refine ow_getV (ci := 9) (C := RX9) (T := TX9) (N := 41) hx hb hts hown hG hW ow_i56 (by decide) rfl hinX9 20 (by decide) (fk := 2) rfl (hts (.fieldLink RX9 41 "FiftyOneCardsModel" "sheetSort" "[I") (by decide +kernel)) (v := .ref (ow_ad Z 66)) (ow_vR hW ow_i56.1 ow_i56.2.1 rfl) dX9_sheet_45 ?_
    refine lv_iload_n hx hb dX9_sheet_48 rfl (lv_at hl 1 rfl) ?_
    refine lv_iload_n hx hb dX9_sheet_49 rfl (lv_at hl 2 rfl) ?_
    obtain ⟨q50, hf⟩ := ow_ck_i hf
    refine ow_ist (q := x1.toNatClampNeg) hx hb hG hW ow_i66 rfl q50 rfl hf dX9_sheet_50 (fun σ_50 H locs hf hW => ?_)
    refine lv_aload_n hx hb dX9_sheet_51 rfl (lv_at hl 0 rfl) ?_
    refine ow_getV (ci := 9) (C := RX9) (T := TX9) (N := 41) hx hb hts hown hG hW ow_i56 (by decide) rfl hinX9 21 (by decide) (fk := 2) rfl (hts (.fieldLink RX9 44 "FiftyOneCardsModel" "sheetSize" "[I") (by decide +kernel)) (v := .ref (ow_ad Z 67)) (ow_vR hW ow_i56.1 ow_i56.2.1 rfl) dX9_sheet_52 ?_
    refine lv_iload_n hx hb dX9_sheet_55 rfl (lv_at hl 1 rfl) ?_
    refine lv_iload_n hx hb dX9_sheet_56 rfl (lv_at hl 2 rfl) ?_
    refine lv_iconst (v := -1) hx hb dX9_sheet_57 (by decide) ?_
    refine lv_icmp_ne (tgt := 65) hx hb dX9_sheet_58 (by decide) (fun c58 => ?_) (fun c58 => ?_)
    · replace hf := ow_if_f c58 hf
      refine lv_iload_n hx hb dX9_sheet_65 rfl (lv_at hl 3 rfl) ?_
      exact hJ66 x1 x1 x3 σ_50 _ _ _ hf hW (lv_sub hl [0, 1] rfl)
    · replace hf := ow_if_t c58 hf
      refine lv_iconst (v := 0) hx hb dX9_sheet_61 (by decide) ?_
      refine lv_goto (tgt := 66) hx hb dX9_sheet_62 (by decide) ?_
      exact hJ66 x1 x1 (0 : Int32) σ_50 _ _ _ hf hW (lv_sub hl [0, 1] rfl)
  have hJ32 : ∀ (x1 : Int32) (x2 : Int32) (x3 : Int32) (σ : ow_S) (H : Heap) (locs : List Loc) (ls : Array Slot), L_X9_sheet_32 fu x1 x2 x3 σ = some (rr, σr) → ow_Wd Z 56 20 σ s H locs → lv_has ls 5 [(0, .ref (ow_ad Z 56)), (1, .int x1), (2, .int x2), (3, .int x3)] → W p l e (headSpec wsX9_sheet { frames := 2, cells := 0, slots := 0, locals := 82 }).room s m args below meth c H locs 0 0 (MQ below (ow_Qi Z 56 20 rr σr) args s 0 0 (ow_A Z 56 20)) (F0 m 32 ls []) := by
    intro x1 x2 x3 σ H locs ls hf hW hl
    unfold L_X9_sheet_32 at hf
    refine lv_iload_n hx hb dX9_sheet_32 rfl (lv_at hl 2 rfl) ?_
    refine lv_iconst (v := -1) hx hb dX9_sheet_33 (by decide) ?_
    refine lv_icmp_eq (tgt := 44) hx hb dX9_sheet_34 (by decide) (fun c34 => ?_) (fun c34 => ?_)
    · replace hf := ow_if_t c34 hf
      exact hJ44 x1 x2 x3 σ _ _ _ hf hW (lv_sub hl [0, 1, 2, 3] rfl)
    · replace hf := ow_if_f c34 hf
      refine lv_iload_n hx hb dX9_sheet_37 rfl (lv_at hl 3 rfl) ?_
      refine lv_if_ge (tgt := 44) hx hb dX9_sheet_38 (by decide) (fun c38 => ?_) (fun c38 => ?_)
      · replace hf := ow_if_t c38 hf
        exact hJ44 x1 x2 x3 σ _ _ _ hf hW (lv_sub hl [0, 1, 2, 3] rfl)
      · replace hf := ow_if_f c38 hf
        refine lv_bipush (v := -14) hx hb dX9_sheet_41 (by decide) ?_
        exact ow_iret hx hb hr hW hf dX9_sheet_43 hlocks
  have hl := lv_entry ([.ref (ow_ad Z 56), .int a1, .int a2, .int a3]) (n := 5) (Nat.le_of_ble_eq_true rfl)
  refine W.eq (g2 := F0 m 0 ((lg_sl ([.ref (ow_ad Z 56), .int a1, .int a2, .int a3]) ++ List.replicate (5 - (lg_sl ([.ref (ow_ad Z 56), .int a1, .int a2, .int a3])).length) Slot.unset).toArray) []) (by rw [hav]; exact lg_entry_eq _ _ _) ?_
  generalize (lg_sl ([.ref (ow_ad Z 56), .int a1, .int a2, .int a3]) ++ List.replicate (5 - (lg_sl ([.ref (ow_ad Z 56), .int a1, .int a2, .int a3])).length) Slot.unset).toArray = ls at hl ⊢
  have hl : lv_has ls 5 [(0, .ref (ow_ad Z 56)), (1, .int a1), (2, .int a2), (3, .int a3)] := hl
  unfold f_X9_sheet at hf
  refine lv_iload_n hx hb dX9_sheet_0 rfl (lv_at hl 1 rfl) ?_
  refine lv_iconst (v := 0) hx hb dX9_sheet_1 (by decide) ?_
  refine lv_iconst (v := 3) hx hb dX9_sheet_2 (by decide) ?_
  obtain ⟨r_3, σ_3, hc3, hf⟩ := ow_cl_i hf
  refine ow_callz (va_runS (As := [.int a1, .int (0 : Int32), .int (3 : Int32)]) (rest := []) ⟨hx, hb, hml, hown, hts⟩ (c_X9_in l Z fu a1 (0 : Int32) (3 : Int32) σ r_3 σ_3 hc3) (va_cwS 3 hts gX9_sheet_X9_in rfl rfl rfl (by decide +kernel) ⟨Nat.le_of_ble_eq_true rfl, Nat.le_of_ble_eq_true rfl⟩) (ow_preS hG hW) rfl rfl hl.1 rfl (lv_room (Nat.le_of_ble_eq_true rfl)) dX9_sheet_3 ⟨Nat.zero_le _, Nat.zero_le _⟩) hW (fun b3 H locs hW => ?_)
  refine lv_if_eq (tgt := 29) hx hb dX9_sheet_6 (by decide) (fun c6 => ?_) (fun c6 => ?_)
  · replace hf := ow_if_t c6 hf
    refine lv_bipush (v := -2) hx hb dX9_sheet_29 (by decide) ?_
    exact ow_iret hx hb hr hW hf dX9_sheet_31 hlocks
  · replace hf := ow_if_f c6 hf
    refine lv_iload_n hx hb dX9_sheet_9 rfl (lv_at hl 2 rfl) ?_
    refine lv_iconst (v := -1) hx hb dX9_sheet_10 (by decide) ?_
    refine lv_iconst (v := 2) hx hb dX9_sheet_11 (by decide) ?_
    obtain ⟨r_12, σ_12, hc12, hf⟩ := ow_cl_i hf
    refine ow_callz (va_runS (As := [.int a2, .int (-1 : Int32), .int (2 : Int32)]) (rest := []) ⟨hx, hb, hml, hown, hts⟩ (c_X9_in l Z fu a2 (-1 : Int32) (2 : Int32) σ_3 r_12 σ_12 hc12) (va_cwS 3 hts gX9_sheet_X9_in rfl rfl rfl (by decide +kernel) ⟨Nat.le_of_ble_eq_true rfl, Nat.le_of_ble_eq_true rfl⟩) (ow_preS hG hW) rfl rfl hl.1 rfl (lv_room (Nat.le_of_ble_eq_true rfl)) dX9_sheet_12 ⟨Nat.zero_le _, Nat.zero_le _⟩) hW (fun b12 H locs hW => ?_)
    refine lv_if_eq (tgt := 29) hx hb dX9_sheet_15 (by decide) (fun c15 => ?_) (fun c15 => ?_)
    · replace hf := ow_if_t c15 hf
      refine lv_bipush (v := -2) hx hb dX9_sheet_29 (by decide) ?_
      exact ow_iret hx hb hr hW hf dX9_sheet_31 hlocks
    · replace hf := ow_if_f c15 hf
      refine lv_iload_n hx hb dX9_sheet_18 rfl (lv_at hl 2 rfl) ?_
      refine lv_iconst (v := -1) hx hb dX9_sheet_19 (by decide) ?_
      refine lv_icmp_eq (tgt := 32) hx hb dX9_sheet_20 (by decide) (fun c20 => ?_) (fun c20 => ?_)
      · replace hf := ow_if_t c20 hf
        exact hJ32 a1 a2 a3 σ_12 _ _ _ hf hW (lv_sub hl [0, 1, 2, 3] rfl)
      · replace hf := ow_if_f c20 hf
        refine lv_iload_n hx hb dX9_sheet_23 rfl (lv_at hl 3 rfl) ?_
        refine lv_bipush (v := 40) hx hb dX9_sheet_24 (by decide) ?_
        refine lv_icmp_le (tgt := 32) hx hb dX9_sheet_26 (by decide) (fun c26 => ?_) (fun c26 => ?_)
        · replace hf := ow_if_t c26 hf
          exact hJ32 a1 a2 a3 σ_12 _ _ _ hf hW (lv_sub hl [0, 1, 2, 3] rfl)
        · replace hf := ow_if_f c26 hf
          refine lv_bipush (v := -2) hx hb dX9_sheet_29 (by decide) ?_
          exact ow_iret hx hb hr hW hf dX9_sheet_31 hlocks
set_option maxHeartbeats 40000000 in
set_option maxRecDepth 100000 in
theorem c_X9_cell (l : Launch) (Z : ow_Z) (fu : Nat) (a1 : Int32) (a2 : Int32) (a3 : Int32) (σ : ow_S) (rr : Int32) (σr : ow_S) (hf : f_X9_cell fu a1 a2 a3 σ = some (rr, σr)) : Met l yX9_cell wsX9_cell { frames := 2, cells := 0, slots := 0, locals := 82 } (ow_Pc Z 56 20 [.ref (ow_ad Z 56), .int a1, .int a2, .int a3] σ) (ow_Qi Z 56 20 rr σr) 0 0 (ow_A Z 56 20) := by
  refine Met.ofW (cc := cX9_cell) (maxL := 4) (ret := (some .int)) (by decide) rfl ?_
  intro p e s m args below meth c s₁ B hml hv
  obtain ⟨hav, hB⟩ := hv
  obtain ⟨hG, hW⟩ := ow_begin hB
  have hx := B.exec
  have hb := B.bytes
  have hr := B.returns
  have hts := atoms_spec (ws := wsX9_cell) B.pre
  have hown : s.vm.findClass RX9 = some m.cls := findClass_of_methodNamed B.named
  have hlocks := B.notSynchronized
  have hinX9 : ∀ w ∈ wsX90, w ∈ wsX9_cell := by decide +kernel
  have hJ84 : ∀ (s1 : Int32) (s2 : Int32) (σ : ow_S) (H : Heap) (locs : List Loc) (ls : Array Slot), L_X9_cell_84 fu s1 s2 σ = some (rr, σr) → ow_Wd Z 56 20 σ s H locs → lv_has ls 4 [] → W p l e (headSpec wsX9_cell { frames := 2, cells := 0, slots := 0, locals := 82 }).room s m args below meth c H locs 0 0 (MQ below (ow_Qi Z 56 20 rr σr) args s 0 0 (ow_A Z 56 20)) (F0 m 84 ls [.int s2, .int s1, .ref (ow_ad Z 68)]) := by
    intro s1 s2 σ H locs ls hf hW hl
    unfold L_X9_cell_84 at hf
    obtain ⟨q84, hf⟩ := ow_ck_i hf
    refine ow_ist (q := s1.toNatClampNeg) hx hb hG hW ow_i68 rfl q84 rfl hf dX9_cell_84 (fun σ_84 H locs hf hW => ?_)
    refine lv_iconst (v := 1) hx hb dX9_cell_85 (by decide) ?_
    exact ow_iret hx hb hr hW hf dX9_cell_86 hlocks
  have hl := lv_entry ([.ref (ow_ad Z 56), .int a1, .int a2, .int a3]) (n := 4) (Nat.le_of_ble_eq_true rfl)
  refine W.eq (g2 := F0 m 0 ((lg_sl ([.ref (ow_ad Z 56), .int a1, .int a2, .int a3]) ++ List.replicate (4 - (lg_sl ([.ref (ow_ad Z 56), .int a1, .int a2, .int a3])).length) Slot.unset).toArray) []) (by rw [hav]; exact lg_entry_eq _ _ _) ?_
  generalize (lg_sl ([.ref (ow_ad Z 56), .int a1, .int a2, .int a3]) ++ List.replicate (4 - (lg_sl ([.ref (ow_ad Z 56), .int a1, .int a2, .int a3])).length) Slot.unset).toArray = ls at hl ⊢
  have hl : lv_has ls 4 [(0, .ref (ow_ad Z 56)), (1, .int a1), (2, .int a2), (3, .int a3)] := hl
  unfold f_X9_cell at hf
  refine lv_iload_n hx hb dX9_cell_0 rfl (lv_at hl 1 rfl) ?_
  refine lv_iconst (v := 0) hx hb dX9_cell_1 (by decide) ?_
  refine lv_iconst (v := 3) hx hb dX9_cell_2 (by decide) ?_
  obtain ⟨r_3, σ_3, hc3, hf⟩ := ow_cl_i hf
  refine ow_callz (va_runS (As := [.int a1, .int (0 : Int32), .int (3 : Int32)]) (rest := []) ⟨hx, hb, hml, hown, hts⟩ (c_X9_in l Z fu a1 (0 : Int32) (3 : Int32) σ r_3 σ_3 hc3) (va_cwS 3 hts gX9_cell_X9_in rfl rfl rfl (by decide +kernel) ⟨Nat.le_of_ble_eq_true rfl, Nat.le_of_ble_eq_true rfl⟩) (ow_preS hG hW) rfl rfl hl.1 rfl (lv_room (Nat.le_of_ble_eq_true rfl)) dX9_cell_3 ⟨Nat.zero_le _, Nat.zero_le _⟩) hW (fun b3 H locs hW => ?_)
  refine lv_if_ne (tgt := 12) hx hb dX9_cell_6 (by decide) (fun c6 => ?_) (fun c6 => ?_)
  · replace hf := ow_if_f c6 hf
    refine lv_aload_n hx hb dX9_cell_12 rfl (lv_at hl 0 rfl) ?_
    refine ow_getV (ci := 9) (C := RX9) (T := TX9) (N := 41) hx hb hts hown hG hW ow_i56 (by decide) rfl hinX9 20 (by decide) (fk := 2) rfl (hts (.fieldLink RX9 41 "FiftyOneCardsModel" "sheetSort" "[I") (by decide +kernel)) (v := .ref (ow_ad Z 66)) (ow_vR hW ow_i56.1 ow_i56.2.1 rfl) dX9_cell_13 ?_
    refine lv_iload_n hx hb dX9_cell_16 rfl (lv_at hl 1 rfl) ?_
    obtain ⟨q17, hf⟩ := ow_ck_i hf
    refine ow_ild (q := a1.toNatClampNeg) hx hb hG hW ow_i66 rfl q17 rfl dX9_cell_17 ?_
    refine lv_iconst (v := -1) hx hb dX9_cell_18 (by decide) ?_
    refine lv_icmp_ne (tgt := 25) hx hb dX9_cell_19 (by decide) (fun c19 => ?_) (fun c19 => ?_)
    · replace hf := ow_if_f c19 hf
      refine lv_iload_n hx hb dX9_cell_25 rfl (lv_at hl 2 rfl) ?_
      refine lv_iconst (v := 0) hx hb dX9_cell_26 (by decide) ?_
      refine lv_aload_n hx hb dX9_cell_27 rfl (lv_at hl 0 rfl) ?_
      refine ow_getV (ci := 9) (C := RX9) (T := TX9) (N := 41) hx hb hts hown hG hW ow_i56 (by decide) rfl hinX9 21 (by decide) (fk := 2) rfl (hts (.fieldLink RX9 44 "FiftyOneCardsModel" "sheetSize" "[I") (by decide +kernel)) (v := .ref (ow_ad Z 67)) (ow_vR hW ow_i56.1 ow_i56.2.1 rfl) dX9_cell_28 ?_
      refine lv_iload_n hx hb dX9_cell_31 rfl (lv_at hl 1 rfl) ?_
      obtain ⟨q32, hf⟩ := ow_ck_i hf
      refine ow_ild (q := a1.toNatClampNeg) hx hb hG hW ow_i67 rfl q32 rfl dX9_cell_32 ?_
      refine lv_iconst (v := 1) hx hb dX9_cell_33 (by decide) ?_
      refine lv_isub hx hb dX9_cell_34 ?_
      obtain ⟨r_35, σ_35, hc35, hf⟩ := ow_cl_i hf
      refine ow_callz (va_runS (As := [.int a2, .int (0 : Int32), .int ((σ_3.1 67 a1.toNatClampNeg) - (1 : Int32))]) (rest := []) ⟨hx, hb, hml, hown, hts⟩ (c_X9_in l Z fu a2 (0 : Int32) ((σ_3.1 67 a1.toNatClampNeg) - (1 : Int32)) σ_3 r_35 σ_35 hc35) (va_cwS 3 hts gX9_cell_X9_in rfl rfl rfl (by decide +kernel) ⟨Nat.le_of_ble_eq_true rfl, Nat.le_of_ble_eq_true rfl⟩) (ow_preS hG hW) rfl rfl hl.1 rfl (lv_room (Nat.le_of_ble_eq_true rfl)) dX9_cell_35 ⟨Nat.zero_le _, Nat.zero_le _⟩) hW (fun b35 H locs hW => ?_)
      refine lv_if_ne (tgt := 44) hx hb dX9_cell_38 (by decide) (fun c38 => ?_) (fun c38 => ?_)
      · replace hf := ow_if_f c38 hf
        refine lv_aload_n hx hb dX9_cell_44 rfl (lv_at hl 0 rfl) ?_
        refine ow_getV (ci := 9) (C := RX9) (T := TX9) (N := 41) hx hb hts hown hG hW ow_i56 (by decide) rfl hinX9 22 (by decide) (fk := 2) rfl (hts (.fieldLink RX9 47 "FiftyOneCardsModel" "cells" "[I") (by decide +kernel)) (v := .ref (ow_ad Z 68)) (ow_vR hW ow_i56.1 ow_i56.2.1 rfl) dX9_cell_45 ?_
        refine lv_bipush (v := 40) hx hb dX9_cell_48 (by decide) ?_
        refine lv_iload_n hx hb dX9_cell_50 rfl (lv_at hl 1 rfl) ?_
        refine lv_imul hx hb dX9_cell_51 ?_
        refine lv_iload_n hx hb dX9_cell_52 rfl (lv_at hl 2 rfl) ?_
        refine lv_iadd hx hb dX9_cell_53 ?_
        refine lv_aload_n hx hb dX9_cell_54 rfl (lv_at hl 0 rfl) ?_
        refine ow_getV (ci := 9) (C := RX9) (T := TX9) (N := 41) hx hb hts hown hG hW ow_i56 (by decide) rfl hinX9 20 (by decide) (fk := 2) rfl (hts (.fieldLink RX9 41 "FiftyOneCardsModel" "sheetSort" "[I") (by decide +kernel)) (v := .ref (ow_ad Z 66)) (ow_vR hW ow_i56.1 ow_i56.2.1 rfl) dX9_cell_55 ?_
        refine lv_iload_n hx hb dX9_cell_58 rfl (lv_at hl 1 rfl) ?_
        obtain ⟨q59, hf⟩ := ow_ck_i hf
        refine ow_ild (q := a1.toNatClampNeg) hx hb hG hW ow_i66 rfl q59 rfl dX9_cell_59 ?_
        refine lv_if_ne (tgt := 68) hx hb dX9_cell_60 (by decide) (fun c60 => ?_) (fun c60 => ?_)
        · replace hf := ow_if_f c60 hf
          refine lv_aload_n hx hb dX9_cell_68 rfl (lv_at hl 0 rfl) ?_
          refine ow_getV (ci := 9) (C := RX9) (T := TX9) (N := 41) hx hb hts hown hG hW ow_i56 (by decide) rfl hinX9 20 (by decide) (fk := 2) rfl (hts (.fieldLink RX9 41 "FiftyOneCardsModel" "sheetSort" "[I") (by decide +kernel)) (v := .ref (ow_ad Z 66)) (ow_vR hW ow_i56.1 ow_i56.2.1 rfl) dX9_cell_69 ?_
          refine lv_iload_n hx hb dX9_cell_72 rfl (lv_at hl 1 rfl) ?_
          obtain ⟨q73, hf⟩ := ow_ck_i hf
          refine ow_ild (q := a1.toNatClampNeg) hx hb hG hW ow_i66 rfl q73 rfl dX9_cell_73 ?_
          refine lv_iconst (v := 1) hx hb dX9_cell_74 (by decide) ?_
          refine lv_icmp_ne (tgt := 83) hx hb dX9_cell_75 (by decide) (fun c75 => ?_) (fun c75 => ?_)
          · replace hf := ow_if_f c75 hf
            refine lv_iload_n hx hb dX9_cell_83 rfl (lv_at hl 3 rfl) ?_
            exact hJ84 (((40 : Int32) * a1) + a2) a3 σ_35 _ _ _ hf hW (lv_sub hl [] rfl)
          · replace hf := ow_if_t c75 hf
            refine lv_iload_n hx hb dX9_cell_78 rfl (lv_at hl 3 rfl) ?_
            refine lv_i2s (v := (a3.toInt16.toInt32)) hx hb dX9_cell_79 rfl ?_
            refine lv_goto (tgt := 84) hx hb dX9_cell_80 (by decide) ?_
            exact hJ84 (((40 : Int32) * a1) + a2) (a3.toInt16.toInt32) σ_35 _ _ _ hf hW (lv_sub hl [] rfl)
        · replace hf := ow_if_t c60 hf
          refine lv_iload_n hx hb dX9_cell_63 rfl (lv_at hl 3 rfl) ?_
          refine lv_i2b (v := (a3.toInt8.toInt32)) hx hb dX9_cell_64 rfl ?_
          refine lv_goto (tgt := 84) hx hb dX9_cell_65 (by decide) ?_
          exact hJ84 (((40 : Int32) * a1) + a2) (a3.toInt8.toInt32) σ_35 _ _ _ hf hW (lv_sub hl [] rfl)
      · replace hf := ow_if_t c38 hf
        refine lv_bipush (v := -12) hx hb dX9_cell_41 (by decide) ?_
        exact ow_iret hx hb hr hW hf dX9_cell_43 hlocks
    · replace hf := ow_if_t c19 hf
      refine lv_bipush (v := -11) hx hb dX9_cell_22 (by decide) ?_
      exact ow_iret hx hb hr hW hf dX9_cell_24 hlocks
  · replace hf := ow_if_t c6 hf
    refine lv_bipush (v := -2) hx hb dX9_cell_9 (by decide) ?_
    exact ow_iret hx hb hr hW hf dX9_cell_11 hlocks
set_option maxHeartbeats 40000000 in
set_option maxRecDepth 100000 in
theorem c_X9_copy (l : Launch) (Z : ow_Z) (fu : Nat) (a1 : Int32) (a2 : Int32) (a3 : Int32) (a4 : Int32) (a5 : Int32) (σ : ow_S) (rr : Int32) (σr : ow_S) (hf : f_X9_copy fu a1 a2 a3 a4 a5 σ = some (rr, σr)) : Met l yX9_copy wsX9_copy { frames := 2, cells := 0, slots := 0, locals := 82 } (ow_Pc Z 56 20 [.ref (ow_ad Z 56), .int a1, .int a2, .int a3, .int a4, .int a5] σ) (ow_Qi Z 56 20 rr σr) 0 0 (ow_A Z 56 20) := by
  refine Met.ofW (cc := cX9_copy) (maxL := 10) (ret := (some .int)) (by decide) rfl ?_
  intro p e s m args below meth c s₁ B hml hv
  obtain ⟨hav, hB⟩ := hv
  obtain ⟨hG, hW⟩ := ow_begin hB
  have hx := B.exec
  have hb := B.bytes
  have hr := B.returns
  have hts := atoms_spec (ws := wsX9_copy) B.pre
  have hown : s.vm.findClass RX9 = some m.cls := findClass_of_methodNamed B.named
  have hlocks := B.notSynchronized
  have hinX9 : ∀ w ∈ wsX90, w ∈ wsX9_copy := by decide +kernel
  have hJ173 : ∀ (k147 : Int32 → Int32 → Int32 → Int32 → ow_S → Option (Int32 × ow_S)) (hk147 : ∀ (x5 : Int32) (x6 : Int32) (x7 : Int32) (x8 : Int32) (σ : ow_S) (H : Heap) (locs : List Loc) (ls : Array Slot), k147 x5 x6 x7 x8 σ = some (rr, σr) → ow_Wd Z 56 20 σ s H locs → lv_has ls 10 [(0, .ref (ow_ad Z 56)), (5, .int x5), (6, .int x6), (7, .int x7), (8, .int x8)] → W p l e (headSpec wsX9_copy { frames := 2, cells := 0, slots := 0, locals := 82 }).room s m args below meth c H locs 0 0 (MQ below (ow_Qi Z 56 20 rr σr) args s 0 0 (ow_A Z 56 20)) (F0 m 147 ls [])), ∀ (x5 : Int32) (x6 : Int32) (x7 : Int32) (x8 : Int32) (s0 : Int32) (σ : ow_S) (H : Heap) (locs : List Loc) (ls : Array Slot), L_X9_copy_173 fu k147 x5 x6 x7 x8 s0 σ = some (rr, σr) → ow_Wd Z 56 20 σ s H locs → lv_has ls 10 [(0, .ref (ow_ad Z 56)), (5, .int x5), (6, .int x6), (7, .int x7), (8, .int x8)] → W p l e (headSpec wsX9_copy { frames := 2, cells := 0, slots := 0, locals := 82 }).room s m args below meth c H locs 0 0 (MQ below (ow_Qi Z 56 20 rr σr) args s 0 0 (ow_A Z 56 20)) (F0 m 173 ls [.int s0]) := by
    intro k147 hk147 x5 x6 x7 x8 s0 σ H locs ls hf hW hl
    unfold L_X9_copy_173 at hf
    refine lv_istore (lv' := [(9, .int s0), (0, .ref (ow_ad Z 56)), (5, .int x5), (6, .int x6), (7, .int x7), (8, .int x8)]) hx hb dX9_copy_173 hl (by decide) rfl (fun ls hl => ?_)
    refine lv_aload_n hx hb dX9_copy_175 rfl (lv_at hl 1 rfl) ?_
    refine ow_getV (ci := 9) (C := RX9) (T := TX9) (N := 41) hx hb hts hown hG hW ow_i56 (by decide) rfl hinX9 22 (by decide) (fk := 2) rfl (hts (.fieldLink RX9 47 "FiftyOneCardsModel" "cells" "[I") (by decide +kernel)) (v := .ref (ow_ad Z 68)) (ow_vR hW ow_i56.1 ow_i56.2.1 rfl) dX9_copy_176 ?_
    refine lv_iload hx hb dX9_copy_179 (lv_at hl 4 rfl) ?_
    refine lv_iload hx hb dX9_copy_181 (lv_at hl 0 rfl) ?_
    refine lv_iadd hx hb dX9_copy_183 ?_
    refine lv_aload_n hx hb dX9_copy_184 rfl (lv_at hl 1 rfl) ?_
    refine ow_getV (ci := 9) (C := RX9) (T := TX9) (N := 41) hx hb hts hown hG hW ow_i56 (by decide) rfl hinX9 22 (by decide) (fk := 2) rfl (hts (.fieldLink RX9 47 "FiftyOneCardsModel" "cells" "[I") (by decide +kernel)) (v := .ref (ow_ad Z 68)) (ow_vR hW ow_i56.1 ow_i56.2.1 rfl) dX9_copy_185 ?_
    refine lv_iload hx hb dX9_copy_188 (lv_at hl 3 rfl) ?_
    refine lv_iload hx hb dX9_copy_190 (lv_at hl 0 rfl) ?_
    refine lv_iadd hx hb dX9_copy_192 ?_
    obtain ⟨q193, hf⟩ := ow_ck_i hf
    refine ow_ild (q := (x6 + s0).toNatClampNeg) hx hb hG hW ow_i68 rfl q193 rfl dX9_copy_193 ?_
    obtain ⟨q194, hf⟩ := ow_ck_i hf
    refine ow_ist (q := (x7 + s0).toNatClampNeg) hx hb hG hW ow_i68 rfl q194 rfl hf dX9_copy_194 (fun σ_194 H locs hf hW => ?_)
    refine ow_iinc (d := 1) (lv' := fun z => [(8, .int z), (9, .int s0), (0, .ref (ow_ad Z 56)), (5, .int x5), (6, .int x6), (7, .int x7)]) hx hb hf dX9_copy_195 hl (k := 5) rfl (by decide) (by decide) (fun z => rfl) (fun x8_195 hf ls hl => ?_)
    refine lv_goto (tgt := 147) hx hb dX9_copy_198 (by decide) ?_
    exact hk147 x5 x6 x7 x8_195 σ_194 _ _ _ hf hW (lv_sub hl [2, 3, 4, 5, 0] rfl)
  have hJ147 : ∀ (fn : Nat), ∀ (x5 : Int32) (x6 : Int32) (x7 : Int32) (x8 : Int32) (σ : ow_S) (H : Heap) (locs : List Loc) (ls : Array Slot), L_X9_copy_147 fu fn x5 x6 x7 x8 σ = some (rr, σr) → ow_Wd Z 56 20 σ s H locs → lv_has ls 10 [(0, .ref (ow_ad Z 56)), (5, .int x5), (6, .int x6), (7, .int x7), (8, .int x8)] → W p l e (headSpec wsX9_copy { frames := 2, cells := 0, slots := 0, locals := 82 }).room s m args below meth c H locs 0 0 (MQ below (ow_Qi Z 56 20 rr σr) args s 0 0 (ow_A Z 56 20)) (F0 m 147 ls []) := by
    intro fn
    induction fn with
    | zero => intro x5 x6 x7 x8 σ H locs ls hf hW hl; simp [L_X9_copy_147] at hf
    | succ fn ih =>
      intro x5 x6 x7 x8 σ H locs ls hf hW hl
      rw [L_X9_copy_147] at hf
      refine lv_iload hx hb dX9_copy_147 (lv_at hl 4 rfl) ?_
      refine lv_iload hx hb dX9_copy_149 (lv_at hl 1 rfl) ?_
      refine lv_icmp_ge (tgt := 201) hx hb dX9_copy_151 (by decide) (fun c151 => ?_) (fun c151 => ?_)
      · replace hf := ow_if_t c151 hf
        refine lv_iload hx hb dX9_copy_201 (lv_at hl 1 rfl) ?_
        exact ow_iret hx hb hr hW hf dX9_copy_203 hlocks
      · replace hf := ow_if_f c151 hf
        refine lv_iload hx hb dX9_copy_154 (lv_at hl 2 rfl) ?_
        refine lv_iload hx hb dX9_copy_156 (lv_at hl 3 rfl) ?_
        refine lv_icmp_ge (tgt := 171) hx hb dX9_copy_158 (by decide) (fun c158 => ?_) (fun c158 => ?_)
        · replace hf := ow_if_t c158 hf
          refine lv_iload hx hb dX9_copy_171 (lv_at hl 4 rfl) ?_
          exact hJ173 (L_X9_copy_147 fu fn) ih x5 x6 x7 x8 x8 σ _ _ _ hf hW (lv_sub hl [0, 1, 2, 3, 4] rfl)
        · replace hf := ow_if_f c158 hf
          refine lv_iload hx hb dX9_copy_161 (lv_at hl 1 rfl) ?_
          refine lv_iconst (v := 1) hx hb dX9_copy_163 (by decide) ?_
          refine lv_isub hx hb dX9_copy_164 ?_
          refine lv_iload hx hb dX9_copy_165 (lv_at hl 4 rfl) ?_
          refine lv_isub hx hb dX9_copy_167 ?_
          refine lv_goto (tgt := 173) hx hb dX9_copy_168 (by decide) ?_
          exact hJ173 (L_X9_copy_147 fu fn) ih x5 x6 x7 x8 ((x5 - (1 : Int32)) - x8) σ _ _ _ hf hW (lv_sub hl [0, 1, 2, 3, 4] rfl)
  have hl := lv_entry ([.ref (ow_ad Z 56), .int a1, .int a2, .int a3, .int a4, .int a5]) (n := 10) (Nat.le_of_ble_eq_true rfl)
  refine W.eq (g2 := F0 m 0 ((lg_sl ([.ref (ow_ad Z 56), .int a1, .int a2, .int a3, .int a4, .int a5]) ++ List.replicate (10 - (lg_sl ([.ref (ow_ad Z 56), .int a1, .int a2, .int a3, .int a4, .int a5])).length) Slot.unset).toArray) []) (by rw [hav]; exact lg_entry_eq _ _ _) ?_
  generalize (lg_sl ([.ref (ow_ad Z 56), .int a1, .int a2, .int a3, .int a4, .int a5]) ++ List.replicate (10 - (lg_sl ([.ref (ow_ad Z 56), .int a1, .int a2, .int a3, .int a4, .int a5])).length) Slot.unset).toArray = ls at hl ⊢
  have hl : lv_has ls 10 [(0, .ref (ow_ad Z 56)), (1, .int a1), (2, .int a2), (3, .int a3), (4, .int a4), (5, .int a5)] := hl
  unfold f_X9_copy at hf
  refine lv_iload_n hx hb dX9_copy_0 rfl (lv_at hl 1 rfl) ?_
  refine lv_iconst (v := 0) hx hb dX9_copy_1 (by decide) ?_
  refine lv_iconst (v := 3) hx hb dX9_copy_2 (by decide) ?_
  obtain ⟨r_3, σ_3, hc3, hf⟩ := ow_cl_i hf
  refine ow_callz (va_runS (As := [.int a1, .int (0 : Int32), .int (3 : Int32)]) (rest := []) ⟨hx, hb, hml, hown, hts⟩ (c_X9_in l Z fu a1 (0 : Int32) (3 : Int32) σ r_3 σ_3 hc3) (va_cwS 3 hts gX9_copy_X9_in rfl rfl rfl (by decide +kernel) ⟨Nat.le_of_ble_eq_true rfl, Nat.le_of_ble_eq_true rfl⟩) (ow_preS hG hW) rfl rfl hl.1 rfl (lv_room (Nat.le_of_ble_eq_true rfl)) dX9_copy_3 ⟨Nat.zero_le _, Nat.zero_le _⟩) hW (fun b3 H locs hW => ?_)
  refine lv_if_eq (tgt := 18) hx hb dX9_copy_6 (by decide) (fun c6 => ?_) (fun c6 => ?_)
  · replace hf := ow_if_t c6 hf
    refine lv_bipush (v := -2) hx hb dX9_copy_18 (by decide) ?_
    exact ow_iret hx hb hr hW hf dX9_copy_20 hlocks
  · replace hf := ow_if_f c6 hf
    refine lv_iload_n hx hb dX9_copy_9 rfl (lv_at hl 3 rfl) ?_
    refine lv_iconst (v := 0) hx hb dX9_copy_10 (by decide) ?_
    refine lv_iconst (v := 3) hx hb dX9_copy_11 (by decide) ?_
    obtain ⟨r_12, σ_12, hc12, hf⟩ := ow_cl_i hf
    refine ow_callz (va_runS (As := [.int a3, .int (0 : Int32), .int (3 : Int32)]) (rest := []) ⟨hx, hb, hml, hown, hts⟩ (c_X9_in l Z fu a3 (0 : Int32) (3 : Int32) σ_3 r_12 σ_12 hc12) (va_cwS 3 hts gX9_copy_X9_in rfl rfl rfl (by decide +kernel) ⟨Nat.le_of_ble_eq_true rfl, Nat.le_of_ble_eq_true rfl⟩) (ow_preS hG hW) rfl rfl hl.1 rfl (lv_room (Nat.le_of_ble_eq_true rfl)) dX9_copy_12 ⟨Nat.zero_le _, Nat.zero_le _⟩) hW (fun b12 H locs hW => ?_)
    refine lv_if_ne (tgt := 21) hx hb dX9_copy_15 (by decide) (fun c15 => ?_) (fun c15 => ?_)
    · replace hf := ow_if_f c15 hf
      refine lv_aload_n hx hb dX9_copy_21 rfl (lv_at hl 0 rfl) ?_
      refine ow_getV (ci := 9) (C := RX9) (T := TX9) (N := 41) hx hb hts hown hG hW ow_i56 (by decide) rfl hinX9 20 (by decide) (fk := 2) rfl (hts (.fieldLink RX9 41 "FiftyOneCardsModel" "sheetSort" "[I") (by decide +kernel)) (v := .ref (ow_ad Z 66)) (ow_vR hW ow_i56.1 ow_i56.2.1 rfl) dX9_copy_22 ?_
      refine lv_iload_n hx hb dX9_copy_25 rfl (lv_at hl 1 rfl) ?_
      obtain ⟨q26, hf⟩ := ow_ck_i hf
      refine ow_ild (q := a1.toNatClampNeg) hx hb hG hW ow_i66 rfl q26 rfl dX9_copy_26 ?_
      refine lv_iconst (v := -1) hx hb dX9_copy_27 (by decide) ?_
      refine lv_icmp_eq (tgt := 41) hx hb dX9_copy_28 (by decide) (fun c28 => ?_) (fun c28 => ?_)
      · replace hf := ow_if_t c28 hf
        refine lv_bipush (v := -11) hx hb dX9_copy_41 (by decide) ?_
        exact ow_iret hx hb hr hW hf dX9_copy_43 hlocks
      · replace hf := ow_if_f c28 hf
        refine lv_aload_n hx hb dX9_copy_31 rfl (lv_at hl 0 rfl) ?_
        refine ow_getV (ci := 9) (C := RX9) (T := TX9) (N := 41) hx hb hts hown hG hW ow_i56 (by decide) rfl hinX9 20 (by decide) (fk := 2) rfl (hts (.fieldLink RX9 41 "FiftyOneCardsModel" "sheetSort" "[I") (by decide +kernel)) (v := .ref (ow_ad Z 66)) (ow_vR hW ow_i56.1 ow_i56.2.1 rfl) dX9_copy_32 ?_
        refine lv_iload_n hx hb dX9_copy_35 rfl (lv_at hl 3 rfl) ?_
        obtain ⟨q36, hf⟩ := ow_ck_i hf
        refine ow_ild (q := a3.toNatClampNeg) hx hb hG hW ow_i66 rfl q36 rfl dX9_copy_36 ?_
        refine lv_iconst (v := -1) hx hb dX9_copy_37 (by decide) ?_
        refine lv_icmp_ne (tgt := 44) hx hb dX9_copy_38 (by decide) (fun c38 => ?_) (fun c38 => ?_)
        · replace hf := ow_if_f c38 hf
          refine lv_aload_n hx hb dX9_copy_44 rfl (lv_at hl 0 rfl) ?_
          refine ow_getV (ci := 9) (C := RX9) (T := TX9) (N := 41) hx hb hts hown hG hW ow_i56 (by decide) rfl hinX9 20 (by decide) (fk := 2) rfl (hts (.fieldLink RX9 41 "FiftyOneCardsModel" "sheetSort" "[I") (by decide +kernel)) (v := .ref (ow_ad Z 66)) (ow_vR hW ow_i56.1 ow_i56.2.1 rfl) dX9_copy_45 ?_
          refine lv_iload_n hx hb dX9_copy_48 rfl (lv_at hl 1 rfl) ?_
          obtain ⟨q49, hf⟩ := ow_ck_i hf
          refine ow_ild (q := a1.toNatClampNeg) hx hb hG hW ow_i66 rfl q49 rfl dX9_copy_49 ?_
          refine lv_aload_n hx hb dX9_copy_50 rfl (lv_at hl 0 rfl) ?_
          refine ow_getV (ci := 9) (C := RX9) (T := TX9) (N := 41) hx hb hts hown hG hW ow_i56 (by decide) rfl hinX9 20 (by decide) (fk := 2) rfl (hts (.fieldLink RX9 41 "FiftyOneCardsModel" "sheetSort" "[I") (by decide +kernel)) (v := .ref (ow_ad Z 66)) (ow_vR hW ow_i56.1 ow_i56.2.1 rfl) dX9_copy_51 ?_
          refine lv_iload_n hx hb dX9_copy_54 rfl (lv_at hl 3 rfl) ?_
          obtain ⟨q55, hf⟩ := ow_ck_i hf
          refine ow_ild (q := a3.toNatClampNeg) hx hb hG hW ow_i66 rfl q55 rfl dX9_copy_55 ?_
          refine lv_icmp_eq (tgt := 62) hx hb dX9_copy_56 (by decide) (fun c56 => ?_) (fun c56 => ?_)
          · replace hf := ow_if_t c56 hf
            refine lv_iload hx hb dX9_copy_62 (lv_at hl 5 rfl) ?_
            refine lv_if_lt (tgt := 124) hx hb dX9_copy_64 (by decide) (fun c64 => ?_) (fun c64 => ?_)
            · replace hf := ow_if_t c64 hf
              refine lv_bipush (v := -12) hx hb dX9_copy_124 (by decide) ?_
              exact ow_iret hx hb hr hW hf dX9_copy_126 hlocks
            · replace hf := ow_if_f c64 hf
              refine lv_iload_n hx hb dX9_copy_67 rfl (lv_at hl 2 rfl) ?_
              refine lv_if_lt (tgt := 124) hx hb dX9_copy_68 (by decide) (fun c68 => ?_) (fun c68 => ?_)
              · replace hf := ow_if_t c68 hf
                refine lv_bipush (v := -12) hx hb dX9_copy_124 (by decide) ?_
                exact ow_iret hx hb hr hW hf dX9_copy_126 hlocks
              · replace hf := ow_if_f c68 hf
                refine lv_iload hx hb dX9_copy_71 (lv_at hl 4 rfl) ?_
                refine lv_if_lt (tgt := 124) hx hb dX9_copy_73 (by decide) (fun c73 => ?_) (fun c73 => ?_)
                · replace hf := ow_if_t c73 hf
                  refine lv_bipush (v := -12) hx hb dX9_copy_124 (by decide) ?_
                  exact ow_iret hx hb hr hW hf dX9_copy_126 hlocks
                · replace hf := ow_if_f c73 hf
                  refine lv_iload_n hx hb dX9_copy_76 rfl (lv_at hl 2 rfl) ?_
                  refine lv_aload_n hx hb dX9_copy_77 rfl (lv_at hl 0 rfl) ?_
                  refine ow_getV (ci := 9) (C := RX9) (T := TX9) (N := 41) hx hb hts hown hG hW ow_i56 (by decide) rfl hinX9 21 (by decide) (fk := 2) rfl (hts (.fieldLink RX9 44 "FiftyOneCardsModel" "sheetSize" "[I") (by decide +kernel)) (v := .ref (ow_ad Z 67)) (ow_vR hW ow_i56.1 ow_i56.2.1 rfl) dX9_copy_78 ?_
                  refine lv_iload_n hx hb dX9_copy_81 rfl (lv_at hl 1 rfl) ?_
                  obtain ⟨q82, hf⟩ := ow_ck_i hf
                  refine ow_ild (q := a1.toNatClampNeg) hx hb hG hW ow_i67 rfl q82 rfl dX9_copy_82 ?_
                  refine lv_icmp_gt (tgt := 124) hx hb dX9_copy_83 (by decide) (fun c83 => ?_) (fun c83 => ?_)
                  · replace hf := ow_if_t c83 hf
                    refine lv_bipush (v := -12) hx hb dX9_copy_124 (by decide) ?_
                    exact ow_iret hx hb hr hW hf dX9_copy_126 hlocks
                  · replace hf := ow_if_f c83 hf
                    refine lv_iload hx hb dX9_copy_86 (lv_at hl 4 rfl) ?_
                    refine lv_aload_n hx hb dX9_copy_88 rfl (lv_at hl 0 rfl) ?_
                    refine ow_getV (ci := 9) (C := RX9) (T := TX9) (N := 41) hx hb hts hown hG hW ow_i56 (by decide) rfl hinX9 21 (by decide) (fk := 2) rfl (hts (.fieldLink RX9 44 "FiftyOneCardsModel" "sheetSize" "[I") (by decide +kernel)) (v := .ref (ow_ad Z 67)) (ow_vR hW ow_i56.1 ow_i56.2.1 rfl) dX9_copy_89 ?_
                    refine lv_iload_n hx hb dX9_copy_92 rfl (lv_at hl 3 rfl) ?_
                    obtain ⟨q93, hf⟩ := ow_ck_i hf
                    refine ow_ild (q := a3.toNatClampNeg) hx hb hG hW ow_i67 rfl q93 rfl dX9_copy_93 ?_
                    refine lv_icmp_gt (tgt := 124) hx hb dX9_copy_94 (by decide) (fun c94 => ?_) (fun c94 => ?_)
                    · replace hf := ow_if_t c94 hf
                      refine lv_bipush (v := -12) hx hb dX9_copy_124 (by decide) ?_
                      exact ow_iret hx hb hr hW hf dX9_copy_126 hlocks
                    · replace hf := ow_if_f c94 hf
                      refine lv_iload hx hb dX9_copy_97 (lv_at hl 5 rfl) ?_
                      refine lv_aload_n hx hb dX9_copy_99 rfl (lv_at hl 0 rfl) ?_
                      refine ow_getV (ci := 9) (C := RX9) (T := TX9) (N := 41) hx hb hts hown hG hW ow_i56 (by decide) rfl hinX9 21 (by decide) (fk := 2) rfl (hts (.fieldLink RX9 44 "FiftyOneCardsModel" "sheetSize" "[I") (by decide +kernel)) (v := .ref (ow_ad Z 67)) (ow_vR hW ow_i56.1 ow_i56.2.1 rfl) dX9_copy_100 ?_
                      refine lv_iload_n hx hb dX9_copy_103 rfl (lv_at hl 1 rfl) ?_
                      obtain ⟨q104, hf⟩ := ow_ck_i hf
                      refine ow_ild (q := a1.toNatClampNeg) hx hb hG hW ow_i67 rfl q104 rfl dX9_copy_104 ?_
                      refine lv_iload_n hx hb dX9_copy_105 rfl (lv_at hl 2 rfl) ?_
                      refine lv_isub hx hb dX9_copy_106 ?_
                      refine lv_icmp_gt (tgt := 124) hx hb dX9_copy_107 (by decide) (fun c107 => ?_) (fun c107 => ?_)
                      · replace hf := ow_if_t c107 hf
                        refine lv_bipush (v := -12) hx hb dX9_copy_124 (by decide) ?_
                        exact ow_iret hx hb hr hW hf dX9_copy_126 hlocks
                      · replace hf := ow_if_f c107 hf
                        refine lv_iload hx hb dX9_copy_110 (lv_at hl 5 rfl) ?_
                        refine lv_aload_n hx hb dX9_copy_112 rfl (lv_at hl 0 rfl) ?_
                        refine ow_getV (ci := 9) (C := RX9) (T := TX9) (N := 41) hx hb hts hown hG hW ow_i56 (by decide) rfl hinX9 21 (by decide) (fk := 2) rfl (hts (.fieldLink RX9 44 "FiftyOneCardsModel" "sheetSize" "[I") (by decide +kernel)) (v := .ref (ow_ad Z 67)) (ow_vR hW ow_i56.1 ow_i56.2.1 rfl) dX9_copy_113 ?_
                        refine lv_iload_n hx hb dX9_copy_116 rfl (lv_at hl 3 rfl) ?_
                        obtain ⟨q117, hf⟩ := ow_ck_i hf
                        refine ow_ild (q := a3.toNatClampNeg) hx hb hG hW ow_i67 rfl q117 rfl dX9_copy_117 ?_
                        refine lv_iload hx hb dX9_copy_118 (lv_at hl 4 rfl) ?_
                        refine lv_isub hx hb dX9_copy_120 ?_
                        refine lv_icmp_le (tgt := 127) hx hb dX9_copy_121 (by decide) (fun c121 => ?_) (fun c121 => ?_)
                        · replace hf := ow_if_t c121 hf
                          refine lv_bipush (v := 40) hx hb dX9_copy_127 (by decide) ?_
                          refine lv_iload_n hx hb dX9_copy_129 rfl (lv_at hl 1 rfl) ?_
                          refine lv_imul hx hb dX9_copy_130 ?_
                          refine lv_iload_n hx hb dX9_copy_131 rfl (lv_at hl 2 rfl) ?_
                          refine lv_iadd hx hb dX9_copy_132 ?_
                          refine ow_topi hf (fun x6_133 hf => ?_)
                          refine lv_istore (lv' := [(6, .int x6_133), (0, .ref (ow_ad Z 56)), (1, .int a1), (2, .int a2), (3, .int a3), (4, .int a4), (5, .int a5)]) hx hb dX9_copy_133 hl (by decide) rfl (fun ls hl => ?_)
                          refine lv_bipush (v := 40) hx hb dX9_copy_135 (by decide) ?_
                          refine lv_iload_n hx hb dX9_copy_137 rfl (lv_at hl 4 rfl) ?_
                          refine lv_imul hx hb dX9_copy_138 ?_
                          refine lv_iload hx hb dX9_copy_139 (lv_at hl 5 rfl) ?_
                          refine lv_iadd hx hb dX9_copy_141 ?_
                          refine ow_topi hf (fun x7_142 hf => ?_)
                          refine lv_istore (lv' := [(7, .int x7_142), (6, .int x6_133), (0, .ref (ow_ad Z 56)), (1, .int a1), (2, .int a2), (3, .int a3), (4, .int a4), (5, .int a5)]) hx hb dX9_copy_142 hl (by decide) rfl (fun ls hl => ?_)
                          refine lv_iconst (v := 0) hx hb dX9_copy_144 (by decide) ?_
                          refine lv_istore (lv' := [(8, .int (0 : Int32)), (7, .int x7_142), (6, .int x6_133), (0, .ref (ow_ad Z 56)), (1, .int a1), (2, .int a2), (3, .int a3), (4, .int a4), (5, .int a5)]) hx hb dX9_copy_145 hl (by decide) rfl (fun ls hl => ?_)
                          exact hJ147 fu a5 x6_133 x7_142 (0 : Int32) σ_12 _ _ _ hf hW (lv_sub hl [3, 8, 2, 1, 0] rfl)
                        · replace hf := ow_if_f c121 hf
                          refine lv_bipush (v := -12) hx hb dX9_copy_124 (by decide) ?_
                          exact ow_iret hx hb hr hW hf dX9_copy_126 hlocks
          · replace hf := ow_if_f c56 hf
            refine lv_bipush (v := -13) hx hb dX9_copy_59 (by decide) ?_
            exact ow_iret hx hb hr hW hf dX9_copy_61 hlocks
        · replace hf := ow_if_t c38 hf
          refine lv_bipush (v := -11) hx hb dX9_copy_41 (by decide) ?_
          exact ow_iret hx hb hr hW hf dX9_copy_43 hlocks
    · replace hf := ow_if_t c15 hf
      refine lv_bipush (v := -2) hx hb dX9_copy_18 (by decide) ?_
      exact ow_iret hx hb hr hW hf dX9_copy_20 hlocks
set_option maxHeartbeats 40000000 in
set_option maxRecDepth 100000 in
theorem c_X9_cardsBy (l : Launch) (Z : ow_Z) (fu : Nat) (a1 : Int32) (a2 : Int32) (a3 : Int32) (a4 : Int32) (σ : ow_S) (rr : Int32) (σr : ow_S) (hf : f_X9_cardsBy fu a1 a2 a3 a4 σ = some (rr, σr)) : Met l yX9_cardsBy wsX9_cardsBy { frames := 4, cells := 0, slots := 0, locals := 124 } (ow_Pc Z 56 20 [.ref (ow_ad Z 56), .int a1, .int a2, .int a3, .int a4] σ) (ow_Qi Z 56 20 rr σr) 0 0 (ow_A Z 56 20) := by
  refine Met.ofW (cc := cX9_cardsBy) (maxL := 9) (ret := (some .int)) (by decide) rfl ?_
  intro p e s m args below meth c s₁ B hml hv
  obtain ⟨hav, hB⟩ := hv
  obtain ⟨hG, hW⟩ := ow_begin hB
  have hx := B.exec
  have hb := B.bytes
  have hr := B.returns
  have hts := atoms_spec (ws := wsX9_cardsBy) B.pre
  have hown : s.vm.findClass RX9 = some m.cls := findClass_of_methodNamed B.named
  have hlocks := B.notSynchronized
  have hinX9 : ∀ w ∈ wsX90, w ∈ wsX9_cardsBy := by decide +kernel
  have hJ135 : ∀ (k64 : Int32 → Int32 → Int32 → Int32 → Int32 → ow_S → Option (Int32 × ow_S)) (hk64 : ∀ (x1 : Int32) (x3 : Int32) (x4 : Int32) (x5 : Int32) (x6 : Int32) (σ : ow_S) (H : Heap) (locs : List Loc) (ls : Array Slot), k64 x1 x3 x4 x5 x6 σ = some (rr, σr) → ow_Wd Z 56 20 σ s H locs → lv_has ls 9 [(0, .ref (ow_ad Z 56)), (1, .int x1), (3, .int x3), (4, .int x4), (5, .int x5), (6, .int x6)] → W p l e (headSpec wsX9_cardsBy { frames := 4, cells := 0, slots := 0, locals := 124 }).room s m args below meth c H locs 0 0 (MQ below (ow_Qi Z 56 20 rr σr) args s 0 0 (ow_A Z 56 20)) (F0 m 64 ls [])), ∀ (x1 : Int32) (x3 : Int32) (x4 : Int32) (x6 : Int32) (s0 : Int32) (s1 : Int32) (σ : ow_S) (H : Heap) (locs : List Loc) (ls : Array Slot), L_X9_cardsBy_135 fu k64 x1 x3 x4 x6 s0 s1 σ = some (rr, σr) → ow_Wd Z 56 20 σ s H locs → lv_has ls 9 [(0, .ref (ow_ad Z 56)), (1, .int x1), (3, .int x3), (4, .int x4), (6, .int x6)] → W p l e (headSpec wsX9_cardsBy { frames := 4, cells := 0, slots := 0, locals := 124 }).room s m args below meth c H locs 0 0 (MQ below (ow_Qi Z 56 20 rr σr) args s 0 0 (ow_A Z 56 20)) (F0 m 135 ls [.int s1, .int s0]) := by
    intro k64 hk64 x1 x3 x4 x6 s0 s1 σ H locs ls hf hW hl
    unfold L_X9_cardsBy_135 at hf
    refine lv_iadd hx hb dX9_cardsBy_135 ?_
    refine ow_topi hf (fun x5_136 hf => ?_)
    refine lv_istore (lv' := [(5, .int x5_136), (0, .ref (ow_ad Z 56)), (1, .int x1), (3, .int x3), (4, .int x4), (6, .int x6)]) hx hb dX9_cardsBy_136 hl (by decide) rfl (fun ls hl => ?_)
    refine ow_iinc (d := 1) (lv' := fun z => [(6, .int z), (5, .int x5_136), (0, .ref (ow_ad Z 56)), (1, .int x1), (3, .int x3), (4, .int x4)]) hx hb hf dX9_cardsBy_138 hl (k := 5) rfl (by decide) (by decide) (fun z => rfl) (fun x6_138 hf ls hl => ?_)
    refine lv_goto (tgt := 64) hx hb dX9_cardsBy_141 (by decide) ?_
    exact hk64 x1 x3 x4 x5_136 x6_138 σ _ _ _ hf hW (lv_sub hl [2, 3, 4, 5, 1, 0] rfl)
  have hJ64 : ∀ (fn : Nat), ∀ (x1 : Int32) (x3 : Int32) (x4 : Int32) (x5 : Int32) (x6 : Int32) (σ : ow_S) (H : Heap) (locs : List Loc) (ls : Array Slot), L_X9_cardsBy_64 fu fn x1 x3 x4 x5 x6 σ = some (rr, σr) → ow_Wd Z 56 20 σ s H locs → lv_has ls 9 [(0, .ref (ow_ad Z 56)), (1, .int x1), (3, .int x3), (4, .int x4), (5, .int x5), (6, .int x6)] → W p l e (headSpec wsX9_cardsBy { frames := 4, cells := 0, slots := 0, locals := 124 }).room s m args below meth c H locs 0 0 (MQ below (ow_Qi Z 56 20 rr σr) args s 0 0 (ow_A Z 56 20)) (F0 m 64 ls []) := by
    intro fn
    induction fn with
    | zero => intro x1 x3 x4 x5 x6 σ H locs ls hf hW hl; simp [L_X9_cardsBy_64] at hf
    | succ fn ih =>
      intro x1 x3 x4 x5 x6 σ H locs ls hf hW hl
      rw [L_X9_cardsBy_64] at hf
      refine lv_iload hx hb dX9_cardsBy_64 (lv_at hl 5 rfl) ?_
      refine lv_iload hx hb dX9_cardsBy_66 (lv_at hl 3 rfl) ?_
      refine lv_icmp_ge (tgt := 144) hx hb dX9_cardsBy_68 (by decide) (fun c68 => ?_) (fun c68 => ?_)
      · replace hf := ow_if_t c68 hf
        refine lv_iload hx hb dX9_cardsBy_144 (lv_at hl 4 rfl) ?_
        exact ow_iret hx hb hr hW hf dX9_cardsBy_146 hlocks
      · replace hf := ow_if_f c68 hf
        refine lv_iload_n hx hb dX9_cardsBy_71 rfl (lv_at hl 2 rfl) ?_
        refine lv_iconst (v := 1) hx hb dX9_cardsBy_72 (by decide) ?_
        refine lv_iload hx hb dX9_cardsBy_73 (lv_at hl 5 rfl) ?_
        refine lv_imul hx hb dX9_cardsBy_75 ?_
        refine lv_iadd hx hb dX9_cardsBy_76 ?_
        refine ow_topi hf (fun x7_77 hf => ?_)
        refine lv_istore (lv' := [(7, .int x7_77), (0, .ref (ow_ad Z 56)), (1, .int x1), (3, .int x3), (4, .int x4), (5, .int x5), (6, .int x6)]) hx hb dX9_cardsBy_77 hl (by decide) rfl (fun ls hl => ?_)
        refine lv_iload_n hx hb dX9_cardsBy_79 rfl (lv_at hl 3 rfl) ?_
        refine lv_if_lt (tgt := 102) hx hb dX9_cardsBy_80 (by decide) (fun c80 => ?_) (fun c80 => ?_)
        · replace hf := ow_if_t c80 hf
          refine lv_bipush (v := -12) hx hb dX9_cardsBy_102 (by decide) ?_
          exact ow_iret hx hb hr hW hf dX9_cardsBy_104 hlocks
        · replace hf := ow_if_f c80 hf
          refine lv_iload hx hb dX9_cardsBy_83 (lv_at hl 0 rfl) ?_
          refine lv_iload_n hx hb dX9_cardsBy_85 rfl (lv_at hl 3 rfl) ?_
          refine lv_icmp_lt (tgt := 102) hx hb dX9_cardsBy_86 (by decide) (fun c86 => ?_) (fun c86 => ?_)
          · replace hf := ow_if_t c86 hf
            refine lv_bipush (v := -12) hx hb dX9_cardsBy_102 (by decide) ?_
            exact ow_iret hx hb hr hW hf dX9_cardsBy_104 hlocks
          · replace hf := ow_if_f c86 hf
            refine lv_iload hx hb dX9_cardsBy_89 (lv_at hl 0 rfl) ?_
            refine lv_aload_n hx hb dX9_cardsBy_91 rfl (lv_at hl 1 rfl) ?_
            refine ow_getV (ci := 9) (C := RX9) (T := TX9) (N := 41) hx hb hts hown hG hW ow_i56 (by decide) rfl hinX9 21 (by decide) (fk := 2) rfl (hts (.fieldLink RX9 44 "FiftyOneCardsModel" "sheetSize" "[I") (by decide +kernel)) (v := .ref (ow_ad Z 67)) (ow_vR hW ow_i56.1 ow_i56.2.1 rfl) dX9_cardsBy_92 ?_
            refine lv_iload_n hx hb dX9_cardsBy_95 rfl (lv_at hl 2 rfl) ?_
            obtain ⟨q96, hf⟩ := ow_ck_i hf
            refine ow_ild (q := x1.toNatClampNeg) hx hb hG hW ow_i67 rfl q96 rfl dX9_cardsBy_96 ?_
            refine lv_iconst (v := 1) hx hb dX9_cardsBy_97 (by decide) ?_
            refine lv_isub hx hb dX9_cardsBy_98 ?_
            refine lv_icmp_le (tgt := 105) hx hb dX9_cardsBy_99 (by decide) (fun c99 => ?_) (fun c99 => ?_)
            · replace hf := ow_if_t c99 hf
              refine lv_bipush (v := 40) hx hb dX9_cardsBy_105 (by decide) ?_
              refine lv_iload_n hx hb dX9_cardsBy_107 rfl (lv_at hl 2 rfl) ?_
              refine lv_imul hx hb dX9_cardsBy_108 ?_
              refine lv_iload hx hb dX9_cardsBy_109 (lv_at hl 0 rfl) ?_
              refine lv_iadd hx hb dX9_cardsBy_111 ?_
              refine ow_topi hf (fun x8_112 hf => ?_)
              refine lv_istore (lv' := [(8, .int x8_112), (7, .int x7_77), (0, .ref (ow_ad Z 56)), (1, .int x1), (3, .int x3), (4, .int x4), (5, .int x5), (6, .int x6)]) hx hb dX9_cardsBy_112 hl (by decide) rfl (fun ls hl => ?_)
              refine lv_iload hx hb dX9_cardsBy_114 (lv_at hl 6 rfl) ?_
              refine lv_aload_n hx hb dX9_cardsBy_116 rfl (lv_at hl 2 rfl) ?_
              refine lv_aload_n hx hb dX9_cardsBy_117 rfl (lv_at hl 2 rfl) ?_
              refine ow_getV (ci := 9) (C := RX9) (T := TX9) (N := 41) hx hb hts hown hG hW ow_i56 (by decide) rfl hinX9 22 (by decide) (fk := 2) rfl (hts (.fieldLink RX9 47 "FiftyOneCardsModel" "cells" "[I") (by decide +kernel)) (v := .ref (ow_ad Z 68)) (ow_vR hW ow_i56.1 ow_i56.2.1 rfl) dX9_cardsBy_118 ?_
              refine lv_iload hx hb dX9_cardsBy_121 (lv_at hl 0 rfl) ?_
              obtain ⟨q123, hf⟩ := ow_ck_i hf
              refine ow_ild (q := x8_112.toNatClampNeg) hx hb hG hW ow_i68 rfl q123 rfl dX9_cardsBy_123 ?_
              obtain ⟨r_124, σ_124, hc124, hf⟩ := ow_cl_i hf
              refine ow_calli (va_runV (As := [.int (σ.1 68 x8_112.toNatClampNeg)]) (rest := [.int x5]) ⟨hx, hb, hml, hown, hts⟩ (c_X9_card l Z fu (σ.1 68 x8_112.toNatClampNeg) σ r_124 σ_124 hc124) (cwV 1 hts gX9_cardsBy_X9_card rfl rfl rfl (by decide +kernel) ⟨Nat.le_of_ble_eq_true rfl, Nat.le_of_ble_eq_true rfl⟩) (ow_preV hG hW ow_i56 (by decide) rfl) rfl rfl hl.1 rfl (lv_room (Nat.le_of_ble_eq_true rfl)) dX9_cardsBy_124 ⟨Nat.zero_le _, Nat.zero_le _⟩) hW (fun H locs hW => ?_)
              refine lv_if_lt (tgt := 134) hx hb dX9_cardsBy_127 (by decide) (fun c127 => ?_) (fun c127 => ?_)
              · replace hf := ow_if_t c127 hf
                refine lv_iconst (v := 0) hx hb dX9_cardsBy_134 (by decide) ?_
                exact hJ135 (L_X9_cardsBy_64 fu fn) ih x1 x3 x4 x6 x5 (0 : Int32) σ_124 _ _ _ hf hW (lv_sub hl [2, 3, 4, 5, 7] rfl)
              · replace hf := ow_if_f c127 hf
                refine lv_iconst (v := 1) hx hb dX9_cardsBy_130 (by decide) ?_
                refine lv_goto (tgt := 135) hx hb dX9_cardsBy_131 (by decide) ?_
                exact hJ135 (L_X9_cardsBy_64 fu fn) ih x1 x3 x4 x6 x5 (1 : Int32) σ_124 _ _ _ hf hW (lv_sub hl [2, 3, 4, 5, 7] rfl)
            · replace hf := ow_if_f c99 hf
              refine lv_bipush (v := -12) hx hb dX9_cardsBy_102 (by decide) ?_
              exact ow_iret hx hb hr hW hf dX9_cardsBy_104 hlocks
  have hl := lv_entry ([.ref (ow_ad Z 56), .int a1, .int a2, .int a3, .int a4]) (n := 9) (Nat.le_of_ble_eq_true rfl)
  refine W.eq (g2 := F0 m 0 ((lg_sl ([.ref (ow_ad Z 56), .int a1, .int a2, .int a3, .int a4]) ++ List.replicate (9 - (lg_sl ([.ref (ow_ad Z 56), .int a1, .int a2, .int a3, .int a4])).length) Slot.unset).toArray) []) (by rw [hav]; exact lg_entry_eq _ _ _) ?_
  generalize (lg_sl ([.ref (ow_ad Z 56), .int a1, .int a2, .int a3, .int a4]) ++ List.replicate (9 - (lg_sl ([.ref (ow_ad Z 56), .int a1, .int a2, .int a3, .int a4])).length) Slot.unset).toArray = ls at hl ⊢
  have hl : lv_has ls 9 [(0, .ref (ow_ad Z 56)), (1, .int a1), (2, .int a2), (3, .int a3), (4, .int a4)] := hl
  unfold f_X9_cardsBy at hf
  refine lv_iload_n hx hb dX9_cardsBy_0 rfl (lv_at hl 1 rfl) ?_
  refine lv_iconst (v := 0) hx hb dX9_cardsBy_1 (by decide) ?_
  refine lv_iconst (v := 3) hx hb dX9_cardsBy_2 (by decide) ?_
  obtain ⟨r_3, σ_3, hc3, hf⟩ := ow_cl_i hf
  refine ow_callz (va_runS (As := [.int a1, .int (0 : Int32), .int (3 : Int32)]) (rest := []) ⟨hx, hb, hml, hown, hts⟩ (c_X9_in l Z fu a1 (0 : Int32) (3 : Int32) σ r_3 σ_3 hc3) (va_cwS 3 hts gX9_cardsBy_X9_in rfl rfl rfl (by decide +kernel) ⟨Nat.le_of_ble_eq_true rfl, Nat.le_of_ble_eq_true rfl⟩) (ow_preS hG hW) rfl rfl hl.1 rfl (lv_room (Nat.le_of_ble_eq_true rfl)) dX9_cardsBy_3 ⟨Nat.zero_le _, Nat.zero_le _⟩) hW (fun b3 H locs hW => ?_)
  refine lv_if_eq (tgt := 29) hx hb dX9_cardsBy_6 (by decide) (fun c6 => ?_) (fun c6 => ?_)
  · replace hf := ow_if_t c6 hf
    refine lv_bipush (v := -2) hx hb dX9_cardsBy_29 (by decide) ?_
    exact ow_iret hx hb hr hW hf dX9_cardsBy_31 hlocks
  · replace hf := ow_if_f c6 hf
    refine lv_iload_n hx hb dX9_cardsBy_9 rfl (lv_at hl 2 rfl) ?_
    refine lv_iconst (v := 0) hx hb dX9_cardsBy_10 (by decide) ?_
    refine lv_iconst (v := 2) hx hb dX9_cardsBy_11 (by decide) ?_
    obtain ⟨r_12, σ_12, hc12, hf⟩ := ow_cl_i hf
    refine ow_callz (va_runS (As := [.int a2, .int (0 : Int32), .int (2 : Int32)]) (rest := []) ⟨hx, hb, hml, hown, hts⟩ (c_X9_in l Z fu a2 (0 : Int32) (2 : Int32) σ_3 r_12 σ_12 hc12) (va_cwS 3 hts gX9_cardsBy_X9_in rfl rfl rfl (by decide +kernel) ⟨Nat.le_of_ble_eq_true rfl, Nat.le_of_ble_eq_true rfl⟩) (ow_preS hG hW) rfl rfl hl.1 rfl (lv_room (Nat.le_of_ble_eq_true rfl)) dX9_cardsBy_12 ⟨Nat.zero_le _, Nat.zero_le _⟩) hW (fun b12 H locs hW => ?_)
    refine lv_if_eq (tgt := 29) hx hb dX9_cardsBy_15 (by decide) (fun c15 => ?_) (fun c15 => ?_)
    · replace hf := ow_if_t c15 hf
      refine lv_bipush (v := -2) hx hb dX9_cardsBy_29 (by decide) ?_
      exact ow_iret hx hb hr hW hf dX9_cardsBy_31 hlocks
    · replace hf := ow_if_f c15 hf
      refine lv_iload hx hb dX9_cardsBy_18 (lv_at hl 4 rfl) ?_
      refine lv_iconst (v := 0) hx hb dX9_cardsBy_20 (by decide) ?_
      refine lv_bipush (v := 40) hx hb dX9_cardsBy_21 (by decide) ?_
      obtain ⟨r_23, σ_23, hc23, hf⟩ := ow_cl_i hf
      refine ow_callz (va_runS (As := [.int a4, .int (0 : Int32), .int (40 : Int32)]) (rest := []) ⟨hx, hb, hml, hown, hts⟩ (c_X9_in l Z fu a4 (0 : Int32) (40 : Int32) σ_12 r_23 σ_23 hc23) (va_cwS 3 hts gX9_cardsBy_X9_in rfl rfl rfl (by decide +kernel) ⟨Nat.le_of_ble_eq_true rfl, Nat.le_of_ble_eq_true rfl⟩) (ow_preS hG hW) rfl rfl hl.1 rfl (lv_room (Nat.le_of_ble_eq_true rfl)) dX9_cardsBy_23 ⟨Nat.zero_le _, Nat.zero_le _⟩) hW (fun b23 H locs hW => ?_)
      refine lv_if_ne (tgt := 32) hx hb dX9_cardsBy_26 (by decide) (fun c26 => ?_) (fun c26 => ?_)
      · replace hf := ow_if_f c26 hf
        refine lv_aload_n hx hb dX9_cardsBy_32 rfl (lv_at hl 0 rfl) ?_
        refine ow_getV (ci := 9) (C := RX9) (T := TX9) (N := 41) hx hb hts hown hG hW ow_i56 (by decide) rfl hinX9 20 (by decide) (fk := 2) rfl (hts (.fieldLink RX9 41 "FiftyOneCardsModel" "sheetSort" "[I") (by decide +kernel)) (v := .ref (ow_ad Z 66)) (ow_vR hW ow_i56.1 ow_i56.2.1 rfl) dX9_cardsBy_33 ?_
        refine lv_iload_n hx hb dX9_cardsBy_36 rfl (lv_at hl 1 rfl) ?_
        obtain ⟨q37, hf⟩ := ow_ck_i hf
        refine ow_ild (q := a1.toNatClampNeg) hx hb hG hW ow_i66 rfl q37 rfl dX9_cardsBy_37 ?_
        refine lv_iconst (v := -1) hx hb dX9_cardsBy_38 (by decide) ?_
        refine lv_icmp_ne (tgt := 45) hx hb dX9_cardsBy_39 (by decide) (fun c39 => ?_) (fun c39 => ?_)
        · replace hf := ow_if_f c39 hf
          refine lv_aload_n hx hb dX9_cardsBy_45 rfl (lv_at hl 0 rfl) ?_
          refine ow_getV (ci := 9) (C := RX9) (T := TX9) (N := 41) hx hb hts hown hG hW ow_i56 (by decide) rfl hinX9 20 (by decide) (fk := 2) rfl (hts (.fieldLink RX9 41 "FiftyOneCardsModel" "sheetSort" "[I") (by decide +kernel)) (v := .ref (ow_ad Z 66)) (ow_vR hW ow_i56.1 ow_i56.2.1 rfl) dX9_cardsBy_46 ?_
          refine lv_iload_n hx hb dX9_cardsBy_49 rfl (lv_at hl 1 rfl) ?_
          obtain ⟨q50, hf⟩ := ow_ck_i hf
          refine ow_ild (q := a1.toNatClampNeg) hx hb hG hW ow_i66 rfl q50 rfl dX9_cardsBy_50 ?_
          refine lv_iload_n hx hb dX9_cardsBy_51 rfl (lv_at hl 2 rfl) ?_
          refine lv_icmp_eq (tgt := 58) hx hb dX9_cardsBy_52 (by decide) (fun c52 => ?_) (fun c52 => ?_)
          · replace hf := ow_if_t c52 hf
            refine lv_iconst (v := 0) hx hb dX9_cardsBy_58 (by decide) ?_
            refine lv_istore (lv' := [(5, .int (0 : Int32)), (0, .ref (ow_ad Z 56)), (1, .int a1), (2, .int a2), (3, .int a3), (4, .int a4)]) hx hb dX9_cardsBy_59 hl (by decide) rfl (fun ls hl => ?_)
            refine lv_iconst (v := 0) hx hb dX9_cardsBy_61 (by decide) ?_
            refine lv_istore (lv' := [(6, .int (0 : Int32)), (5, .int (0 : Int32)), (0, .ref (ow_ad Z 56)), (1, .int a1), (2, .int a2), (3, .int a3), (4, .int a4)]) hx hb dX9_cardsBy_62 hl (by decide) rfl (fun ls hl => ?_)
            exact hJ64 fu a1 a3 a4 (0 : Int32) (0 : Int32) σ_23 _ _ _ hf hW (lv_sub hl [2, 3, 5, 6, 1, 0] rfl)
          · replace hf := ow_if_f c52 hf
            refine lv_bipush (v := -13) hx hb dX9_cardsBy_55 (by decide) ?_
            exact ow_iret hx hb hr hW hf dX9_cardsBy_57 hlocks
        · replace hf := ow_if_t c39 hf
          refine lv_bipush (v := -11) hx hb dX9_cardsBy_42 (by decide) ?_
          exact ow_iret hx hb hr hW hf dX9_cardsBy_44 hlocks
      · replace hf := ow_if_t c26 hf
        refine lv_bipush (v := -2) hx hb dX9_cardsBy_29 (by decide) ?_
        exact ow_iret hx hb hr hW hf dX9_cardsBy_31 hlocks
set_option maxHeartbeats 40000000 in
set_option maxRecDepth 100000 in
theorem c_X9_isUnder (l : Launch) (Z : ow_Z) (fu : Nat) (a1 : Int32) (a2 : Int32) (σ : ow_S) (rr : Int32) (σr : ow_S) (hf : f_X9_isUnder fu a1 a2 σ = some (rr, σr)) : Met l yX9_isUnder wsX9_isUnder { frames := 1, cells := 0, slots := 0, locals := 60 } (ow_Pc Z 56 20 [.int a1, .int a2] σ) (ow_Qz Z 56 20 rr σr) 0 0 (ow_A Z 56 20) := by
  refine Met.ofW (cc := cX9_isUnder) (maxL := 2) (ret := (some .boolean)) (by decide) rfl ?_
  intro p e s m args below meth c s₁ B hml hv
  obtain ⟨hav, hB⟩ := hv
  obtain ⟨hG, hW⟩ := ow_begin hB
  have hx := B.exec
  have hb := B.bytes
  have hr := B.returns
  have hts := atoms_spec (ws := wsX9_isUnder) B.pre
  have hown : s.vm.findClass RX9 = some m.cls := findClass_of_methodNamed B.named
  have hlocks := B.notSynchronized
  have hJ29 : ∀ (σ : ow_S) (H : Heap) (locs : List Loc) (ls : Array Slot), L_X9_isUnder_29 fu σ = some (rr, σr) → ow_Wd Z 56 20 σ s H locs → lv_has ls 2 [] → W p l e (headSpec wsX9_isUnder { frames := 1, cells := 0, slots := 0, locals := 60 }).room s m args below meth c H locs 0 0 (MQ below (ow_Qz Z 56 20 rr σr) args s 0 0 (ow_A Z 56 20)) (F0 m 29 ls []) := by
    intro σ H locs ls hf hW hl
    unfold L_X9_isUnder_29 at hf
    refine lv_iconst (v := 1) hx hb dX9_isUnder_29 (by decide) ?_
    refine lv_goto (tgt := 34) hx hb dX9_isUnder_30 (by decide) ?_
    exact ow_zret hx hb hr (Or.inr rfl) hW hf dX9_isUnder_34 hlocks
  have hJ19 : ∀ (x0 : Int32) (x1 : Int32) (σ : ow_S) (H : Heap) (locs : List Loc) (ls : Array Slot), L_X9_isUnder_19 fu x0 x1 σ = some (rr, σr) → ow_Wd Z 56 20 σ s H locs → lv_has ls 2 [(0, .int x0), (1, .int x1)] → W p l e (headSpec wsX9_isUnder { frames := 1, cells := 0, slots := 0, locals := 60 }).room s m args below meth c H locs 0 0 (MQ below (ow_Qz Z 56 20 rr σr) args s 0 0 (ow_A Z 56 20)) (F0 m 19 ls []) := by
    intro x0 x1 σ H locs ls hf hW hl
    unfold L_X9_isUnder_19 at hf
    refine lv_iload_n hx hb dX9_isUnder_19 rfl (lv_at hl 1 rfl) ?_
    refine lv_iconst (v := 2) hx hb dX9_isUnder_20 (by decide) ?_
    refine lv_icmp_ne (tgt := 33) hx hb dX9_isUnder_21 (by decide) (fun c21 => ?_) (fun c21 => ?_)
    · replace hf := ow_if_f c21 hf
      refine lv_iconst (v := 0) hx hb dX9_isUnder_33 (by decide) ?_
      exact ow_zret hx hb hr (Or.inl rfl) hW hf dX9_isUnder_34 hlocks
    · replace hf := ow_if_t c21 hf
      refine lv_iload_n hx hb dX9_isUnder_24 rfl (lv_at hl 0 rfl) ?_
      refine lv_iconst (v := 4) hx hb dX9_isUnder_25 (by decide) ?_
      refine lv_icmp_ne (tgt := 33) hx hb dX9_isUnder_26 (by decide) (fun c26 => ?_) (fun c26 => ?_)
      · replace hf := ow_if_f c26 hf
        refine lv_iconst (v := 0) hx hb dX9_isUnder_33 (by decide) ?_
        exact ow_zret hx hb hr (Or.inl rfl) hW hf dX9_isUnder_34 hlocks
      · replace hf := ow_if_t c26 hf
        exact hJ29 σ _ _ _ hf hW (lv_sub hl [] rfl)
  have hl := lv_entry ([.int a1, .int a2]) (n := 2) (Nat.le_of_ble_eq_true rfl)
  refine W.eq (g2 := F0 m 0 ((lg_sl ([.int a1, .int a2]) ++ List.replicate (2 - (lg_sl ([.int a1, .int a2])).length) Slot.unset).toArray) []) (by rw [hav]; exact lg_entry_eq _ _ _) ?_
  generalize (lg_sl ([.int a1, .int a2]) ++ List.replicate (2 - (lg_sl ([.int a1, .int a2])).length) Slot.unset).toArray = ls at hl ⊢
  have hl : lv_has ls 2 [(0, .int a1), (1, .int a2)] := hl
  unfold f_X9_isUnder at hf
  refine lv_iload_n hx hb dX9_isUnder_0 rfl (lv_at hl 1 rfl) ?_
  refine lv_if_eq (tgt := 29) hx hb dX9_isUnder_1 (by decide) (fun c1 => ?_) (fun c1 => ?_)
  · replace hf := ow_if_t c1 hf
    exact hJ29 σ _ _ _ hf hW (lv_sub hl [] rfl)
  · replace hf := ow_if_f c1 hf
    refine lv_iload_n hx hb dX9_isUnder_4 rfl (lv_at hl 0 rfl) ?_
    refine lv_iload_n hx hb dX9_isUnder_5 rfl (lv_at hl 1 rfl) ?_
    refine lv_icmp_eq (tgt := 29) hx hb dX9_isUnder_6 (by decide) (fun c6 => ?_) (fun c6 => ?_)
    · replace hf := ow_if_t c6 hf
      exact hJ29 σ _ _ _ hf hW (lv_sub hl [] rfl)
    · replace hf := ow_if_f c6 hf
      refine lv_iload_n hx hb dX9_isUnder_9 rfl (lv_at hl 1 rfl) ?_
      refine lv_iconst (v := 1) hx hb dX9_isUnder_10 (by decide) ?_
      refine lv_icmp_ne (tgt := 19) hx hb dX9_isUnder_11 (by decide) (fun c11 => ?_) (fun c11 => ?_)
      · replace hf := ow_if_f c11 hf
        exact hJ19 a1 a2 σ _ _ _ hf hW (lv_sub hl [0, 1] rfl)
      · replace hf := ow_if_t c11 hf
        refine lv_iload_n hx hb dX9_isUnder_14 rfl (lv_at hl 0 rfl) ?_
        refine lv_iconst (v := 3) hx hb dX9_isUnder_15 (by decide) ?_
        refine lv_icmp_eq (tgt := 29) hx hb dX9_isUnder_16 (by decide) (fun c16 => ?_) (fun c16 => ?_)
        · replace hf := ow_if_t c16 hf
          exact hJ29 σ _ _ _ hf hW (lv_sub hl [] rfl)
        · replace hf := ow_if_f c16 hf
          exact hJ19 a1 a2 σ _ _ _ hf hW (lv_sub hl [0, 1] rfl)

set_option maxHeartbeats 40000000 in
set_option maxRecDepth 100000 in
theorem c_X9_isCard (l : Launch) (Z : ow_Z) (fu : Nat) (a1 : Int32) (σ : ow_S) (rr : Int32) (σr : ow_S) (hf : f_X9_isCard fu a1 σ = some (rr, σr)) : Met l yX9_isCard wsX9_isCard { frames := 2, cells := 0, slots := 0, locals := 82 } (ow_Pc Z 56 20 [.ref (ow_ad Z 56), .int a1] σ) (ow_Qz Z 56 20 rr σr) 0 0 (ow_A Z 56 20) := by
  refine Met.ofW (cc := cX9_isCard) (maxL := 2) (ret := (some .boolean)) (by decide) rfl ?_
  intro p e s m args below meth c s₁ B hml hv
  obtain ⟨hav, hB⟩ := hv
  obtain ⟨hG, hW⟩ := ow_begin hB
  have hx := B.exec
  have hb := B.bytes
  have hr := B.returns
  have hts := atoms_spec (ws := wsX9_isCard) B.pre
  have hown : s.vm.findClass RX9 = some m.cls := findClass_of_methodNamed B.named
  have hlocks := B.notSynchronized
  have hinX9 : ∀ w ∈ wsX90, w ∈ wsX9_isCard := by decide +kernel
  have hl := lv_entry ([.ref (ow_ad Z 56), .int a1]) (n := 2) (Nat.le_of_ble_eq_true rfl)
  refine W.eq (g2 := F0 m 0 ((lg_sl ([.ref (ow_ad Z 56), .int a1]) ++ List.replicate (2 - (lg_sl ([.ref (ow_ad Z 56), .int a1])).length) Slot.unset).toArray) []) (by rw [hav]; exact lg_entry_eq _ _ _) ?_
  generalize (lg_sl ([.ref (ow_ad Z 56), .int a1]) ++ List.replicate (2 - (lg_sl ([.ref (ow_ad Z 56), .int a1])).length) Slot.unset).toArray = ls at hl ⊢
  have hl : lv_has ls 2 [(0, .ref (ow_ad Z 56)), (1, .int a1)] := hl
  unfold f_X9_isCard at hf
  refine lv_iload_n hx hb dX9_isCard_0 rfl (lv_at hl 1 rfl) ?_
  refine lv_iconst (v := 1) hx hb dX9_isCard_1 (by decide) ?_
  refine lv_aload_n hx hb dX9_isCard_2 rfl (lv_at hl 0 rfl) ?_
  refine ow_getV (ci := 9) (C := RX9) (T := TX9) (N := 41) hx hb hts hown hG hW ow_i56 (by decide) rfl hinX9 0 (by decide) (fk := 0) rfl (hts (.fieldLink RX9 7 "FiftyOneCardsModel" "pack" "I") (by decide +kernel)) (v := .int (σ.1 56 0)) rfl dX9_isCard_3 ?_
  obtain ⟨r_6, σ_6, hc6, hf⟩ := ow_cl_i hf
  refine ow_callz (va_runS (As := [.int a1, .int (1 : Int32), .int (σ.1 56 0)]) (rest := []) ⟨hx, hb, hml, hown, hts⟩ (c_X9_in l Z fu a1 (1 : Int32) (σ.1 56 0) σ r_6 σ_6 hc6) (va_cwS 3 hts gX9_isCard_X9_in rfl rfl rfl (by decide +kernel) ⟨Nat.le_of_ble_eq_true rfl, Nat.le_of_ble_eq_true rfl⟩) (ow_preS hG hW) rfl rfl hl.1 rfl (lv_room (Nat.le_of_ble_eq_true rfl)) dX9_isCard_6 ⟨Nat.zero_le _, Nat.zero_le _⟩) hW (fun b6 H locs hW => ?_)
  exact ow_zret hx hb hr b6 hW hf dX9_isCard_9 hlocks
set_option maxHeartbeats 40000000 in
set_option maxRecDepth 100000 in
theorem c_X9_isHead (l : Launch) (Z : ow_Z) (fu : Nat) (a1 : Int32) (σ : ow_S) (rr : Int32) (σr : ow_S) (hf : f_X9_isHead fu a1 σ = some (rr, σr)) : Met l yX9_isHead wsX9_isHead { frames := 2, cells := 0, slots := 0, locals := 82 } (ow_Pc Z 56 20 [.ref (ow_ad Z 56), .int a1] σ) (ow_Qz Z 56 20 rr σr) 0 0 (ow_A Z 56 20) := by
  refine Met.ofW (cc := cX9_isHead) (maxL := 2) (ret := (some .boolean)) (by decide) rfl ?_
  intro p e s m args below meth c s₁ B hml hv
  obtain ⟨hav, hB⟩ := hv
  obtain ⟨hG, hW⟩ := ow_begin hB
  have hx := B.exec
  have hb := B.bytes
  have hr := B.returns
  have hts := atoms_spec (ws := wsX9_isHead) B.pre
  have hown : s.vm.findClass RX9 = some m.cls := findClass_of_methodNamed B.named
  have hlocks := B.notSynchronized
  have hinX9 : ∀ w ∈ wsX90, w ∈ wsX9_isHead := by decide +kernel
  have hl := lv_entry ([.ref (ow_ad Z 56), .int a1]) (n := 2) (Nat.le_of_ble_eq_true rfl)
  refine W.eq (g2 := F0 m 0 ((lg_sl ([.ref (ow_ad Z 56), .int a1]) ++ List.replicate (2 - (lg_sl ([.ref (ow_ad Z 56), .int a1])).length) Slot.unset).toArray) []) (by rw [hav]; exact lg_entry_eq _ _ _) ?_
  generalize (lg_sl ([.ref (ow_ad Z 56), .int a1]) ++ List.replicate (2 - (lg_sl ([.ref (ow_ad Z 56), .int a1])).length) Slot.unset).toArray = ls at hl ⊢
  have hl : lv_has ls 2 [(0, .ref (ow_ad Z 56)), (1, .int a1)] := hl
  unfold f_X9_isHead at hf
  refine lv_iload_n hx hb dX9_isHead_0 rfl (lv_at hl 1 rfl) ?_
  refine lv_iconst (v := 0) hx hb dX9_isHead_1 (by decide) ?_
  refine lv_aload_n hx hb dX9_isHead_2 rfl (lv_at hl 0 rfl) ?_
  refine ow_getV (ci := 9) (C := RX9) (T := TX9) (N := 41) hx hb hts hown hG hW ow_i56 (by decide) rfl hinX9 3 (by decide) (fk := 0) rfl (hts (.fieldLink RX9 82 "FiftyOneCardsModel" "heads" "I") (by decide +kernel)) (v := .int (σ.1 56 3)) rfl dX9_isHead_3 ?_
  refine lv_iconst (v := 1) hx hb dX9_isHead_6 (by decide) ?_
  refine lv_isub hx hb dX9_isHead_7 ?_
  obtain ⟨r_8, σ_8, hc8, hf⟩ := ow_cl_i hf
  refine ow_callz (va_runS (As := [.int a1, .int (0 : Int32), .int ((σ.1 56 3) - (1 : Int32))]) (rest := []) ⟨hx, hb, hml, hown, hts⟩ (c_X9_in l Z fu a1 (0 : Int32) ((σ.1 56 3) - (1 : Int32)) σ r_8 σ_8 hc8) (va_cwS 3 hts gX9_isHead_X9_in rfl rfl rfl (by decide +kernel) ⟨Nat.le_of_ble_eq_true rfl, Nat.le_of_ble_eq_true rfl⟩) (ow_preS hG hW) rfl rfl hl.1 rfl (lv_room (Nat.le_of_ble_eq_true rfl)) dX9_isHead_8 ⟨Nat.zero_le _, Nat.zero_le _⟩) hW (fun b8 H locs hW => ?_)
  exact ow_zret hx hb hr b8 hW hf dX9_isHead_11 hlocks
set_option maxHeartbeats 40000000 in
set_option maxRecDepth 100000 in
theorem c_X9_count (l : Launch) (Z : ow_Z) (fu : Nat) (a1 : Int32) (σ : ow_S) (rr : Int32) (σr : ow_S) (hf : f_X9_count fu a1 σ = some (rr, σr)) : Met l yX9_count wsX9_count { frames := 1, cells := 0, slots := 0, locals := 60 } (ow_Pc Z 56 20 [.ref (ow_ad Z 56), .int a1] σ) (ow_Qi Z 56 20 rr σr) 0 0 (ow_A Z 56 20) := by
  refine Met.ofW (cc := cX9_count) (maxL := 2) (ret := (some .int)) (by decide) rfl ?_
  intro p e s m args below meth c s₁ B hml hv
  obtain ⟨hav, hB⟩ := hv
  obtain ⟨hG, hW⟩ := ow_begin hB
  have hx := B.exec
  have hb := B.bytes
  have hr := B.returns
  have hts := atoms_spec (ws := wsX9_count) B.pre
  have hown : s.vm.findClass RX9 = some m.cls := findClass_of_methodNamed B.named
  have hlocks := B.notSynchronized
  have hinX9 : ∀ w ∈ wsX90, w ∈ wsX9_count := by decide +kernel
  have hl := lv_entry ([.ref (ow_ad Z 56), .int a1]) (n := 2) (Nat.le_of_ble_eq_true rfl)
  refine W.eq (g2 := F0 m 0 ((lg_sl ([.ref (ow_ad Z 56), .int a1]) ++ List.replicate (2 - (lg_sl ([.ref (ow_ad Z 56), .int a1])).length) Slot.unset).toArray) []) (by rw [hav]; exact lg_entry_eq _ _ _) ?_
  generalize (lg_sl ([.ref (ow_ad Z 56), .int a1]) ++ List.replicate (2 - (lg_sl ([.ref (ow_ad Z 56), .int a1])).length) Slot.unset).toArray = ls at hl ⊢
  have hl : lv_has ls 2 [(0, .ref (ow_ad Z 56)), (1, .int a1)] := hl
  unfold f_X9_count at hf
  refine lv_iload_n hx hb dX9_count_0 rfl (lv_at hl 1 rfl) ?_
  by_cases c1_0 : a1 = (0 : Int32)
  · replace hf := ow_if_t c1_0 hf
    refine lv_tableIn (off := 39) (tgt := 40) hx hb dX9_count_1 (by rw [c1_0]; decide) (by rw [c1_0]; decide) (by rw [c1_0]; rfl) (by decide) ?_
    refine lv_aload_n hx hb dX9_count_40 rfl (lv_at hl 0 rfl) ?_
    refine ow_getV (ci := 9) (C := RX9) (T := TX9) (N := 41) hx hb hts hown hG hW ow_i56 (by decide) rfl hinX9 3 (by decide) (fk := 0) rfl (hts (.fieldLink RX9 82 "FiftyOneCardsModel" "heads" "I") (by decide +kernel)) (v := .int (σ.1 56 3)) rfl dX9_count_41 ?_
    exact ow_iret hx hb hr hW hf dX9_count_44 hlocks
  · replace hf := ow_if_f c1_0 hf
    by_cases c1_1 : a1 = (1 : Int32)
    · replace hf := ow_if_t c1_1 hf
      refine lv_tableIn (off := 44) (tgt := 45) hx hb dX9_count_1 (by rw [c1_1]; decide) (by rw [c1_1]; decide) (by rw [c1_1]; rfl) (by decide) ?_
      refine lv_aload_n hx hb dX9_count_45 rfl (lv_at hl 0 rfl) ?_
      refine ow_getV (ci := 9) (C := RX9) (T := TX9) (N := 41) hx hb hts hown hG hW ow_i56 (by decide) rfl hinX9 0 (by decide) (fk := 0) rfl (hts (.fieldLink RX9 7 "FiftyOneCardsModel" "pack" "I") (by decide +kernel)) (v := .int (σ.1 56 0)) rfl dX9_count_46 ?_
      exact ow_iret hx hb hr hW hf dX9_count_49 hlocks
    · replace hf := ow_if_f c1_1 hf
      by_cases c1_2 : a1 = (2 : Int32)
      · replace hf := ow_if_t c1_2 hf
        refine lv_tableIn (off := 49) (tgt := 50) hx hb dX9_count_1 (by rw [c1_2]; decide) (by rw [c1_2]; decide) (by rw [c1_2]; rfl) (by decide) ?_
        refine lv_aload_n hx hb dX9_count_50 rfl (lv_at hl 0 rfl) ?_
        refine ow_getV (ci := 9) (C := RX9) (T := TX9) (N := 41) hx hb hts hown hG hW ow_i56 (by decide) rfl hinX9 2 (by decide) (fk := 0) rfl (hts (.fieldLink RX9 85 "FiftyOneCardsModel" "rowMany" "I") (by decide +kernel)) (v := .int (σ.1 56 2)) rfl dX9_count_51 ?_
        exact ow_iret hx hb hr hW hf dX9_count_54 hlocks
      · replace hf := ow_if_f c1_2 hf
        by_cases c1_3 : a1 = (3 : Int32)
        · replace hf := ow_if_t c1_3 hf
          refine lv_tableIn (off := 54) (tgt := 55) hx hb dX9_count_1 (by rw [c1_3]; decide) (by rw [c1_3]; decide) (by rw [c1_3]; rfl) (by decide) ?_
          refine lv_aload_n hx hb dX9_count_55 rfl (lv_at hl 0 rfl) ?_
          refine ow_getV (ci := 9) (C := RX9) (T := TX9) (N := 41) hx hb hts hown hG hW ow_i56 (by decide) rfl hinX9 11 (by decide) (fk := 0) rfl (hts (.fieldLink RX9 88 "FiftyOneCardsModel" "texts" "I") (by decide +kernel)) (v := .int (σ.1 56 11)) rfl dX9_count_56 ?_
          exact ow_iret hx hb hr hW hf dX9_count_59 hlocks
        · replace hf := ow_if_f c1_3 hf
          by_cases c1_4 : a1 = (4 : Int32)
          · replace hf := ow_if_t c1_4 hf
            refine lv_tableIn (off := 59) (tgt := 60) hx hb dX9_count_1 (by rw [c1_4]; decide) (by rw [c1_4]; decide) (by rw [c1_4]; rfl) (by decide) ?_
            refine lv_aload_n hx hb dX9_count_60 rfl (lv_at hl 0 rfl) ?_
            refine ow_getV (ci := 9) (C := RX9) (T := TX9) (N := 41) hx hb hts hown hG hW ow_i56 (by decide) rfl hinX9 12 (by decide) (fk := 0) rfl (hts (.fieldLink RX9 91 "FiftyOneCardsModel" "rule" "I") (by decide +kernel)) (v := .int (σ.1 56 12)) rfl dX9_count_61 ?_
            exact ow_iret hx hb hr hW hf dX9_count_64 hlocks
          · replace hf := ow_if_f c1_4 hf
            by_cases c1_5 : a1 = (5 : Int32)
            · replace hf := ow_if_t c1_5 hf
              refine lv_tableIn (off := 64) (tgt := 65) hx hb dX9_count_1 (by rw [c1_5]; decide) (by rw [c1_5]; decide) (by rw [c1_5]; rfl) (by decide) ?_
              refine lv_aload_n hx hb dX9_count_65 rfl (lv_at hl 0 rfl) ?_
              refine ow_getV (ci := 9) (C := RX9) (T := TX9) (N := 41) hx hb hts hown hG hW ow_i56 (by decide) rfl hinX9 8 (by decide) (fk := 0) rfl (hts (.fieldLink RX9 71 "FiftyOneCardsModel" "taped" "I") (by decide +kernel)) (v := .int (σ.1 56 8)) rfl dX9_count_66 ?_
              exact ow_iret hx hb hr hW hf dX9_count_69 hlocks
            · replace hf := ow_if_f c1_5 hf
              have e1_0 := lv_neT c1_0 (a := 0) (by decide)
              have e1_1 := lv_neT c1_1 (a := 1) (by decide)
              have e1_2 := lv_neT c1_2 (a := 2) (by decide)
              have e1_3 := lv_neT c1_3 (a := 3) (by decide)
              have e1_4 := lv_neT c1_4 (a := 4) (by decide)
              have e1_5 := lv_neT c1_5 (a := 5) (by decide)
              refine lv_tableOut (tgt := 70) hx hb dX9_count_1 (by omega) (by decide) ?_
              refine lv_bipush (v := -2) hx hb dX9_count_70 (by decide) ?_
              exact ow_iret hx hb hr hW hf dX9_count_72 hlocks
set_option maxHeartbeats 40000000 in
set_option maxRecDepth 100000 in
theorem c_X9_deal (l : Launch) (Z : ow_Z) (fu : Nat) (a1 : Int32) (σ : ow_S) (rr : Int32) (σr : ow_S) (hf : f_X9_deal fu a1 σ = some (rr, σr)) : Met l yX9_deal wsX9_deal { frames := 2, cells := 0, slots := 0, locals := 82 } (ow_Pc Z 56 20 [.ref (ow_ad Z 56), .int a1] σ) (ow_Qi Z 56 20 rr σr) 0 0 (ow_A Z 56 20) := by
  refine Met.ofW (cc := cX9_deal) (maxL := 5) (ret := (some .int)) (by decide) rfl ?_
  intro p e s m args below meth c s₁ B hml hv
  obtain ⟨hav, hB⟩ := hv
  obtain ⟨hG, hW⟩ := ow_begin hB
  have hx := B.exec
  have hb := B.bytes
  have hr := B.returns
  have hts := atoms_spec (ws := wsX9_deal) B.pre
  have hown : s.vm.findClass RX9 = some m.cls := findClass_of_methodNamed B.named
  have hlocks := B.notSynchronized
  have hinX9 : ∀ w ∈ wsX90, w ∈ wsX9_deal := by decide +kernel
  have hJ59 : ∀ (k23 : Int32 → Int32 → Int32 → Int32 → ow_S → Option (Int32 × ow_S)) (hk23 : ∀ (x1 : Int32) (x2 : Int32) (x3 : Int32) (x4 : Int32) (σ : ow_S) (H : Heap) (locs : List Loc) (ls : Array Slot), k23 x1 x2 x3 x4 σ = some (rr, σr) → ow_Wd Z 56 20 σ s H locs → lv_has ls 5 [(0, .ref (ow_ad Z 56)), (1, .int x1), (2, .int x2), (3, .int x3), (4, .int x4)] → W p l e (headSpec wsX9_deal { frames := 2, cells := 0, slots := 0, locals := 82 }).room s m args below meth c H locs 0 0 (MQ below (ow_Qi Z 56 20 rr σr) args s 0 0 (ow_A Z 56 20)) (F0 m 23 ls [])), ∀ (x1 : Int32) (x2 : Int32) (x3 : Int32) (x4 : Int32) (σ : ow_S) (H : Heap) (locs : List Loc) (ls : Array Slot), L_X9_deal_59 fu k23 x1 x2 x3 x4 σ = some (rr, σr) → ow_Wd Z 56 20 σ s H locs → lv_has ls 5 [(0, .ref (ow_ad Z 56)), (1, .int x1), (2, .int x2), (3, .int x3), (4, .int x4)] → W p l e (headSpec wsX9_deal { frames := 2, cells := 0, slots := 0, locals := 82 }).room s m args below meth c H locs 0 0 (MQ below (ow_Qi Z 56 20 rr σr) args s 0 0 (ow_A Z 56 20)) (F0 m 59 ls []) := by
    intro k23 hk23 x1 x2 x3 x4 σ H locs ls hf hW hl
    unfold L_X9_deal_59 at hf
    refine ow_iinc (d := 1) (lv' := fun z => [(4, .int z), (0, .ref (ow_ad Z 56)), (1, .int x1), (2, .int x2), (3, .int x3)]) hx hb hf dX9_deal_59 hl (k := 4) rfl (by decide) (by decide) (fun z => rfl) (fun x4_59 hf ls hl => ?_)
    refine lv_goto (tgt := 23) hx hb dX9_deal_62 (by decide) ?_
    exact hk23 x1 x2 x3 x4_59 σ _ _ _ hf hW (lv_sub hl [1, 2, 3, 4, 0] rfl)
  have hJ23 : ∀ (fn : Nat), ∀ (x1 : Int32) (x2 : Int32) (x3 : Int32) (x4 : Int32) (σ : ow_S) (H : Heap) (locs : List Loc) (ls : Array Slot), L_X9_deal_23 fu fn x1 x2 x3 x4 σ = some (rr, σr) → ow_Wd Z 56 20 σ s H locs → lv_has ls 5 [(0, .ref (ow_ad Z 56)), (1, .int x1), (2, .int x2), (3, .int x3), (4, .int x4)] → W p l e (headSpec wsX9_deal { frames := 2, cells := 0, slots := 0, locals := 82 }).room s m args below meth c H locs 0 0 (MQ below (ow_Qi Z 56 20 rr σr) args s 0 0 (ow_A Z 56 20)) (F0 m 23 ls []) := by
    intro fn
    induction fn with
    | zero => intro x1 x2 x3 x4 σ H locs ls hf hW hl; simp [L_X9_deal_23] at hf
    | succ fn ih =>
      intro x1 x2 x3 x4 σ H locs ls hf hW hl
      rw [L_X9_deal_23] at hf
      refine lv_iload hx hb dX9_deal_23 (lv_at hl 4 rfl) ?_
      refine lv_aload_n hx hb dX9_deal_25 rfl (lv_at hl 0 rfl) ?_
      refine ow_getV (ci := 9) (C := RX9) (T := TX9) (N := 41) hx hb hts hown hG hW ow_i56 (by decide) rfl hinX9 2 (by decide) (fk := 0) rfl (hts (.fieldLink RX9 85 "FiftyOneCardsModel" "rowMany" "I") (by decide +kernel)) (v := .int (σ.1 56 2)) rfl dX9_deal_26 ?_
      refine lv_icmp_ge (tgt := 65) hx hb dX9_deal_29 (by decide) (fun c29 => ?_) (fun c29 => ?_)
      · replace hf := ow_if_t c29 hf
        refine lv_aload_n hx hb dX9_deal_65 rfl (lv_at hl 0 rfl) ?_
        refine lv_iload_n hx hb dX9_deal_66 rfl (lv_at hl 3 rfl) ?_
        refine ow_putI (ci := 9) (C := RX9) (T := TX9) (N := 41) hx hb hts hown hG hW ow_i56 (by decide) rfl hinX9 tyX9 tyX9_ok nmX9 2 (by decide) rfl (hts (.fieldLink RX9 85 "FiftyOneCardsModel" "rowMany" "I") (by decide +kernel)) rfl rfl rfl hf dX9_deal_67 (fun σ_67 H locs hf hW => ?_)
        refine lv_aload_n hx hb dX9_deal_70 rfl (lv_at hl 0 rfl) ?_
        refine lv_iload_n hx hb dX9_deal_71 rfl (lv_at hl 1 rfl) ?_
        refine ow_putI (ci := 9) (C := RX9) (T := TX9) (N := 41) hx hb hts hown hG hW ow_i56 (by decide) rfl hinX9 tyX9 tyX9_ok nmX9 0 (by decide) rfl (hts (.fieldLink RX9 7 "FiftyOneCardsModel" "pack" "I") (by decide +kernel)) rfl rfl rfl hf dX9_deal_72 (fun σ_72 H locs hf hW => ?_)
        refine lv_iload_n hx hb dX9_deal_75 rfl (lv_at hl 2 rfl) ?_
        exact ow_iret hx hb hr hW hf dX9_deal_76 hlocks
      · replace hf := ow_if_f c29 hf
        refine lv_aload_n hx hb dX9_deal_32 rfl (lv_at hl 0 rfl) ?_
        refine ow_getV (ci := 9) (C := RX9) (T := TX9) (N := 41) hx hb hts hown hG hW ow_i56 (by decide) rfl hinX9 1 (by decide) (fk := 2) rfl (hts (.fieldLink RX9 13 "FiftyOneCardsModel" "row" "[I") (by decide +kernel)) (v := .ref (ow_ad Z 57)) (ow_vR hW ow_i56.1 ow_i56.2.1 rfl) dX9_deal_33 ?_
        refine lv_iload hx hb dX9_deal_36 (lv_at hl 4 rfl) ?_
        obtain ⟨q38, hf⟩ := ow_ck_i hf
        refine ow_ild (q := x4.toNatClampNeg) hx hb hG hW ow_i57 rfl q38 rfl dX9_deal_38 ?_
        refine lv_iload_n hx hb dX9_deal_39 rfl (lv_at hl 1 rfl) ?_
        refine lv_icmp_gt (tgt := 59) hx hb dX9_deal_40 (by decide) (fun c40 => ?_) (fun c40 => ?_)
        · replace hf := ow_if_t c40 hf
          exact hJ59 (L_X9_deal_23 fu fn) ih x1 x2 x3 x4 σ _ _ _ hf hW (lv_sub hl [0, 1, 2, 3, 4] rfl)
        · replace hf := ow_if_f c40 hf
          refine lv_aload_n hx hb dX9_deal_43 rfl (lv_at hl 0 rfl) ?_
          refine ow_getV (ci := 9) (C := RX9) (T := TX9) (N := 41) hx hb hts hown hG hW ow_i56 (by decide) rfl hinX9 1 (by decide) (fk := 2) rfl (hts (.fieldLink RX9 13 "FiftyOneCardsModel" "row" "[I") (by decide +kernel)) (v := .ref (ow_ad Z 57)) (ow_vR hW ow_i56.1 ow_i56.2.1 rfl) dX9_deal_44 ?_
          refine lv_iload_n hx hb dX9_deal_47 rfl (lv_at hl 3 rfl) ?_
          refine lv_aload_n hx hb dX9_deal_48 rfl (lv_at hl 0 rfl) ?_
          refine ow_getV (ci := 9) (C := RX9) (T := TX9) (N := 41) hx hb hts hown hG hW ow_i56 (by decide) rfl hinX9 1 (by decide) (fk := 2) rfl (hts (.fieldLink RX9 13 "FiftyOneCardsModel" "row" "[I") (by decide +kernel)) (v := .ref (ow_ad Z 57)) (ow_vR hW ow_i56.1 ow_i56.2.1 rfl) dX9_deal_49 ?_
          refine lv_iload hx hb dX9_deal_52 (lv_at hl 4 rfl) ?_
          obtain ⟨q54, hf⟩ := ow_ck_i hf
          refine ow_ild (q := x4.toNatClampNeg) hx hb hG hW ow_i57 rfl q54 rfl dX9_deal_54 ?_
          obtain ⟨q55, hf⟩ := ow_ck_i hf
          refine ow_ist (q := x3.toNatClampNeg) hx hb hG hW ow_i57 rfl q55 rfl hf dX9_deal_55 (fun σ_55 H locs hf hW => ?_)
          refine ow_iinc (d := 1) (lv' := fun z => [(3, .int z), (0, .ref (ow_ad Z 56)), (1, .int x1), (2, .int x2), (4, .int x4)]) hx hb hf dX9_deal_56 hl (k := 3) rfl (by decide) (by decide) (fun z => rfl) (fun x3_56 hf ls hl => ?_)
          exact hJ59 (L_X9_deal_23 fu fn) ih x1 x2 x3_56 x4 σ_55 _ _ _ hf hW (lv_sub hl [1, 2, 3, 0, 4] rfl)
  have hl := lv_entry ([.ref (ow_ad Z 56), .int a1]) (n := 5) (Nat.le_of_ble_eq_true rfl)
  refine W.eq (g2 := F0 m 0 ((lg_sl ([.ref (ow_ad Z 56), .int a1]) ++ List.replicate (5 - (lg_sl ([.ref (ow_ad Z 56), .int a1])).length) Slot.unset).toArray) []) (by rw [hav]; exact lg_entry_eq _ _ _) ?_
  generalize (lg_sl ([.ref (ow_ad Z 56), .int a1]) ++ List.replicate (5 - (lg_sl ([.ref (ow_ad Z 56), .int a1])).length) Slot.unset).toArray = ls at hl ⊢
  have hl : lv_has ls 5 [(0, .ref (ow_ad Z 56)), (1, .int a1)] := hl
  unfold f_X9_deal at hf
  refine lv_iload_n hx hb dX9_deal_0 rfl (lv_at hl 1 rfl) ?_
  refine lv_iconst (v := 1) hx hb dX9_deal_1 (by decide) ?_
  refine lv_bipush (v := 52) hx hb dX9_deal_2 (by decide) ?_
  obtain ⟨r_4, σ_4, hc4, hf⟩ := ow_cl_i hf
  refine ow_callz (va_runS (As := [.int a1, .int (1 : Int32), .int (52 : Int32)]) (rest := []) ⟨hx, hb, hml, hown, hts⟩ (c_X9_in l Z fu a1 (1 : Int32) (52 : Int32) σ r_4 σ_4 hc4) (va_cwS 3 hts gX9_deal_X9_in rfl rfl rfl (by decide +kernel) ⟨Nat.le_of_ble_eq_true rfl, Nat.le_of_ble_eq_true rfl⟩) (ow_preS hG hW) rfl rfl hl.1 rfl (lv_room (Nat.le_of_ble_eq_true rfl)) dX9_deal_4 ⟨Nat.zero_le _, Nat.zero_le _⟩) hW (fun b4 H locs hW => ?_)
  refine lv_if_ne (tgt := 13) hx hb dX9_deal_7 (by decide) (fun c7 => ?_) (fun c7 => ?_)
  · replace hf := ow_if_f c7 hf
    refine lv_aload_n hx hb dX9_deal_13 rfl (lv_at hl 0 rfl) ?_
    refine ow_getV (ci := 9) (C := RX9) (T := TX9) (N := 41) hx hb hts hown hG hW ow_i56 (by decide) rfl hinX9 0 (by decide) (fk := 0) rfl (hts (.fieldLink RX9 7 "FiftyOneCardsModel" "pack" "I") (by decide +kernel)) (v := .int (σ_4.1 56 0)) rfl dX9_deal_14 ?_
    refine ow_topi hf (fun x2_17 hf => ?_)
    refine lv_istore_n (lv' := [(2, .int x2_17), (0, .ref (ow_ad Z 56)), (1, .int a1)]) hx hb dX9_deal_17 rfl hl (by decide) rfl (fun ls hl => ?_)
    refine lv_iconst (v := 0) hx hb dX9_deal_18 (by decide) ?_
    refine lv_istore_n (lv' := [(3, .int (0 : Int32)), (2, .int x2_17), (0, .ref (ow_ad Z 56)), (1, .int a1)]) hx hb dX9_deal_19 rfl hl (by decide) rfl (fun ls hl => ?_)
    refine lv_iconst (v := 0) hx hb dX9_deal_20 (by decide) ?_
    refine lv_istore (lv' := [(4, .int (0 : Int32)), (3, .int (0 : Int32)), (2, .int x2_17), (0, .ref (ow_ad Z 56)), (1, .int a1)]) hx hb dX9_deal_21 hl (by decide) rfl (fun ls hl => ?_)
    exact hJ23 fu a1 x2_17 (0 : Int32) (0 : Int32) σ_4 _ _ _ hf hW (lv_sub hl [3, 4, 2, 1, 0] rfl)
  · replace hf := ow_if_t c7 hf
    refine lv_bipush (v := -2) hx hb dX9_deal_10 (by decide) ?_
    exact ow_iret hx hb hr hW hf dX9_deal_12 hlocks
set_option maxHeartbeats 40000000 in
set_option maxRecDepth 100000 in
theorem c_X9_card (l : Launch) (Z : ow_Z) (fu : Nat) (a1 : Int32) (σ : ow_S) (rr : Int32) (σr : ow_S) (hf : f_X9_card fu a1 σ = some (rr, σr)) : Met l yX9_card wsX9_card { frames := 3, cells := 0, slots := 0, locals := 103 } (ow_Pc Z 56 20 [.ref (ow_ad Z 56), .int a1] σ) (ow_Qi Z 56 20 rr σr) 0 0 (ow_A Z 56 20) := by
  refine Met.ofW (cc := cX9_card) (maxL := 2) (ret := (some .int)) (by decide) rfl ?_
  intro p e s m args below meth c s₁ B hml hv
  obtain ⟨hav, hB⟩ := hv
  obtain ⟨hG, hW⟩ := ow_begin hB
  have hx := B.exec
  have hb := B.bytes
  have hr := B.returns
  have hts := atoms_spec (ws := wsX9_card) B.pre
  have hown : s.vm.findClass RX9 = some m.cls := findClass_of_methodNamed B.named
  have hlocks := B.notSynchronized
  have hinX9 : ∀ w ∈ wsX90, w ∈ wsX9_card := by decide +kernel
  have hl := lv_entry ([.ref (ow_ad Z 56), .int a1]) (n := 2) (Nat.le_of_ble_eq_true rfl)
  refine W.eq (g2 := F0 m 0 ((lg_sl ([.ref (ow_ad Z 56), .int a1]) ++ List.replicate (2 - (lg_sl ([.ref (ow_ad Z 56), .int a1])).length) Slot.unset).toArray) []) (by rw [hav]; exact lg_entry_eq _ _ _) ?_
  generalize (lg_sl ([.ref (ow_ad Z 56), .int a1]) ++ List.replicate (2 - (lg_sl ([.ref (ow_ad Z 56), .int a1])).length) Slot.unset).toArray = ls at hl ⊢
  have hl : lv_has ls 2 [(0, .ref (ow_ad Z 56)), (1, .int a1)] := hl
  unfold f_X9_card at hf
  refine lv_aload_n hx hb dX9_card_0 rfl (lv_at hl 0 rfl) ?_
  refine lv_iload_n hx hb dX9_card_1 rfl (lv_at hl 1 rfl) ?_
  obtain ⟨r_2, σ_2, hc2, hf⟩ := ow_cl_i hf
  refine ow_callz (va_runV (As := [.int a1]) (rest := []) ⟨hx, hb, hml, hown, hts⟩ (c_X9_isCard l Z fu a1 σ r_2 σ_2 hc2) (cwV 1 hts gX9_card_X9_isCard rfl rfl rfl (by decide +kernel) ⟨Nat.le_of_ble_eq_true rfl, Nat.le_of_ble_eq_true rfl⟩) (ow_preV hG hW ow_i56 (by decide) rfl) rfl rfl hl.1 rfl (lv_room (Nat.le_of_ble_eq_true rfl)) dX9_card_2 ⟨Nat.zero_le _, Nat.zero_le _⟩) hW (fun b2 H locs hW => ?_)
  refine lv_if_ne (tgt := 11) hx hb dX9_card_5 (by decide) (fun c5 => ?_) (fun c5 => ?_)
  · replace hf := ow_if_f c5 hf
    refine lv_aload_n hx hb dX9_card_11 rfl (lv_at hl 0 rfl) ?_
    refine ow_getV (ci := 9) (C := RX9) (T := TX9) (N := 41) hx hb hts hown hG hW ow_i56 (by decide) rfl hinX9 2 (by decide) (fk := 0) rfl (hts (.fieldLink RX9 85 "FiftyOneCardsModel" "rowMany" "I") (by decide +kernel)) (v := .int (σ_2.1 56 2)) rfl dX9_card_12 ?_
    refine lv_bipush (v := 60) hx hb dX9_card_15 (by decide) ?_
    refine lv_icmp_ne (tgt := 23) hx hb dX9_card_17 (by decide) (fun c17 => ?_) (fun c17 => ?_)
    · replace hf := ow_if_f c17 hf
      refine lv_aload_n hx hb dX9_card_23 rfl (lv_at hl 0 rfl) ?_
      refine ow_getV (ci := 9) (C := RX9) (T := TX9) (N := 41) hx hb hts hown hG hW ow_i56 (by decide) rfl hinX9 1 (by decide) (fk := 2) rfl (hts (.fieldLink RX9 13 "FiftyOneCardsModel" "row" "[I") (by decide +kernel)) (v := .ref (ow_ad Z 57)) (ow_vR hW ow_i56.1 ow_i56.2.1 rfl) dX9_card_24 ?_
      refine lv_aload_n hx hb dX9_card_27 rfl (lv_at hl 0 rfl) ?_
      refine ow_getV (ci := 9) (C := RX9) (T := TX9) (N := 41) hx hb hts hown hG hW ow_i56 (by decide) rfl hinX9 2 (by decide) (fk := 0) rfl (hts (.fieldLink RX9 85 "FiftyOneCardsModel" "rowMany" "I") (by decide +kernel)) (v := .int (σ_2.1 56 2)) rfl dX9_card_28 ?_
      refine lv_iload_n hx hb dX9_card_31 rfl (lv_at hl 1 rfl) ?_
      obtain ⟨q32, hf⟩ := ow_ck_i hf
      refine ow_ist (q := (σ_2.1 56 2).toNatClampNeg) hx hb hG hW ow_i57 rfl q32 rfl hf dX9_card_32 (fun σ_32 H locs hf hW => ?_)
      refine lv_aload_n hx hb dX9_card_33 rfl (lv_at hl 0 rfl) ?_
      refine lv_dup hx hb dX9_card_34 rfl ?_
      refine ow_getV (ci := 9) (C := RX9) (T := TX9) (N := 41) hx hb hts hown hG hW ow_i56 (by decide) rfl hinX9 2 (by decide) (fk := 0) rfl (hts (.fieldLink RX9 85 "FiftyOneCardsModel" "rowMany" "I") (by decide +kernel)) (v := .int (σ_32.1 56 2)) rfl dX9_card_35 ?_
      refine lv_iconst (v := 1) hx hb dX9_card_38 (by decide) ?_
      refine lv_iadd hx hb dX9_card_39 ?_
      refine ow_putI (ci := 9) (C := RX9) (T := TX9) (N := 41) hx hb hts hown hG hW ow_i56 (by decide) rfl hinX9 tyX9 tyX9_ok nmX9 2 (by decide) rfl (hts (.fieldLink RX9 85 "FiftyOneCardsModel" "rowMany" "I") (by decide +kernel)) rfl rfl rfl hf dX9_card_40 (fun σ_40 H locs hf hW => ?_)
      refine lv_aload_n hx hb dX9_card_43 rfl (lv_at hl 0 rfl) ?_
      refine ow_getV (ci := 9) (C := RX9) (T := TX9) (N := 41) hx hb hts hown hG hW ow_i56 (by decide) rfl hinX9 2 (by decide) (fk := 0) rfl (hts (.fieldLink RX9 85 "FiftyOneCardsModel" "rowMany" "I") (by decide +kernel)) (v := .int (σ_40.1 56 2)) rfl dX9_card_44 ?_
      exact ow_iret hx hb hr hW hf dX9_card_47 hlocks
    · replace hf := ow_if_t c17 hf
      refine lv_bipush (v := -4) hx hb dX9_card_20 (by decide) ?_
      exact ow_iret hx hb hr hW hf dX9_card_22 hlocks
  · replace hf := ow_if_t c5 hf
    refine lv_bipush (v := -2) hx hb dX9_card_8 (by decide) ?_
    exact ow_iret hx hb hr hW hf dX9_card_10 hlocks
set_option maxHeartbeats 40000000 in
set_option maxRecDepth 100000 in
theorem c_X9_laysBut (l : Launch) (Z : ow_Z) (fu : Nat) (a1 : Int32) (a2 : Int32) (σ : ow_S) (σr : ow_S) (hf : f_X9_laysBut fu a1 a2 σ = some σr) : Met l yX9_laysBut wsX9_laysBut { frames := 1, cells := 0, slots := 0, locals := 60 } (ow_Pc Z 56 20 [.ref (ow_ad Z 56), .int a1, .int a2] σ) (ow_Qv Z 56 20 σr) 0 0 (ow_A Z 56 20) := by
  refine Met.ofW (cc := cX9_laysBut) (maxL := 5) (ret := none) (by decide) rfl ?_
  intro p e s m args below meth c s₁ B hml hv
  obtain ⟨hav, hB⟩ := hv
  obtain ⟨hG, hW⟩ := ow_begin hB
  have hx := B.exec
  have hb := B.bytes
  have hr := B.returns
  have hts := atoms_spec (ws := wsX9_laysBut) B.pre
  have hown : s.vm.findClass RX9 = some m.cls := findClass_of_methodNamed B.named
  have hlocks := B.notSynchronized
  have hinX9 : ∀ w ∈ wsX90, w ∈ wsX9_laysBut := by decide +kernel
  have hJ60 : ∀ (k7 : Int32 → Int32 → Int32 → ow_S → Option (ow_S)) (hk7 : ∀ (x1 : Int32) (x2 : Int32) (x3 : Int32) (σ : ow_S) (H : Heap) (locs : List Loc) (ls : Array Slot), k7 x1 x2 x3 σ = some σr → ow_Wd Z 56 20 σ s H locs → lv_has ls 5 [(0, .ref (ow_ad Z 56)), (1, .int x1), (2, .int x2), (3, .int x3)] → W p l e (headSpec wsX9_laysBut { frames := 1, cells := 0, slots := 0, locals := 60 }).room s m args below meth c H locs 0 0 (MQ below (ow_Qv Z 56 20 σr) args s 0 0 (ow_A Z 56 20)) (F0 m 7 ls [])), ∀ (x1 : Int32) (x2 : Int32) (x3 : Int32) (σ : ow_S) (H : Heap) (locs : List Loc) (ls : Array Slot), L_X9_laysBut_60 fu k7 x1 x2 x3 σ = some σr → ow_Wd Z 56 20 σ s H locs → lv_has ls 5 [(0, .ref (ow_ad Z 56)), (1, .int x1), (2, .int x2), (3, .int x3)] → W p l e (headSpec wsX9_laysBut { frames := 1, cells := 0, slots := 0, locals := 60 }).room s m args below meth c H locs 0 0 (MQ below (ow_Qv Z 56 20 σr) args s 0 0 (ow_A Z 56 20)) (F0 m 60 ls []) := by
    intro k7 hk7 x1 x2 x3 σ H locs ls hf hW hl
    unfold L_X9_laysBut_60 at hf
    refine ow_iinc (d := 1) (lv' := fun z => [(3, .int z), (0, .ref (ow_ad Z 56)), (1, .int x1), (2, .int x2)]) hx hb hf dX9_laysBut_60 hl (k := 3) rfl (by decide) (by decide) (fun z => rfl) (fun x3_60 hf ls hl => ?_)
    refine lv_goto (tgt := 7) hx hb dX9_laysBut_63 (by decide) ?_
    exact hk7 x1 x2 x3_60 σ _ _ _ hf hW (lv_sub hl [1, 2, 3, 0] rfl)
  have hJ31 : ∀ (k7 : Int32 → Int32 → Int32 → ow_S → Option (ow_S)) (hk7 : ∀ (x1 : Int32) (x2 : Int32) (x3 : Int32) (σ : ow_S) (H : Heap) (locs : List Loc) (ls : Array Slot), k7 x1 x2 x3 σ = some σr → ow_Wd Z 56 20 σ s H locs → lv_has ls 5 [(0, .ref (ow_ad Z 56)), (1, .int x1), (2, .int x2), (3, .int x3)] → W p l e (headSpec wsX9_laysBut { frames := 1, cells := 0, slots := 0, locals := 60 }).room s m args below meth c H locs 0 0 (MQ below (ow_Qv Z 56 20 σr) args s 0 0 (ow_A Z 56 20)) (F0 m 7 ls [])), ∀ (x1 : Int32) (x2 : Int32) (x3 : Int32) (s0 : Int32) (σ : ow_S) (H : Heap) (locs : List Loc) (ls : Array Slot), L_X9_laysBut_31 fu k7 x1 x2 x3 s0 σ = some σr → ow_Wd Z 56 20 σ s H locs → lv_has ls 5 [(0, .ref (ow_ad Z 56)), (1, .int x1), (2, .int x2), (3, .int x3)] → W p l e (headSpec wsX9_laysBut { frames := 1, cells := 0, slots := 0, locals := 60 }).room s m args below meth c H locs 0 0 (MQ below (ow_Qv Z 56 20 σr) args s 0 0 (ow_A Z 56 20)) (F0 m 31 ls [.int s0]) := by
    intro k7 hk7 x1 x2 x3 s0 σ H locs ls hf hW hl
    unfold L_X9_laysBut_31 at hf
    refine lv_istore (lv' := [(4, .int s0), (0, .ref (ow_ad Z 56)), (1, .int x1), (2, .int x2), (3, .int x3)]) hx hb dX9_laysBut_31 hl (by decide) rfl (fun ls hl => ?_)
    refine lv_iload hx hb dX9_laysBut_33 (lv_at hl 0 rfl) ?_
    refine lv_iload_n hx hb dX9_laysBut_35 rfl (lv_at hl 2 rfl) ?_
    refine lv_icmp_eq (tgt := 60) hx hb dX9_laysBut_36 (by decide) (fun c36 => ?_) (fun c36 => ?_)
    · replace hf := ow_if_t c36 hf
      exact hJ60 k7 hk7 x1 x2 x3 σ _ _ _ hf hW (lv_sub hl [1, 2, 3, 4] rfl)
    · replace hf := ow_if_f c36 hf
      refine lv_aload_n hx hb dX9_laysBut_39 rfl (lv_at hl 1 rfl) ?_
      refine ow_getV (ci := 9) (C := RX9) (T := TX9) (N := 41) hx hb hts hown hG hW ow_i56 (by decide) rfl hinX9 35 (by decide) (fk := 2) rfl (hts (.fieldLink RX9 65 "FiftyOneCardsModel" "goes" "[I") (by decide +kernel)) (v := .ref (ow_ad Z 74)) (ow_vR hW ow_i56.1 ow_i56.2.1 rfl) dX9_laysBut_40 ?_
      refine lv_aload_n hx hb dX9_laysBut_43 rfl (lv_at hl 1 rfl) ?_
      refine ow_getV (ci := 9) (C := RX9) (T := TX9) (N := 41) hx hb hts hown hG hW ow_i56 (by decide) rfl hinX9 36 (by decide) (fk := 0) rfl (hts (.fieldLink RX9 102 "FiftyOneCardsModel" "goesMany" "I") (by decide +kernel)) (v := .int (σ.1 56 36)) rfl dX9_laysBut_44 ?_
      refine lv_iload hx hb dX9_laysBut_47 (lv_at hl 0 rfl) ?_
      obtain ⟨q49, hf⟩ := ow_ck_i hf
      refine ow_ist (q := (σ.1 56 36).toNatClampNeg) hx hb hG hW ow_i74 rfl q49 rfl hf dX9_laysBut_49 (fun σ_49 H locs hf hW => ?_)
      refine lv_aload_n hx hb dX9_laysBut_50 rfl (lv_at hl 1 rfl) ?_
      refine lv_dup hx hb dX9_laysBut_51 rfl ?_
      refine ow_getV (ci := 9) (C := RX9) (T := TX9) (N := 41) hx hb hts hown hG hW ow_i56 (by decide) rfl hinX9 36 (by decide) (fk := 0) rfl (hts (.fieldLink RX9 102 "FiftyOneCardsModel" "goesMany" "I") (by decide +kernel)) (v := .int (σ_49.1 56 36)) rfl dX9_laysBut_52 ?_
      refine lv_iconst (v := 1) hx hb dX9_laysBut_55 (by decide) ?_
      refine lv_iadd hx hb dX9_laysBut_56 ?_
      refine ow_putI (ci := 9) (C := RX9) (T := TX9) (N := 41) hx hb hts hown hG hW ow_i56 (by decide) rfl hinX9 tyX9 tyX9_ok nmX9 36 (by decide) rfl (hts (.fieldLink RX9 102 "FiftyOneCardsModel" "goesMany" "I") (by decide +kernel)) rfl rfl rfl hf dX9_laysBut_57 (fun σ_57 H locs hf hW => ?_)
      exact hJ60 k7 hk7 x1 x2 x3 σ_57 _ _ _ hf hW (lv_sub hl [1, 2, 3, 4] rfl)
  have hJ7 : ∀ (fn : Nat), ∀ (x1 : Int32) (x2 : Int32) (x3 : Int32) (σ : ow_S) (H : Heap) (locs : List Loc) (ls : Array Slot), L_X9_laysBut_7 fu fn x1 x2 x3 σ = some σr → ow_Wd Z 56 20 σ s H locs → lv_has ls 5 [(0, .ref (ow_ad Z 56)), (1, .int x1), (2, .int x2), (3, .int x3)] → W p l e (headSpec wsX9_laysBut { frames := 1, cells := 0, slots := 0, locals := 60 }).room s m args below meth c H locs 0 0 (MQ below (ow_Qv Z 56 20 σr) args s 0 0 (ow_A Z 56 20)) (F0 m 7 ls []) := by
    intro fn
    induction fn with
    | zero => intro x1 x2 x3 σ H locs ls hf hW hl; simp [L_X9_laysBut_7] at hf
    | succ fn ih =>
      intro x1 x2 x3 σ H locs ls hf hW hl
      rw [L_X9_laysBut_7] at hf
      refine lv_iload_n hx hb dX9_laysBut_7 rfl (lv_at hl 3 rfl) ?_
      refine lv_aload_n hx hb dX9_laysBut_8 rfl (lv_at hl 0 rfl) ?_
      refine ow_getV (ci := 9) (C := RX9) (T := TX9) (N := 41) hx hb hts hown hG hW ow_i56 (by decide) rfl hinX9 0 (by decide) (fk := 0) rfl (hts (.fieldLink RX9 7 "FiftyOneCardsModel" "pack" "I") (by decide +kernel)) (v := .int (σ.1 56 0)) rfl dX9_laysBut_9 ?_
      refine lv_icmp_gt (tgt := 66) hx hb dX9_laysBut_12 (by decide) (fun c12 => ?_) (fun c12 => ?_)
      · replace hf := ow_if_t c12 hf
        exact ow_vret hx hb hr hW hf dX9_laysBut_66 hlocks
      · replace hf := ow_if_f c12 hf
        refine lv_iload_n hx hb dX9_laysBut_15 rfl (lv_at hl 2 rfl) ?_
        refine lv_if_ne (tgt := 23) hx hb dX9_laysBut_16 (by decide) (fun c16 => ?_) (fun c16 => ?_)
        · replace hf := ow_if_f c16 hf
          refine lv_aload_n hx hb dX9_laysBut_23 rfl (lv_at hl 0 rfl) ?_
          refine ow_getV (ci := 9) (C := RX9) (T := TX9) (N := 41) hx hb hts hown hG hW ow_i56 (by decide) rfl hinX9 0 (by decide) (fk := 0) rfl (hts (.fieldLink RX9 7 "FiftyOneCardsModel" "pack" "I") (by decide +kernel)) (v := .int (σ.1 56 0)) rfl dX9_laysBut_24 ?_
          refine lv_iconst (v := 1) hx hb dX9_laysBut_27 (by decide) ?_
          refine lv_iadd hx hb dX9_laysBut_28 ?_
          refine lv_iload_n hx hb dX9_laysBut_29 rfl (lv_at hl 3 rfl) ?_
          refine lv_isub hx hb dX9_laysBut_30 ?_
          exact hJ31 (L_X9_laysBut_7 fu fn) ih x1 x2 x3 (((σ.1 56 0) + (1 : Int32)) - x3) σ _ _ _ hf hW (lv_sub hl [0, 1, 2, 3] rfl)
        · replace hf := ow_if_t c16 hf
          refine lv_iload_n hx hb dX9_laysBut_19 rfl (lv_at hl 3 rfl) ?_
          refine lv_goto (tgt := 31) hx hb dX9_laysBut_20 (by decide) ?_
          exact hJ31 (L_X9_laysBut_7 fu fn) ih x1 x2 x3 x3 σ _ _ _ hf hW (lv_sub hl [0, 1, 2, 3] rfl)
  have hl := lv_entry ([.ref (ow_ad Z 56), .int a1, .int a2]) (n := 5) (Nat.le_of_ble_eq_true rfl)
  refine W.eq (g2 := F0 m 0 ((lg_sl ([.ref (ow_ad Z 56), .int a1, .int a2]) ++ List.replicate (5 - (lg_sl ([.ref (ow_ad Z 56), .int a1, .int a2])).length) Slot.unset).toArray) []) (by rw [hav]; exact lg_entry_eq _ _ _) ?_
  generalize (lg_sl ([.ref (ow_ad Z 56), .int a1, .int a2]) ++ List.replicate (5 - (lg_sl ([.ref (ow_ad Z 56), .int a1, .int a2])).length) Slot.unset).toArray = ls at hl ⊢
  have hl : lv_has ls 5 [(0, .ref (ow_ad Z 56)), (1, .int a1), (2, .int a2)] := hl
  unfold f_X9_laysBut at hf
  refine lv_aload_n hx hb dX9_laysBut_0 rfl (lv_at hl 0 rfl) ?_
  refine lv_iconst (v := 0) hx hb dX9_laysBut_1 (by decide) ?_
  refine ow_putI (ci := 9) (C := RX9) (T := TX9) (N := 41) hx hb hts hown hG hW ow_i56 (by decide) rfl hinX9 tyX9 tyX9_ok nmX9 36 (by decide) rfl (hts (.fieldLink RX9 102 "FiftyOneCardsModel" "goesMany" "I") (by decide +kernel)) rfl rfl rfl hf dX9_laysBut_2 (fun σ_2 H locs hf hW => ?_)
  refine lv_iconst (v := 1) hx hb dX9_laysBut_5 (by decide) ?_
  refine lv_istore_n (lv' := [(3, .int (1 : Int32)), (0, .ref (ow_ad Z 56)), (1, .int a1), (2, .int a2)]) hx hb dX9_laysBut_6 rfl hl (by decide) rfl (fun ls hl => ?_)
  exact hJ7 fu a1 a2 (1 : Int32) σ_2 _ _ _ hf hW (lv_sub hl [1, 2, 3, 0] rfl)
set_option maxHeartbeats 40000000 in
set_option maxRecDepth 100000 in
theorem c_X9_fill (l : Launch) (Z : ow_Z) (fu : Nat) (a1 : Int32) (a2 : Int32) (σ : ow_S) (rr : Int32) (σr : ow_S) (hf : f_X9_fill fu a1 a2 σ = some (rr, σr)) : Met l yX9_fill wsX9_fill { frames := 3, cells := 0, slots := 0, locals := 103 } (ow_Pc Z 56 20 [.ref (ow_ad Z 56), .int a1, .int a2] σ) (ow_Qi Z 56 20 rr σr) 0 0 (ow_A Z 56 20) := by
  refine Met.ofW (cc := cX9_fill) (maxL := 4) (ret := (some .int)) (by decide) rfl ?_
  intro p e s m args below meth c s₁ B hml hv
  obtain ⟨hav, hB⟩ := hv
  obtain ⟨hG, hW⟩ := ow_begin hB
  have hx := B.exec
  have hb := B.bytes
  have hr := B.returns
  have hts := atoms_spec (ws := wsX9_fill) B.pre
  have hown : s.vm.findClass RX9 = some m.cls := findClass_of_methodNamed B.named
  have hlocks := B.notSynchronized
  have hinX9 : ∀ w ∈ wsX90, w ∈ wsX9_fill := by decide +kernel
  have hJ41 : ∀ (fn : Nat), ∀ (x3 : Int32) (σ : ow_S) (H : Heap) (locs : List Loc) (ls : Array Slot), L_X9_fill_41 fu fn x3 σ = some (rr, σr) → ow_Wd Z 56 20 σ s H locs → lv_has ls 4 [(0, .ref (ow_ad Z 56)), (3, .int x3)] → W p l e (headSpec wsX9_fill { frames := 3, cells := 0, slots := 0, locals := 103 }).room s m args below meth c H locs 0 0 (MQ below (ow_Qi Z 56 20 rr σr) args s 0 0 (ow_A Z 56 20)) (F0 m 41 ls []) := by
    intro fn
    induction fn with
    | zero => intro x3 σ H locs ls hf hW hl; simp [L_X9_fill_41] at hf
    | succ fn ih =>
      intro x3 σ H locs ls hf hW hl
      rw [L_X9_fill_41] at hf
      refine lv_iload_n hx hb dX9_fill_41 rfl (lv_at hl 1 rfl) ?_
      refine lv_aload_n hx hb dX9_fill_42 rfl (lv_at hl 0 rfl) ?_
      refine ow_getV (ci := 9) (C := RX9) (T := TX9) (N := 41) hx hb hts hown hG hW ow_i56 (by decide) rfl hinX9 36 (by decide) (fk := 0) rfl (hts (.fieldLink RX9 102 "FiftyOneCardsModel" "goesMany" "I") (by decide +kernel)) (v := .int (σ.1 56 36)) rfl dX9_fill_43 ?_
      refine lv_icmp_ge (tgt := 67) hx hb dX9_fill_46 (by decide) (fun c46 => ?_) (fun c46 => ?_)
      · replace hf := ow_if_t c46 hf
        refine lv_aload_n hx hb dX9_fill_67 rfl (lv_at hl 0 rfl) ?_
        refine ow_getV (ci := 9) (C := RX9) (T := TX9) (N := 41) hx hb hts hown hG hW ow_i56 (by decide) rfl hinX9 2 (by decide) (fk := 0) rfl (hts (.fieldLink RX9 85 "FiftyOneCardsModel" "rowMany" "I") (by decide +kernel)) (v := .int (σ.1 56 2)) rfl dX9_fill_68 ?_
        exact ow_iret hx hb hr hW hf dX9_fill_71 hlocks
      · replace hf := ow_if_f c46 hf
        refine lv_aload_n hx hb dX9_fill_49 rfl (lv_at hl 0 rfl) ?_
        refine ow_getV (ci := 9) (C := RX9) (T := TX9) (N := 41) hx hb hts hown hG hW ow_i56 (by decide) rfl hinX9 1 (by decide) (fk := 2) rfl (hts (.fieldLink RX9 13 "FiftyOneCardsModel" "row" "[I") (by decide +kernel)) (v := .ref (ow_ad Z 57)) (ow_vR hW ow_i56.1 ow_i56.2.1 rfl) dX9_fill_50 ?_
        refine lv_iload_n hx hb dX9_fill_53 rfl (lv_at hl 1 rfl) ?_
        refine lv_aload_n hx hb dX9_fill_54 rfl (lv_at hl 0 rfl) ?_
        refine ow_getV (ci := 9) (C := RX9) (T := TX9) (N := 41) hx hb hts hown hG hW ow_i56 (by decide) rfl hinX9 35 (by decide) (fk := 2) rfl (hts (.fieldLink RX9 65 "FiftyOneCardsModel" "goes" "[I") (by decide +kernel)) (v := .ref (ow_ad Z 74)) (ow_vR hW ow_i56.1 ow_i56.2.1 rfl) dX9_fill_55 ?_
        refine lv_iload_n hx hb dX9_fill_58 rfl (lv_at hl 1 rfl) ?_
        obtain ⟨q59, hf⟩ := ow_ck_i hf
        refine ow_ild (q := x3.toNatClampNeg) hx hb hG hW ow_i74 rfl q59 rfl dX9_fill_59 ?_
        obtain ⟨q60, hf⟩ := ow_ck_i hf
        refine ow_ist (q := x3.toNatClampNeg) hx hb hG hW ow_i57 rfl q60 rfl hf dX9_fill_60 (fun σ_60 H locs hf hW => ?_)
        refine ow_iinc (d := 1) (lv' := fun z => [(3, .int z), (0, .ref (ow_ad Z 56))]) hx hb hf dX9_fill_61 hl (k := 1) rfl (by decide) (by decide) (fun z => rfl) (fun x3_61 hf ls hl => ?_)
        refine lv_goto (tgt := 41) hx hb dX9_fill_64 (by decide) ?_
        exact ih x3_61 σ_60 _ _ _ hf hW (lv_sub hl [1, 0] rfl)
  have hJ13 : ∀ (x1 : Int32) (x2 : Int32) (σ : ow_S) (H : Heap) (locs : List Loc) (ls : Array Slot), L_X9_fill_13 fu x1 x2 σ = some (rr, σr) → ow_Wd Z 56 20 σ s H locs → lv_has ls 4 [(0, .ref (ow_ad Z 56)), (1, .int x1), (2, .int x2)] → W p l e (headSpec wsX9_fill { frames := 3, cells := 0, slots := 0, locals := 103 }).room s m args below meth c H locs 0 0 (MQ below (ow_Qi Z 56 20 rr σr) args s 0 0 (ow_A Z 56 20)) (F0 m 13 ls []) := by
    intro x1 x2 σ H locs ls hf hW hl
    unfold L_X9_fill_13 at hf
    refine lv_iload_n hx hb dX9_fill_13 rfl (lv_at hl 2 rfl) ?_
    refine lv_iconst (v := 0) hx hb dX9_fill_14 (by decide) ?_
    refine lv_iconst (v := 1) hx hb dX9_fill_15 (by decide) ?_
    obtain ⟨r_16, σ_16, hc16, hf⟩ := ow_cl_i hf
    refine ow_callz (va_runS (As := [.int x2, .int (0 : Int32), .int (1 : Int32)]) (rest := []) ⟨hx, hb, hml, hown, hts⟩ (c_X9_in l Z fu x2 (0 : Int32) (1 : Int32) σ r_16 σ_16 hc16) (va_cwS 3 hts gX9_fill_X9_in rfl rfl rfl (by decide +kernel) ⟨Nat.le_of_ble_eq_true rfl, Nat.le_of_ble_eq_true rfl⟩) (ow_preS hG hW) rfl rfl hl.1 rfl (lv_room (Nat.le_of_ble_eq_true rfl)) dX9_fill_16 ⟨Nat.zero_le _, Nat.zero_le _⟩) hW (fun b16 H locs hW => ?_)
    refine lv_if_ne (tgt := 25) hx hb dX9_fill_19 (by decide) (fun c19 => ?_) (fun c19 => ?_)
    · replace hf := ow_if_f c19 hf
      refine lv_aload_n hx hb dX9_fill_25 rfl (lv_at hl 0 rfl) ?_
      refine lv_iload_n hx hb dX9_fill_26 rfl (lv_at hl 1 rfl) ?_
      refine lv_iload_n hx hb dX9_fill_27 rfl (lv_at hl 2 rfl) ?_
      obtain ⟨σ_28, hc28, hf⟩ := ow_cv_i hf
      refine ow_callv (va_runV (As := [.int x1, .int x2]) (rest := []) ⟨hx, hb, hml, hown, hts⟩ (c_X9_laysBut l Z fu x1 x2 σ_16 σ_28  hc28) (cwV 2 hts gX9_fill_X9_laysBut rfl rfl rfl (by decide +kernel) ⟨Nat.le_of_ble_eq_true rfl, Nat.le_of_ble_eq_true rfl⟩) (ow_preV hG hW ow_i56 (by decide) rfl) rfl rfl hl.1 rfl (lv_room (Nat.le_of_ble_eq_true rfl)) dX9_fill_28 ⟨Nat.zero_le _, Nat.zero_le _⟩) hW (fun H locs hW => ?_)
      refine lv_aload_n hx hb dX9_fill_31 rfl (lv_at hl 0 rfl) ?_
      refine lv_aload_n hx hb dX9_fill_32 rfl (lv_at hl 0 rfl) ?_
      refine ow_getV (ci := 9) (C := RX9) (T := TX9) (N := 41) hx hb hts hown hG hW ow_i56 (by decide) rfl hinX9 36 (by decide) (fk := 0) rfl (hts (.fieldLink RX9 102 "FiftyOneCardsModel" "goesMany" "I") (by decide +kernel)) (v := .int (σ_28.1 56 36)) rfl dX9_fill_33 ?_
      refine ow_putI (ci := 9) (C := RX9) (T := TX9) (N := 41) hx hb hts hown hG hW ow_i56 (by decide) rfl hinX9 tyX9 tyX9_ok nmX9 2 (by decide) rfl (hts (.fieldLink RX9 85 "FiftyOneCardsModel" "rowMany" "I") (by decide +kernel)) rfl rfl rfl hf dX9_fill_36 (fun σ_36 H locs hf hW => ?_)
      refine lv_iconst (v := 0) hx hb dX9_fill_39 (by decide) ?_
      refine lv_istore_n (lv' := [(3, .int (0 : Int32)), (0, .ref (ow_ad Z 56)), (1, .int x1), (2, .int x2)]) hx hb dX9_fill_40 rfl hl (by decide) rfl (fun ls hl => ?_)
      exact hJ41 fu (0 : Int32) σ_36 _ _ _ hf hW (lv_sub hl [1, 0] rfl)
    · replace hf := ow_if_t c19 hf
      refine lv_bipush (v := -2) hx hb dX9_fill_22 (by decide) ?_
      exact ow_iret hx hb hr hW hf dX9_fill_24 hlocks
  have hl := lv_entry ([.ref (ow_ad Z 56), .int a1, .int a2]) (n := 4) (Nat.le_of_ble_eq_true rfl)
  refine W.eq (g2 := F0 m 0 ((lg_sl ([.ref (ow_ad Z 56), .int a1, .int a2]) ++ List.replicate (4 - (lg_sl ([.ref (ow_ad Z 56), .int a1, .int a2])).length) Slot.unset).toArray) []) (by rw [hav]; exact lg_entry_eq _ _ _) ?_
  generalize (lg_sl ([.ref (ow_ad Z 56), .int a1, .int a2]) ++ List.replicate (4 - (lg_sl ([.ref (ow_ad Z 56), .int a1, .int a2])).length) Slot.unset).toArray = ls at hl ⊢
  have hl : lv_has ls 4 [(0, .ref (ow_ad Z 56)), (1, .int a1), (2, .int a2)] := hl
  unfold f_X9_fill at hf
  refine lv_iload_n hx hb dX9_fill_0 rfl (lv_at hl 1 rfl) ?_
  refine lv_iconst (v := -1) hx hb dX9_fill_1 (by decide) ?_
  refine lv_icmp_eq (tgt := 13) hx hb dX9_fill_2 (by decide) (fun c2 => ?_) (fun c2 => ?_)
  · replace hf := ow_if_t c2 hf
    exact hJ13 a1 a2 σ _ _ _ hf hW (lv_sub hl [0, 1, 2] rfl)
  · replace hf := ow_if_f c2 hf
    refine lv_aload_n hx hb dX9_fill_5 rfl (lv_at hl 0 rfl) ?_
    refine lv_iload_n hx hb dX9_fill_6 rfl (lv_at hl 1 rfl) ?_
    obtain ⟨r_7, σ_7, hc7, hf⟩ := ow_cl_i hf
    refine ow_callz (va_runV (As := [.int a1]) (rest := []) ⟨hx, hb, hml, hown, hts⟩ (c_X9_isCard l Z fu a1 σ r_7 σ_7 hc7) (cwV 1 hts gX9_fill_X9_isCard rfl rfl rfl (by decide +kernel) ⟨Nat.le_of_ble_eq_true rfl, Nat.le_of_ble_eq_true rfl⟩) (ow_preV hG hW ow_i56 (by decide) rfl) rfl rfl hl.1 rfl (lv_room (Nat.le_of_ble_eq_true rfl)) dX9_fill_7 ⟨Nat.zero_le _, Nat.zero_le _⟩) hW (fun b7 H locs hW => ?_)
    refine lv_if_eq (tgt := 22) hx hb dX9_fill_10 (by decide) (fun c10 => ?_) (fun c10 => ?_)
    · replace hf := ow_if_t c10 hf
      refine lv_bipush (v := -2) hx hb dX9_fill_22 (by decide) ?_
      exact ow_iret hx hb hr hW hf dX9_fill_24 hlocks
    · replace hf := ow_if_f c10 hf
      exact hJ13 a1 a2 σ_7 _ _ _ hf hW (lv_sub hl [0, 1, 2] rfl)
set_option maxHeartbeats 40000000 in
set_option maxRecDepth 100000 in
theorem c_X9_at (l : Launch) (Z : ow_Z) (fu : Nat) (a1 : Int32) (σ : ow_S) (rr : Int32) (σr : ow_S) (hf : f_X9_at fu a1 σ = some (rr, σr)) : Met l yX9_at wsX9_at { frames := 2, cells := 0, slots := 0, locals := 82 } (ow_Pc Z 56 20 [.ref (ow_ad Z 56), .int a1] σ) (ow_Qi Z 56 20 rr σr) 0 0 (ow_A Z 56 20) := by
  refine Met.ofW (cc := cX9_at) (maxL := 2) (ret := (some .int)) (by decide) rfl ?_
  intro p e s m args below meth c s₁ B hml hv
  obtain ⟨hav, hB⟩ := hv
  obtain ⟨hG, hW⟩ := ow_begin hB
  have hx := B.exec
  have hb := B.bytes
  have hr := B.returns
  have hts := atoms_spec (ws := wsX9_at) B.pre
  have hown : s.vm.findClass RX9 = some m.cls := findClass_of_methodNamed B.named
  have hlocks := B.notSynchronized
  have hinX9 : ∀ w ∈ wsX90, w ∈ wsX9_at := by decide +kernel
  have hl := lv_entry ([.ref (ow_ad Z 56), .int a1]) (n := 2) (Nat.le_of_ble_eq_true rfl)
  refine W.eq (g2 := F0 m 0 ((lg_sl ([.ref (ow_ad Z 56), .int a1]) ++ List.replicate (2 - (lg_sl ([.ref (ow_ad Z 56), .int a1])).length) Slot.unset).toArray) []) (by rw [hav]; exact lg_entry_eq _ _ _) ?_
  generalize (lg_sl ([.ref (ow_ad Z 56), .int a1]) ++ List.replicate (2 - (lg_sl ([.ref (ow_ad Z 56), .int a1])).length) Slot.unset).toArray = ls at hl ⊢
  have hl : lv_has ls 2 [(0, .ref (ow_ad Z 56)), (1, .int a1)] := hl
  unfold f_X9_at at hf
  refine lv_iload_n hx hb dX9_at_0 rfl (lv_at hl 1 rfl) ?_
  refine lv_iconst (v := 0) hx hb dX9_at_1 (by decide) ?_
  refine lv_aload_n hx hb dX9_at_2 rfl (lv_at hl 0 rfl) ?_
  refine ow_getV (ci := 9) (C := RX9) (T := TX9) (N := 41) hx hb hts hown hG hW ow_i56 (by decide) rfl hinX9 2 (by decide) (fk := 0) rfl (hts (.fieldLink RX9 85 "FiftyOneCardsModel" "rowMany" "I") (by decide +kernel)) (v := .int (σ.1 56 2)) rfl dX9_at_3 ?_
  refine lv_iconst (v := 1) hx hb dX9_at_6 (by decide) ?_
  refine lv_isub hx hb dX9_at_7 ?_
  obtain ⟨r_8, σ_8, hc8, hf⟩ := ow_cl_i hf
  refine ow_callz (va_runS (As := [.int a1, .int (0 : Int32), .int ((σ.1 56 2) - (1 : Int32))]) (rest := []) ⟨hx, hb, hml, hown, hts⟩ (c_X9_in l Z fu a1 (0 : Int32) ((σ.1 56 2) - (1 : Int32)) σ r_8 σ_8 hc8) (va_cwS 3 hts gX9_at_X9_in rfl rfl rfl (by decide +kernel) ⟨Nat.le_of_ble_eq_true rfl, Nat.le_of_ble_eq_true rfl⟩) (ow_preS hG hW) rfl rfl hl.1 rfl (lv_room (Nat.le_of_ble_eq_true rfl)) dX9_at_8 ⟨Nat.zero_le _, Nat.zero_le _⟩) hW (fun b8 H locs hW => ?_)
  refine lv_if_eq (tgt := 23) hx hb dX9_at_11 (by decide) (fun c11 => ?_) (fun c11 => ?_)
  · replace hf := ow_if_t c11 hf
    refine lv_bipush (v := -6) hx hb dX9_at_23 (by decide) ?_
    exact ow_iret hx hb hr hW hf dX9_at_25 hlocks
  · replace hf := ow_if_f c11 hf
    refine lv_aload_n hx hb dX9_at_14 rfl (lv_at hl 0 rfl) ?_
    refine ow_getV (ci := 9) (C := RX9) (T := TX9) (N := 41) hx hb hts hown hG hW ow_i56 (by decide) rfl hinX9 1 (by decide) (fk := 2) rfl (hts (.fieldLink RX9 13 "FiftyOneCardsModel" "row" "[I") (by decide +kernel)) (v := .ref (ow_ad Z 57)) (ow_vR hW ow_i56.1 ow_i56.2.1 rfl) dX9_at_15 ?_
    refine lv_iload_n hx hb dX9_at_18 rfl (lv_at hl 1 rfl) ?_
    obtain ⟨q19, hf⟩ := ow_ck_i hf
    refine ow_ild (q := a1.toNatClampNeg) hx hb hG hW ow_i57 rfl q19 rfl dX9_at_19 ?_
    refine lv_goto (tgt := 25) hx hb dX9_at_20 (by decide) ?_
    exact ow_iret hx hb hr hW hf dX9_at_25 hlocks
set_option maxHeartbeats 40000000 in
set_option maxRecDepth 100000 in
theorem c_X9_laysRow (l : Launch) (Z : ow_Z) (fu : Nat) (σ : ow_S) (σr : ow_S) (hf : f_X9_laysRow fu σ = some σr) : Met l yX9_laysRow wsX9_laysRow { frames := 1, cells := 0, slots := 0, locals := 60 } (ow_Pc Z 56 20 [.ref (ow_ad Z 56)] σ) (ow_Qv Z 56 20 σr) 0 0 (ow_A Z 56 20) := by
  refine Met.ofW (cc := cX9_laysRow) (maxL := 2) (ret := none) (by decide) rfl ?_
  intro p e s m args below meth c s₁ B hml hv
  obtain ⟨hav, hB⟩ := hv
  obtain ⟨hG, hW⟩ := ow_begin hB
  have hx := B.exec
  have hb := B.bytes
  have hr := B.returns
  have hts := atoms_spec (ws := wsX9_laysRow) B.pre
  have hown : s.vm.findClass RX9 = some m.cls := findClass_of_methodNamed B.named
  have hlocks := B.notSynchronized
  have hinX9 : ∀ w ∈ wsX90, w ∈ wsX9_laysRow := by decide +kernel
  have hJ10 : ∀ (fn : Nat), ∀ (x1 : Int32) (σ : ow_S) (H : Heap) (locs : List Loc) (ls : Array Slot), L_X9_laysRow_10 fu fn x1 σ = some σr → ow_Wd Z 56 20 σ s H locs → lv_has ls 2 [(0, .ref (ow_ad Z 56)), (1, .int x1)] → W p l e (headSpec wsX9_laysRow { frames := 1, cells := 0, slots := 0, locals := 60 }).room s m args below meth c H locs 0 0 (MQ below (ow_Qv Z 56 20 σr) args s 0 0 (ow_A Z 56 20)) (F0 m 10 ls []) := by
    intro fn
    induction fn with
    | zero => intro x1 σ H locs ls hf hW hl; simp [L_X9_laysRow_10] at hf
    | succ fn ih =>
      intro x1 σ H locs ls hf hW hl
      rw [L_X9_laysRow_10] at hf
      refine lv_iload_n hx hb dX9_laysRow_10 rfl (lv_at hl 1 rfl) ?_
      refine lv_aload_n hx hb dX9_laysRow_11 rfl (lv_at hl 0 rfl) ?_
      refine ow_getV (ci := 9) (C := RX9) (T := TX9) (N := 41) hx hb hts hown hG hW ow_i56 (by decide) rfl hinX9 2 (by decide) (fk := 0) rfl (hts (.fieldLink RX9 85 "FiftyOneCardsModel" "rowMany" "I") (by decide +kernel)) (v := .int (σ.1 56 2)) rfl dX9_laysRow_12 ?_
      refine lv_icmp_ge (tgt := 36) hx hb dX9_laysRow_15 (by decide) (fun c15 => ?_) (fun c15 => ?_)
      · replace hf := ow_if_t c15 hf
        exact ow_vret hx hb hr hW hf dX9_laysRow_36 hlocks
      · replace hf := ow_if_f c15 hf
        refine lv_aload_n hx hb dX9_laysRow_18 rfl (lv_at hl 0 rfl) ?_
        refine ow_getV (ci := 9) (C := RX9) (T := TX9) (N := 41) hx hb hts hown hG hW ow_i56 (by decide) rfl hinX9 35 (by decide) (fk := 2) rfl (hts (.fieldLink RX9 65 "FiftyOneCardsModel" "goes" "[I") (by decide +kernel)) (v := .ref (ow_ad Z 74)) (ow_vR hW ow_i56.1 ow_i56.2.1 rfl) dX9_laysRow_19 ?_
        refine lv_iload_n hx hb dX9_laysRow_22 rfl (lv_at hl 1 rfl) ?_
        refine lv_aload_n hx hb dX9_laysRow_23 rfl (lv_at hl 0 rfl) ?_
        refine ow_getV (ci := 9) (C := RX9) (T := TX9) (N := 41) hx hb hts hown hG hW ow_i56 (by decide) rfl hinX9 1 (by decide) (fk := 2) rfl (hts (.fieldLink RX9 13 "FiftyOneCardsModel" "row" "[I") (by decide +kernel)) (v := .ref (ow_ad Z 57)) (ow_vR hW ow_i56.1 ow_i56.2.1 rfl) dX9_laysRow_24 ?_
        refine lv_iload_n hx hb dX9_laysRow_27 rfl (lv_at hl 1 rfl) ?_
        obtain ⟨q28, hf⟩ := ow_ck_i hf
        refine ow_ild (q := x1.toNatClampNeg) hx hb hG hW ow_i57 rfl q28 rfl dX9_laysRow_28 ?_
        obtain ⟨q29, hf⟩ := ow_ck_i hf
        refine ow_ist (q := x1.toNatClampNeg) hx hb hG hW ow_i74 rfl q29 rfl hf dX9_laysRow_29 (fun σ_29 H locs hf hW => ?_)
        refine ow_iinc (d := 1) (lv' := fun z => [(1, .int z), (0, .ref (ow_ad Z 56))]) hx hb hf dX9_laysRow_30 hl (k := 1) rfl (by decide) (by decide) (fun z => rfl) (fun x1_30 hf ls hl => ?_)
        refine lv_goto (tgt := 10) hx hb dX9_laysRow_33 (by decide) ?_
        exact ih x1_30 σ_29 _ _ _ hf hW (lv_sub hl [1, 0] rfl)
  have hl := lv_entry ([.ref (ow_ad Z 56)]) (n := 2) (Nat.le_of_ble_eq_true rfl)
  refine W.eq (g2 := F0 m 0 ((lg_sl ([.ref (ow_ad Z 56)]) ++ List.replicate (2 - (lg_sl ([.ref (ow_ad Z 56)])).length) Slot.unset).toArray) []) (by rw [hav]; exact lg_entry_eq _ _ _) ?_
  generalize (lg_sl ([.ref (ow_ad Z 56)]) ++ List.replicate (2 - (lg_sl ([.ref (ow_ad Z 56)])).length) Slot.unset).toArray = ls at hl ⊢
  have hl : lv_has ls 2 [(0, .ref (ow_ad Z 56))] := hl
  unfold f_X9_laysRow at hf
  refine lv_aload_n hx hb dX9_laysRow_0 rfl (lv_at hl 0 rfl) ?_
  refine lv_aload_n hx hb dX9_laysRow_1 rfl (lv_at hl 0 rfl) ?_
  refine ow_getV (ci := 9) (C := RX9) (T := TX9) (N := 41) hx hb hts hown hG hW ow_i56 (by decide) rfl hinX9 2 (by decide) (fk := 0) rfl (hts (.fieldLink RX9 85 "FiftyOneCardsModel" "rowMany" "I") (by decide +kernel)) (v := .int (σ.1 56 2)) rfl dX9_laysRow_2 ?_
  refine ow_putI (ci := 9) (C := RX9) (T := TX9) (N := 41) hx hb hts hown hG hW ow_i56 (by decide) rfl hinX9 tyX9 tyX9_ok nmX9 36 (by decide) rfl (hts (.fieldLink RX9 102 "FiftyOneCardsModel" "goesMany" "I") (by decide +kernel)) rfl rfl rfl hf dX9_laysRow_5 (fun σ_5 H locs hf hW => ?_)
  refine lv_iconst (v := 0) hx hb dX9_laysRow_8 (by decide) ?_
  refine lv_istore_n (lv' := [(1, .int (0 : Int32)), (0, .ref (ow_ad Z 56))]) hx hb dX9_laysRow_9 rfl hl (by decide) rfl (fun ls hl => ?_)
  exact hJ10 fu (0 : Int32) σ_5 _ _ _ hf hW (lv_sub hl [1, 0] rfl)
set_option maxHeartbeats 40000000 in
set_option maxRecDepth 100000 in
theorem c_X9_turnsOver (l : Launch) (Z : ow_Z) (fu : Nat) (a1 : Int32) (σ : ow_S) (σr : ow_S) (hf : f_X9_turnsOver fu a1 σ = some σr) : Met l yX9_turnsOver wsX9_turnsOver { frames := 1, cells := 0, slots := 0, locals := 60 } (ow_Pc Z 56 20 [.ref (ow_ad Z 56), .int a1] σ) (ow_Qv Z 56 20 σr) 0 0 (ow_A Z 56 20) := by
  refine Met.ofW (cc := cX9_turnsOver) (maxL := 6) (ret := none) (by decide) rfl ?_
  intro p e s m args below meth c s₁ B hml hv
  obtain ⟨hav, hB⟩ := hv
  obtain ⟨hG, hW⟩ := ow_begin hB
  have hx := B.exec
  have hb := B.bytes
  have hr := B.returns
  have hts := atoms_spec (ws := wsX9_turnsOver) B.pre
  have hown : s.vm.findClass RX9 = some m.cls := findClass_of_methodNamed B.named
  have hlocks := B.notSynchronized
  have hinX9 : ∀ w ∈ wsX90, w ∈ wsX9_turnsOver := by decide +kernel
  have hJ229 : ∀ (s1 : Int32) (s2 : Int32) (σ : ow_S) (H : Heap) (locs : List Loc) (ls : Array Slot), L_X9_turnsOver_229 fu s1 s2 σ = some σr → ow_Wd Z 56 20 σ s H locs → lv_has ls 6 [] → W p l e (headSpec wsX9_turnsOver { frames := 1, cells := 0, slots := 0, locals := 60 }).room s m args below meth c H locs 0 0 (MQ below (ow_Qv Z 56 20 σr) args s 0 0 (ow_A Z 56 20)) (F0 m 229 ls [.int s2, .int s1, .ref (ow_ad Z 74)]) := by
    intro s1 s2 σ H locs ls hf hW hl
    unfold L_X9_turnsOver_229 at hf
    obtain ⟨q229, hf⟩ := ow_ck_i hf
    refine ow_ist (q := s1.toNatClampNeg) hx hb hG hW ow_i74 rfl q229 rfl hf dX9_turnsOver_229 (fun σ_229 H locs hf hW => ?_)
    exact ow_vret hx hb hr hW hf dX9_turnsOver_230 hlocks
  have hJ208 : ∀ (x1 : Int32) (x3 : Int32) (s1 : Int32) (s2 : Int32) (σ : ow_S) (H : Heap) (locs : List Loc) (ls : Array Slot), L_X9_turnsOver_208 fu x1 x3 s1 s2 σ = some σr → ow_Wd Z 56 20 σ s H locs → lv_has ls 6 [(0, .ref (ow_ad Z 56)), (1, .int x1), (3, .int x3)] → W p l e (headSpec wsX9_turnsOver { frames := 1, cells := 0, slots := 0, locals := 60 }).room s m args below meth c H locs 0 0 (MQ below (ow_Qv Z 56 20 σr) args s 0 0 (ow_A Z 56 20)) (F0 m 208 ls [.int s2, .int s1, .ref (ow_ad Z 74)]) := by
    intro x1 x3 s1 s2 σ H locs ls hf hW hl
    unfold L_X9_turnsOver_208 at hf
    obtain ⟨q208, hf⟩ := ow_ck_i hf
    refine ow_ist (q := s1.toNatClampNeg) hx hb hG hW ow_i74 rfl q208 rfl hf dX9_turnsOver_208 (fun σ_208 H locs hf hW => ?_)
    refine lv_aload_n hx hb dX9_turnsOver_209 rfl (lv_at hl 0 rfl) ?_
    refine ow_getV (ci := 9) (C := RX9) (T := TX9) (N := 41) hx hb hts hown hG hW ow_i56 (by decide) rfl hinX9 35 (by decide) (fk := 2) rfl (hts (.fieldLink RX9 65 "FiftyOneCardsModel" "goes" "[I") (by decide +kernel)) (v := .ref (ow_ad Z 74)) (ow_vR hW ow_i56.1 ow_i56.2.1 rfl) dX9_turnsOver_210 ?_
    refine lv_iconst (v := 0) hx hb dX9_turnsOver_213 (by decide) ?_
    refine lv_iload_n hx hb dX9_turnsOver_214 rfl (lv_at hl 1 rfl) ?_
    refine lv_iconst (v := 2) hx hb dX9_turnsOver_215 (by decide) ?_
    refine lv_icmp_ne (tgt := 223) hx hb dX9_turnsOver_216 (by decide) (fun c216 => ?_) (fun c216 => ?_)
    · replace hf := ow_if_f c216 hf
      refine lv_aload_n hx hb dX9_turnsOver_223 rfl (lv_at hl 0 rfl) ?_
      refine ow_getV (ci := 9) (C := RX9) (T := TX9) (N := 41) hx hb hts hown hG hW ow_i56 (by decide) rfl hinX9 35 (by decide) (fk := 2) rfl (hts (.fieldLink RX9 65 "FiftyOneCardsModel" "goes" "[I") (by decide +kernel)) (v := .ref (ow_ad Z 74)) (ow_vR hW ow_i56.1 ow_i56.2.1 rfl) dX9_turnsOver_224 ?_
      refine lv_iconst (v := 0) hx hb dX9_turnsOver_227 (by decide) ?_
      refine ow_ild (q := 0) hx hb hG hW ow_i74 rfl (by decide) (by decide) dX9_turnsOver_228 ?_
      exact hJ229 (0 : Int32) (σ_208.1 74 0) σ_208 _ _ _ hf hW (lv_sub hl [] rfl)
    · replace hf := ow_if_t c216 hf
      refine lv_iload_n hx hb dX9_turnsOver_219 rfl (lv_at hl 2 rfl) ?_
      refine lv_goto (tgt := 229) hx hb dX9_turnsOver_220 (by decide) ?_
      exact hJ229 (0 : Int32) x3 σ_208 _ _ _ hf hW (lv_sub hl [] rfl)
  have hJ178 : ∀ (x1 : Int32) (x2 : Int32) (x3 : Int32) (σ : ow_S) (H : Heap) (locs : List Loc) (ls : Array Slot), L_X9_turnsOver_178 fu x1 x2 x3 σ = some σr → ow_Wd Z 56 20 σ s H locs → lv_has ls 6 [(0, .ref (ow_ad Z 56)), (1, .int x1), (2, .int x2), (3, .int x3)] → W p l e (headSpec wsX9_turnsOver { frames := 1, cells := 0, slots := 0, locals := 60 }).room s m args below meth c H locs 0 0 (MQ below (ow_Qv Z 56 20 σr) args s 0 0 (ow_A Z 56 20)) (F0 m 178 ls []) := by
    intro x1 x2 x3 σ H locs ls hf hW hl
    unfold L_X9_turnsOver_178 at hf
    refine lv_aload_n hx hb dX9_turnsOver_178 rfl (lv_at hl 0 rfl) ?_
    refine ow_getV (ci := 9) (C := RX9) (T := TX9) (N := 41) hx hb hts hown hG hW ow_i56 (by decide) rfl hinX9 35 (by decide) (fk := 2) rfl (hts (.fieldLink RX9 65 "FiftyOneCardsModel" "goes" "[I") (by decide +kernel)) (v := .ref (ow_ad Z 74)) (ow_vR hW ow_i56.1 ow_i56.2.1 rfl) dX9_turnsOver_179 ?_
    refine lv_aload_n hx hb dX9_turnsOver_182 rfl (lv_at hl 0 rfl) ?_
    refine ow_getV (ci := 9) (C := RX9) (T := TX9) (N := 41) hx hb hts hown hG hW ow_i56 (by decide) rfl hinX9 36 (by decide) (fk := 0) rfl (hts (.fieldLink RX9 102 "FiftyOneCardsModel" "goesMany" "I") (by decide +kernel)) (v := .int (σ.1 56 36)) rfl dX9_turnsOver_183 ?_
    refine lv_iconst (v := 1) hx hb dX9_turnsOver_186 (by decide) ?_
    refine lv_isub hx hb dX9_turnsOver_187 ?_
    refine lv_iload_n hx hb dX9_turnsOver_188 rfl (lv_at hl 1 rfl) ?_
    refine lv_iconst (v := 1) hx hb dX9_turnsOver_189 (by decide) ?_
    refine lv_icmp_ne (tgt := 197) hx hb dX9_turnsOver_190 (by decide) (fun c190 => ?_) (fun c190 => ?_)
    · replace hf := ow_if_f c190 hf
      refine lv_aload_n hx hb dX9_turnsOver_197 rfl (lv_at hl 0 rfl) ?_
      refine ow_getV (ci := 9) (C := RX9) (T := TX9) (N := 41) hx hb hts hown hG hW ow_i56 (by decide) rfl hinX9 35 (by decide) (fk := 2) rfl (hts (.fieldLink RX9 65 "FiftyOneCardsModel" "goes" "[I") (by decide +kernel)) (v := .ref (ow_ad Z 74)) (ow_vR hW ow_i56.1 ow_i56.2.1 rfl) dX9_turnsOver_198 ?_
      refine lv_aload_n hx hb dX9_turnsOver_201 rfl (lv_at hl 0 rfl) ?_
      refine ow_getV (ci := 9) (C := RX9) (T := TX9) (N := 41) hx hb hts hown hG hW ow_i56 (by decide) rfl hinX9 36 (by decide) (fk := 0) rfl (hts (.fieldLink RX9 102 "FiftyOneCardsModel" "goesMany" "I") (by decide +kernel)) (v := .int (σ.1 56 36)) rfl dX9_turnsOver_202 ?_
      refine lv_iconst (v := 1) hx hb dX9_turnsOver_205 (by decide) ?_
      refine lv_isub hx hb dX9_turnsOver_206 ?_
      obtain ⟨q207, hf⟩ := ow_ck_i hf
      refine ow_ild (q := ((σ.1 56 36) - (1 : Int32)).toNatClampNeg) hx hb hG hW ow_i74 rfl q207 rfl dX9_turnsOver_207 ?_
      exact hJ208 x1 x3 ((σ.1 56 36) - (1 : Int32)) (σ.1 74 ((σ.1 56 36) - (1 : Int32)).toNatClampNeg) σ _ _ _ hf hW (lv_sub hl [0, 1, 3] rfl)
    · replace hf := ow_if_t c190 hf
      refine lv_iload_n hx hb dX9_turnsOver_193 rfl (lv_at hl 2 rfl) ?_
      refine lv_goto (tgt := 208) hx hb dX9_turnsOver_194 (by decide) ?_
      exact hJ208 x1 x3 ((σ.1 56 36) - (1 : Int32)) x2 σ _ _ _ hf hW (lv_sub hl [0, 1, 3] rfl)
  have hJ146 : ∀ (fn : Nat), ∀ (x1 : Int32) (x2 : Int32) (x3 : Int32) (x4 : Int32) (σ : ow_S) (H : Heap) (locs : List Loc) (ls : Array Slot), L_X9_turnsOver_146 fu fn x1 x2 x3 x4 σ = some σr → ow_Wd Z 56 20 σ s H locs → lv_has ls 6 [(0, .ref (ow_ad Z 56)), (1, .int x1), (2, .int x2), (3, .int x3), (4, .int x4)] → W p l e (headSpec wsX9_turnsOver { frames := 1, cells := 0, slots := 0, locals := 60 }).room s m args below meth c H locs 0 0 (MQ below (ow_Qv Z 56 20 σr) args s 0 0 (ow_A Z 56 20)) (F0 m 146 ls []) := by
    intro fn
    induction fn with
    | zero => intro x1 x2 x3 x4 σ H locs ls hf hW hl; simp [L_X9_turnsOver_146] at hf
    | succ fn ih =>
      intro x1 x2 x3 x4 σ H locs ls hf hW hl
      rw [L_X9_turnsOver_146] at hf
      refine lv_iload hx hb dX9_turnsOver_146 (lv_at hl 4 rfl) ?_
      refine lv_if_le (tgt := 178) hx hb dX9_turnsOver_148 (by decide) (fun c148 => ?_) (fun c148 => ?_)
      · replace hf := ow_if_t c148 hf
        exact hJ178 x1 x2 x3 σ _ _ _ hf hW (lv_sub hl [0, 1, 2, 3] rfl)
      · replace hf := ow_if_f c148 hf
        refine lv_iload_n hx hb dX9_turnsOver_151 rfl (lv_at hl 1 rfl) ?_
        refine lv_iconst (v := 2) hx hb dX9_turnsOver_152 (by decide) ?_
        refine lv_icmp_ne (tgt := 178) hx hb dX9_turnsOver_153 (by decide) (fun c153 => ?_) (fun c153 => ?_)
        · replace hf := ow_if_f c153 hf
          exact hJ178 x1 x2 x3 σ _ _ _ hf hW (lv_sub hl [0, 1, 2, 3] rfl)
        · replace hf := ow_if_t c153 hf
          refine lv_aload_n hx hb dX9_turnsOver_156 rfl (lv_at hl 0 rfl) ?_
          refine ow_getV (ci := 9) (C := RX9) (T := TX9) (N := 41) hx hb hts hown hG hW ow_i56 (by decide) rfl hinX9 35 (by decide) (fk := 2) rfl (hts (.fieldLink RX9 65 "FiftyOneCardsModel" "goes" "[I") (by decide +kernel)) (v := .ref (ow_ad Z 74)) (ow_vR hW ow_i56.1 ow_i56.2.1 rfl) dX9_turnsOver_157 ?_
          refine lv_iload hx hb dX9_turnsOver_160 (lv_at hl 4 rfl) ?_
          refine lv_aload_n hx hb dX9_turnsOver_162 rfl (lv_at hl 0 rfl) ?_
          refine ow_getV (ci := 9) (C := RX9) (T := TX9) (N := 41) hx hb hts hown hG hW ow_i56 (by decide) rfl hinX9 35 (by decide) (fk := 2) rfl (hts (.fieldLink RX9 65 "FiftyOneCardsModel" "goes" "[I") (by decide +kernel)) (v := .ref (ow_ad Z 74)) (ow_vR hW ow_i56.1 ow_i56.2.1 rfl) dX9_turnsOver_163 ?_
          refine lv_iload hx hb dX9_turnsOver_166 (lv_at hl 4 rfl) ?_
          refine lv_iconst (v := 1) hx hb dX9_turnsOver_168 (by decide) ?_
          refine lv_isub hx hb dX9_turnsOver_169 ?_
          obtain ⟨q170, hf⟩ := ow_ck_i hf
          refine ow_ild (q := (x4 - (1 : Int32)).toNatClampNeg) hx hb hG hW ow_i74 rfl q170 rfl dX9_turnsOver_170 ?_
          obtain ⟨q171, hf⟩ := ow_ck_i hf
          refine ow_ist (q := x4.toNatClampNeg) hx hb hG hW ow_i74 rfl q171 rfl hf dX9_turnsOver_171 (fun σ_171 H locs hf hW => ?_)
          refine ow_iinc (d := -1) (lv' := fun z => [(4, .int z), (0, .ref (ow_ad Z 56)), (1, .int x1), (2, .int x2), (3, .int x3)]) hx hb hf dX9_turnsOver_172 hl (k := 4) rfl (by decide) (by decide) (fun z => rfl) (fun x4_172 hf ls hl => ?_)
          refine lv_goto (tgt := 146) hx hb dX9_turnsOver_175 (by decide) ?_
          exact ih x1 x2 x3 x4_172 σ_171 _ _ _ hf hW (lv_sub hl [1, 2, 3, 4, 0] rfl)
  have hJ138 : ∀ (x1 : Int32) (x2 : Int32) (x3 : Int32) (σ : ow_S) (H : Heap) (locs : List Loc) (ls : Array Slot), L_X9_turnsOver_138 fu x1 x2 x3 σ = some σr → ow_Wd Z 56 20 σ s H locs → lv_has ls 6 [(0, .ref (ow_ad Z 56)), (1, .int x1), (2, .int x2), (3, .int x3)] → W p l e (headSpec wsX9_turnsOver { frames := 1, cells := 0, slots := 0, locals := 60 }).room s m args below meth c H locs 0 0 (MQ below (ow_Qv Z 56 20 σr) args s 0 0 (ow_A Z 56 20)) (F0 m 138 ls []) := by
    intro x1 x2 x3 σ H locs ls hf hW hl
    unfold L_X9_turnsOver_138 at hf
    refine lv_aload_n hx hb dX9_turnsOver_138 rfl (lv_at hl 0 rfl) ?_
    refine ow_getV (ci := 9) (C := RX9) (T := TX9) (N := 41) hx hb hts hown hG hW ow_i56 (by decide) rfl hinX9 36 (by decide) (fk := 0) rfl (hts (.fieldLink RX9 102 "FiftyOneCardsModel" "goesMany" "I") (by decide +kernel)) (v := .int (σ.1 56 36)) rfl dX9_turnsOver_139 ?_
    refine lv_iconst (v := 1) hx hb dX9_turnsOver_142 (by decide) ?_
    refine lv_isub hx hb dX9_turnsOver_143 ?_
    refine ow_topi hf (fun x4_144 hf => ?_)
    refine lv_istore (lv' := [(4, .int x4_144), (0, .ref (ow_ad Z 56)), (1, .int x1), (2, .int x2), (3, .int x3)]) hx hb dX9_turnsOver_144 hl (by decide) rfl (fun ls hl => ?_)
    exact hJ146 fu x1 x2 x3 x4_144 σ _ _ _ hf hW (lv_sub hl [1, 2, 3, 4, 0] rfl)
  have hJ100 : ∀ (fn : Nat), ∀ (x1 : Int32) (x2 : Int32) (x3 : Int32) (x4 : Int32) (σ : ow_S) (H : Heap) (locs : List Loc) (ls : Array Slot), L_X9_turnsOver_100 fu fn x1 x2 x3 x4 σ = some σr → ow_Wd Z 56 20 σ s H locs → lv_has ls 6 [(0, .ref (ow_ad Z 56)), (1, .int x1), (2, .int x2), (3, .int x3), (4, .int x4)] → W p l e (headSpec wsX9_turnsOver { frames := 1, cells := 0, slots := 0, locals := 60 }).room s m args below meth c H locs 0 0 (MQ below (ow_Qv Z 56 20 σr) args s 0 0 (ow_A Z 56 20)) (F0 m 100 ls []) := by
    intro fn
    induction fn with
    | zero => intro x1 x2 x3 x4 σ H locs ls hf hW hl; simp [L_X9_turnsOver_100] at hf
    | succ fn ih =>
      intro x1 x2 x3 x4 σ H locs ls hf hW hl
      rw [L_X9_turnsOver_100] at hf
      refine lv_iload hx hb dX9_turnsOver_100 (lv_at hl 4 rfl) ?_
      refine lv_iconst (v := 1) hx hb dX9_turnsOver_102 (by decide) ?_
      refine lv_iadd hx hb dX9_turnsOver_103 ?_
      refine lv_aload_n hx hb dX9_turnsOver_104 rfl (lv_at hl 0 rfl) ?_
      refine ow_getV (ci := 9) (C := RX9) (T := TX9) (N := 41) hx hb hts hown hG hW ow_i56 (by decide) rfl hinX9 36 (by decide) (fk := 0) rfl (hts (.fieldLink RX9 102 "FiftyOneCardsModel" "goesMany" "I") (by decide +kernel)) (v := .int (σ.1 56 36)) rfl dX9_turnsOver_105 ?_
      refine lv_icmp_ge (tgt := 138) hx hb dX9_turnsOver_108 (by decide) (fun c108 => ?_) (fun c108 => ?_)
      · replace hf := ow_if_t c108 hf
        exact hJ138 x1 x2 x3 σ _ _ _ hf hW (lv_sub hl [0, 1, 2, 3] rfl)
      · replace hf := ow_if_f c108 hf
        refine lv_iload_n hx hb dX9_turnsOver_111 rfl (lv_at hl 1 rfl) ?_
        refine lv_iconst (v := 1) hx hb dX9_turnsOver_112 (by decide) ?_
        refine lv_icmp_ne (tgt := 138) hx hb dX9_turnsOver_113 (by decide) (fun c113 => ?_) (fun c113 => ?_)
        · replace hf := ow_if_f c113 hf
          exact hJ138 x1 x2 x3 σ _ _ _ hf hW (lv_sub hl [0, 1, 2, 3] rfl)
        · replace hf := ow_if_t c113 hf
          refine lv_aload_n hx hb dX9_turnsOver_116 rfl (lv_at hl 0 rfl) ?_
          refine ow_getV (ci := 9) (C := RX9) (T := TX9) (N := 41) hx hb hts hown hG hW ow_i56 (by decide) rfl hinX9 35 (by decide) (fk := 2) rfl (hts (.fieldLink RX9 65 "FiftyOneCardsModel" "goes" "[I") (by decide +kernel)) (v := .ref (ow_ad Z 74)) (ow_vR hW ow_i56.1 ow_i56.2.1 rfl) dX9_turnsOver_117 ?_
          refine lv_iload hx hb dX9_turnsOver_120 (lv_at hl 4 rfl) ?_
          refine lv_aload_n hx hb dX9_turnsOver_122 rfl (lv_at hl 0 rfl) ?_
          refine ow_getV (ci := 9) (C := RX9) (T := TX9) (N := 41) hx hb hts hown hG hW ow_i56 (by decide) rfl hinX9 35 (by decide) (fk := 2) rfl (hts (.fieldLink RX9 65 "FiftyOneCardsModel" "goes" "[I") (by decide +kernel)) (v := .ref (ow_ad Z 74)) (ow_vR hW ow_i56.1 ow_i56.2.1 rfl) dX9_turnsOver_123 ?_
          refine lv_iload hx hb dX9_turnsOver_126 (lv_at hl 4 rfl) ?_
          refine lv_iconst (v := 1) hx hb dX9_turnsOver_128 (by decide) ?_
          refine lv_iadd hx hb dX9_turnsOver_129 ?_
          obtain ⟨q130, hf⟩ := ow_ck_i hf
          refine ow_ild (q := (x4 + (1 : Int32)).toNatClampNeg) hx hb hG hW ow_i74 rfl q130 rfl dX9_turnsOver_130 ?_
          obtain ⟨q131, hf⟩ := ow_ck_i hf
          refine ow_ist (q := x4.toNatClampNeg) hx hb hG hW ow_i74 rfl q131 rfl hf dX9_turnsOver_131 (fun σ_131 H locs hf hW => ?_)
          refine ow_iinc (d := 1) (lv' := fun z => [(4, .int z), (0, .ref (ow_ad Z 56)), (1, .int x1), (2, .int x2), (3, .int x3)]) hx hb hf dX9_turnsOver_132 hl (k := 4) rfl (by decide) (by decide) (fun z => rfl) (fun x4_132 hf ls hl => ?_)
          refine lv_goto (tgt := 100) hx hb dX9_turnsOver_135 (by decide) ?_
          exact ih x1 x2 x3 x4_132 σ_131 _ _ _ hf hW (lv_sub hl [1, 2, 3, 4, 0] rfl)
  have hJ97 : ∀ (x1 : Int32) (x2 : Int32) (x3 : Int32) (σ : ow_S) (H : Heap) (locs : List Loc) (ls : Array Slot), L_X9_turnsOver_97 fu x1 x2 x3 σ = some σr → ow_Wd Z 56 20 σ s H locs → lv_has ls 6 [(0, .ref (ow_ad Z 56)), (1, .int x1), (2, .int x2), (3, .int x3)] → W p l e (headSpec wsX9_turnsOver { frames := 1, cells := 0, slots := 0, locals := 60 }).room s m args below meth c H locs 0 0 (MQ below (ow_Qv Z 56 20 σr) args s 0 0 (ow_A Z 56 20)) (F0 m 97 ls []) := by
    intro x1 x2 x3 σ H locs ls hf hW hl
    unfold L_X9_turnsOver_97 at hf
    refine lv_iconst (v := 0) hx hb dX9_turnsOver_97 (by decide) ?_
    refine lv_istore (lv' := [(4, .int (0 : Int32)), (0, .ref (ow_ad Z 56)), (1, .int x1), (2, .int x2), (3, .int x3)]) hx hb dX9_turnsOver_98 hl (by decide) rfl (fun ls hl => ?_)
    exact hJ100 fu x1 x2 x3 (0 : Int32) σ _ _ _ hf hW (lv_sub hl [1, 2, 3, 4, 0] rfl)
  have hJ30 : ∀ (fn : Nat), ∀ (x1 : Int32) (x2 : Int32) (x3 : Int32) (x4 : Int32) (σ : ow_S) (H : Heap) (locs : List Loc) (ls : Array Slot), L_X9_turnsOver_30 fu fn x1 x2 x3 x4 σ = some σr → ow_Wd Z 56 20 σ s H locs → lv_has ls 6 [(0, .ref (ow_ad Z 56)), (1, .int x1), (2, .int x2), (3, .int x3), (4, .int x4)] → W p l e (headSpec wsX9_turnsOver { frames := 1, cells := 0, slots := 0, locals := 60 }).room s m args below meth c H locs 0 0 (MQ below (ow_Qv Z 56 20 σr) args s 0 0 (ow_A Z 56 20)) (F0 m 30 ls []) := by
    intro fn
    induction fn with
    | zero => intro x1 x2 x3 x4 σ H locs ls hf hW hl; simp [L_X9_turnsOver_30] at hf
    | succ fn ih =>
      intro x1 x2 x3 x4 σ H locs ls hf hW hl
      rw [L_X9_turnsOver_30] at hf
      refine lv_iload hx hb dX9_turnsOver_30 (lv_at hl 4 rfl) ?_
      refine lv_aload_n hx hb dX9_turnsOver_32 rfl (lv_at hl 0 rfl) ?_
      refine ow_getV (ci := 9) (C := RX9) (T := TX9) (N := 41) hx hb hts hown hG hW ow_i56 (by decide) rfl hinX9 36 (by decide) (fk := 0) rfl (hts (.fieldLink RX9 102 "FiftyOneCardsModel" "goesMany" "I") (by decide +kernel)) (v := .int (σ.1 56 36)) rfl dX9_turnsOver_33 ?_
      refine lv_iconst (v := 2) hx hb dX9_turnsOver_36 (by decide) ?_
      refine lv_idiv hx hb dX9_turnsOver_37 (by decide) ?_
      refine lv_icmp_ge (tgt := 97) hx hb dX9_turnsOver_38 (by decide) (fun c38 => ?_) (fun c38 => ?_)
      · replace hf := ow_if_t c38 hf
        exact hJ97 x1 x2 x3 σ _ _ _ hf hW (lv_sub hl [0, 1, 2, 3] rfl)
      · replace hf := ow_if_f c38 hf
        refine lv_iload_n hx hb dX9_turnsOver_41 rfl (lv_at hl 1 rfl) ?_
        refine lv_if_ne (tgt := 97) hx hb dX9_turnsOver_42 (by decide) (fun c42 => ?_) (fun c42 => ?_)
        · replace hf := ow_if_f c42 hf
          exact hJ97 x1 x2 x3 σ _ _ _ hf hW (lv_sub hl [0, 1, 2, 3] rfl)
        · replace hf := ow_if_t c42 hf
          refine lv_aload_n hx hb dX9_turnsOver_45 rfl (lv_at hl 0 rfl) ?_
          refine ow_getV (ci := 9) (C := RX9) (T := TX9) (N := 41) hx hb hts hown hG hW ow_i56 (by decide) rfl hinX9 35 (by decide) (fk := 2) rfl (hts (.fieldLink RX9 65 "FiftyOneCardsModel" "goes" "[I") (by decide +kernel)) (v := .ref (ow_ad Z 74)) (ow_vR hW ow_i56.1 ow_i56.2.1 rfl) dX9_turnsOver_46 ?_
          refine lv_iload hx hb dX9_turnsOver_49 (lv_at hl 4 rfl) ?_
          obtain ⟨q51, hf⟩ := ow_ck_i hf
          refine ow_ild (q := x4.toNatClampNeg) hx hb hG hW ow_i74 rfl q51 rfl dX9_turnsOver_51 ?_
          refine ow_topi hf (fun x5_52 hf => ?_)
          refine lv_istore (lv' := [(5, .int x5_52), (0, .ref (ow_ad Z 56)), (1, .int x1), (2, .int x2), (3, .int x3), (4, .int x4)]) hx hb dX9_turnsOver_52 hl (by decide) rfl (fun ls hl => ?_)
          refine lv_aload_n hx hb dX9_turnsOver_54 rfl (lv_at hl 1 rfl) ?_
          refine ow_getV (ci := 9) (C := RX9) (T := TX9) (N := 41) hx hb hts hown hG hW ow_i56 (by decide) rfl hinX9 35 (by decide) (fk := 2) rfl (hts (.fieldLink RX9 65 "FiftyOneCardsModel" "goes" "[I") (by decide +kernel)) (v := .ref (ow_ad Z 74)) (ow_vR hW ow_i56.1 ow_i56.2.1 rfl) dX9_turnsOver_55 ?_
          refine lv_iload hx hb dX9_turnsOver_58 (lv_at hl 5 rfl) ?_
          refine lv_aload_n hx hb dX9_turnsOver_60 rfl (lv_at hl 1 rfl) ?_
          refine ow_getV (ci := 9) (C := RX9) (T := TX9) (N := 41) hx hb hts hown hG hW ow_i56 (by decide) rfl hinX9 35 (by decide) (fk := 2) rfl (hts (.fieldLink RX9 65 "FiftyOneCardsModel" "goes" "[I") (by decide +kernel)) (v := .ref (ow_ad Z 74)) (ow_vR hW ow_i56.1 ow_i56.2.1 rfl) dX9_turnsOver_61 ?_
          refine lv_aload_n hx hb dX9_turnsOver_64 rfl (lv_at hl 1 rfl) ?_
          refine ow_getV (ci := 9) (C := RX9) (T := TX9) (N := 41) hx hb hts hown hG hW ow_i56 (by decide) rfl hinX9 36 (by decide) (fk := 0) rfl (hts (.fieldLink RX9 102 "FiftyOneCardsModel" "goesMany" "I") (by decide +kernel)) (v := .int (σ.1 56 36)) rfl dX9_turnsOver_65 ?_
          refine lv_iconst (v := 1) hx hb dX9_turnsOver_68 (by decide) ?_
          refine lv_isub hx hb dX9_turnsOver_69 ?_
          refine lv_iload hx hb dX9_turnsOver_70 (lv_at hl 5 rfl) ?_
          refine lv_isub hx hb dX9_turnsOver_72 ?_
          obtain ⟨q73, hf⟩ := ow_ck_i hf
          refine ow_ild (q := (((σ.1 56 36) - (1 : Int32)) - x4).toNatClampNeg) hx hb hG hW ow_i74 rfl q73 rfl dX9_turnsOver_73 ?_
          obtain ⟨q74, hf⟩ := ow_ck_i hf
          refine ow_ist (q := x4.toNatClampNeg) hx hb hG hW ow_i74 rfl q74 rfl hf dX9_turnsOver_74 (fun σ_74 H locs hf hW => ?_)
          refine lv_aload_n hx hb dX9_turnsOver_75 rfl (lv_at hl 1 rfl) ?_
          refine ow_getV (ci := 9) (C := RX9) (T := TX9) (N := 41) hx hb hts hown hG hW ow_i56 (by decide) rfl hinX9 35 (by decide) (fk := 2) rfl (hts (.fieldLink RX9 65 "FiftyOneCardsModel" "goes" "[I") (by decide +kernel)) (v := .ref (ow_ad Z 74)) (ow_vR hW ow_i56.1 ow_i56.2.1 rfl) dX9_turnsOver_76 ?_
          refine lv_aload_n hx hb dX9_turnsOver_79 rfl (lv_at hl 1 rfl) ?_
          refine ow_getV (ci := 9) (C := RX9) (T := TX9) (N := 41) hx hb hts hown hG hW ow_i56 (by decide) rfl hinX9 36 (by decide) (fk := 0) rfl (hts (.fieldLink RX9 102 "FiftyOneCardsModel" "goesMany" "I") (by decide +kernel)) (v := .int (σ_74.1 56 36)) rfl dX9_turnsOver_80 ?_
          refine lv_iconst (v := 1) hx hb dX9_turnsOver_83 (by decide) ?_
          refine lv_isub hx hb dX9_turnsOver_84 ?_
          refine lv_iload hx hb dX9_turnsOver_85 (lv_at hl 5 rfl) ?_
          refine lv_isub hx hb dX9_turnsOver_87 ?_
          refine lv_iload hx hb dX9_turnsOver_88 (lv_at hl 0 rfl) ?_
          obtain ⟨q90, hf⟩ := ow_ck_i hf
          refine ow_ist (q := (((σ_74.1 56 36) - (1 : Int32)) - x4).toNatClampNeg) hx hb hG hW ow_i74 rfl q90 rfl hf dX9_turnsOver_90 (fun σ_90 H locs hf hW => ?_)
          refine ow_iinc (d := 1) (lv' := fun z => [(4, .int z), (5, .int x5_52), (0, .ref (ow_ad Z 56)), (1, .int x1), (2, .int x2), (3, .int x3)]) hx hb hf dX9_turnsOver_91 hl (k := 5) rfl (by decide) (by decide) (fun z => rfl) (fun x4_91 hf ls hl => ?_)
          refine lv_goto (tgt := 30) hx hb dX9_turnsOver_94 (by decide) ?_
          exact ih x1 x2 x3 x4_91 σ_90 _ _ _ hf hW (lv_sub hl [2, 3, 4, 5, 0] rfl)
  have hl := lv_entry ([.ref (ow_ad Z 56), .int a1]) (n := 6) (Nat.le_of_ble_eq_true rfl)
  refine W.eq (g2 := F0 m 0 ((lg_sl ([.ref (ow_ad Z 56), .int a1]) ++ List.replicate (6 - (lg_sl ([.ref (ow_ad Z 56), .int a1])).length) Slot.unset).toArray) []) (by rw [hav]; exact lg_entry_eq _ _ _) ?_
  generalize (lg_sl ([.ref (ow_ad Z 56), .int a1]) ++ List.replicate (6 - (lg_sl ([.ref (ow_ad Z 56), .int a1])).length) Slot.unset).toArray = ls at hl ⊢
  have hl : lv_has ls 6 [(0, .ref (ow_ad Z 56)), (1, .int a1)] := hl
  unfold f_X9_turnsOver at hf
  refine lv_aload_n hx hb dX9_turnsOver_0 rfl (lv_at hl 0 rfl) ?_
  refine ow_getV (ci := 9) (C := RX9) (T := TX9) (N := 41) hx hb hts hown hG hW ow_i56 (by decide) rfl hinX9 36 (by decide) (fk := 0) rfl (hts (.fieldLink RX9 102 "FiftyOneCardsModel" "goesMany" "I") (by decide +kernel)) (v := .int (σ.1 56 36)) rfl dX9_turnsOver_1 ?_
  refine lv_if_ne (tgt := 8) hx hb dX9_turnsOver_4 (by decide) (fun c4 => ?_) (fun c4 => ?_)
  · replace hf := ow_if_f c4 hf
    refine lv_aload_n hx hb dX9_turnsOver_8 rfl (lv_at hl 0 rfl) ?_
    refine ow_getV (ci := 9) (C := RX9) (T := TX9) (N := 41) hx hb hts hown hG hW ow_i56 (by decide) rfl hinX9 35 (by decide) (fk := 2) rfl (hts (.fieldLink RX9 65 "FiftyOneCardsModel" "goes" "[I") (by decide +kernel)) (v := .ref (ow_ad Z 74)) (ow_vR hW ow_i56.1 ow_i56.2.1 rfl) dX9_turnsOver_9 ?_
    refine lv_iconst (v := 0) hx hb dX9_turnsOver_12 (by decide) ?_
    refine ow_ild (q := 0) hx hb hG hW ow_i74 rfl (by decide) (by decide) dX9_turnsOver_13 ?_
    refine ow_topi hf (fun x2_14 hf => ?_)
    refine lv_istore_n (lv' := [(2, .int x2_14), (0, .ref (ow_ad Z 56)), (1, .int a1)]) hx hb dX9_turnsOver_14 rfl hl (by decide) rfl (fun ls hl => ?_)
    refine lv_aload_n hx hb dX9_turnsOver_15 rfl (lv_at hl 1 rfl) ?_
    refine ow_getV (ci := 9) (C := RX9) (T := TX9) (N := 41) hx hb hts hown hG hW ow_i56 (by decide) rfl hinX9 35 (by decide) (fk := 2) rfl (hts (.fieldLink RX9 65 "FiftyOneCardsModel" "goes" "[I") (by decide +kernel)) (v := .ref (ow_ad Z 74)) (ow_vR hW ow_i56.1 ow_i56.2.1 rfl) dX9_turnsOver_16 ?_
    refine lv_aload_n hx hb dX9_turnsOver_19 rfl (lv_at hl 1 rfl) ?_
    refine ow_getV (ci := 9) (C := RX9) (T := TX9) (N := 41) hx hb hts hown hG hW ow_i56 (by decide) rfl hinX9 36 (by decide) (fk := 0) rfl (hts (.fieldLink RX9 102 "FiftyOneCardsModel" "goesMany" "I") (by decide +kernel)) (v := .int (σ.1 56 36)) rfl dX9_turnsOver_20 ?_
    refine lv_iconst (v := 1) hx hb dX9_turnsOver_23 (by decide) ?_
    refine lv_isub hx hb dX9_turnsOver_24 ?_
    obtain ⟨q25, hf⟩ := ow_ck_i hf
    refine ow_ild (q := ((σ.1 56 36) - (1 : Int32)).toNatClampNeg) hx hb hG hW ow_i74 rfl q25 rfl dX9_turnsOver_25 ?_
    refine ow_topi hf (fun x3_26 hf => ?_)
    refine lv_istore_n (lv' := [(3, .int x3_26), (2, .int x2_14), (0, .ref (ow_ad Z 56)), (1, .int a1)]) hx hb dX9_turnsOver_26 rfl hl (by decide) rfl (fun ls hl => ?_)
    refine lv_iconst (v := 0) hx hb dX9_turnsOver_27 (by decide) ?_
    refine lv_istore (lv' := [(4, .int (0 : Int32)), (3, .int x3_26), (2, .int x2_14), (0, .ref (ow_ad Z 56)), (1, .int a1)]) hx hb dX9_turnsOver_28 hl (by decide) rfl (fun ls hl => ?_)
    exact hJ30 fu a1 x2_14 x3_26 (0 : Int32) σ _ _ _ hf hW (lv_sub hl [3, 4, 2, 1, 0] rfl)
  · replace hf := ow_if_t c4 hf
    exact ow_vret hx hb hr hW hf dX9_turnsOver_7 hlocks
set_option maxHeartbeats 40000000 in
set_option maxRecDepth 100000 in
theorem c_X9_turn (l : Launch) (Z : ow_Z) (fu : Nat) (a1 : Int32) (σ : ow_S) (rr : Int32) (σr : ow_S) (hf : f_X9_turn fu a1 σ = some (rr, σr)) : Met l yX9_turn wsX9_turn { frames := 2, cells := 0, slots := 0, locals := 85 } (ow_Pc Z 56 20 [.ref (ow_ad Z 56), .int a1] σ) (ow_Qi Z 56 20 rr σr) 0 0 (ow_A Z 56 20) := by
  refine Met.ofW (cc := cX9_turn) (maxL := 3) (ret := (some .int)) (by decide) rfl ?_
  intro p e s m args below meth c s₁ B hml hv
  obtain ⟨hav, hB⟩ := hv
  obtain ⟨hG, hW⟩ := ow_begin hB
  have hx := B.exec
  have hb := B.bytes
  have hr := B.returns
  have hts := atoms_spec (ws := wsX9_turn) B.pre
  have hown : s.vm.findClass RX9 = some m.cls := findClass_of_methodNamed B.named
  have hlocks := B.notSynchronized
  have hinX9 : ∀ w ∈ wsX90, w ∈ wsX9_turn := by decide +kernel
  have hJ23 : ∀ (fn : Nat), ∀ (x2 : Int32) (σ : ow_S) (H : Heap) (locs : List Loc) (ls : Array Slot), L_X9_turn_23 fu fn x2 σ = some (rr, σr) → ow_Wd Z 56 20 σ s H locs → lv_has ls 3 [(0, .ref (ow_ad Z 56)), (2, .int x2)] → W p l e (headSpec wsX9_turn { frames := 2, cells := 0, slots := 0, locals := 85 }).room s m args below meth c H locs 0 0 (MQ below (ow_Qi Z 56 20 rr σr) args s 0 0 (ow_A Z 56 20)) (F0 m 23 ls []) := by
    intro fn
    induction fn with
    | zero => intro x2 σ H locs ls hf hW hl; simp [L_X9_turn_23] at hf
    | succ fn ih =>
      intro x2 σ H locs ls hf hW hl
      rw [L_X9_turn_23] at hf
      refine lv_iload_n hx hb dX9_turn_23 rfl (lv_at hl 1 rfl) ?_
      refine lv_aload_n hx hb dX9_turn_24 rfl (lv_at hl 0 rfl) ?_
      refine ow_getV (ci := 9) (C := RX9) (T := TX9) (N := 41) hx hb hts hown hG hW ow_i56 (by decide) rfl hinX9 2 (by decide) (fk := 0) rfl (hts (.fieldLink RX9 85 "FiftyOneCardsModel" "rowMany" "I") (by decide +kernel)) (v := .int (σ.1 56 2)) rfl dX9_turn_25 ?_
      refine lv_icmp_ge (tgt := 49) hx hb dX9_turn_28 (by decide) (fun c28 => ?_) (fun c28 => ?_)
      · replace hf := ow_if_t c28 hf
        refine lv_aload_n hx hb dX9_turn_49 rfl (lv_at hl 0 rfl) ?_
        refine ow_getV (ci := 9) (C := RX9) (T := TX9) (N := 41) hx hb hts hown hG hW ow_i56 (by decide) rfl hinX9 2 (by decide) (fk := 0) rfl (hts (.fieldLink RX9 85 "FiftyOneCardsModel" "rowMany" "I") (by decide +kernel)) (v := .int (σ.1 56 2)) rfl dX9_turn_50 ?_
        refine lv_if_ne (tgt := 60) hx hb dX9_turn_53 (by decide) (fun c53 => ?_) (fun c53 => ?_)
        · replace hf := ow_if_f c53 hf
          refine lv_aload_n hx hb dX9_turn_60 rfl (lv_at hl 0 rfl) ?_
          refine ow_getV (ci := 9) (C := RX9) (T := TX9) (N := 41) hx hb hts hown hG hW ow_i56 (by decide) rfl hinX9 1 (by decide) (fk := 2) rfl (hts (.fieldLink RX9 13 "FiftyOneCardsModel" "row" "[I") (by decide +kernel)) (v := .ref (ow_ad Z 57)) (ow_vR hW ow_i56.1 ow_i56.2.1 rfl) dX9_turn_61 ?_
          refine lv_iconst (v := 0) hx hb dX9_turn_64 (by decide) ?_
          refine ow_ild (q := 0) hx hb hG hW ow_i57 rfl (by decide) (by decide) dX9_turn_65 ?_
          exact ow_iret hx hb hr hW hf dX9_turn_66 hlocks
        · replace hf := ow_if_t c53 hf
          refine lv_iconst (v := -1) hx hb dX9_turn_56 (by decide) ?_
          refine lv_goto (tgt := 66) hx hb dX9_turn_57 (by decide) ?_
          exact ow_iret hx hb hr hW hf dX9_turn_66 hlocks
      · replace hf := ow_if_f c28 hf
        refine lv_aload_n hx hb dX9_turn_31 rfl (lv_at hl 0 rfl) ?_
        refine ow_getV (ci := 9) (C := RX9) (T := TX9) (N := 41) hx hb hts hown hG hW ow_i56 (by decide) rfl hinX9 1 (by decide) (fk := 2) rfl (hts (.fieldLink RX9 13 "FiftyOneCardsModel" "row" "[I") (by decide +kernel)) (v := .ref (ow_ad Z 57)) (ow_vR hW ow_i56.1 ow_i56.2.1 rfl) dX9_turn_32 ?_
        refine lv_iload_n hx hb dX9_turn_35 rfl (lv_at hl 1 rfl) ?_
        refine lv_aload_n hx hb dX9_turn_36 rfl (lv_at hl 0 rfl) ?_
        refine ow_getV (ci := 9) (C := RX9) (T := TX9) (N := 41) hx hb hts hown hG hW ow_i56 (by decide) rfl hinX9 35 (by decide) (fk := 2) rfl (hts (.fieldLink RX9 65 "FiftyOneCardsModel" "goes" "[I") (by decide +kernel)) (v := .ref (ow_ad Z 74)) (ow_vR hW ow_i56.1 ow_i56.2.1 rfl) dX9_turn_37 ?_
        refine lv_iload_n hx hb dX9_turn_40 rfl (lv_at hl 1 rfl) ?_
        obtain ⟨q41, hf⟩ := ow_ck_i hf
        refine ow_ild (q := x2.toNatClampNeg) hx hb hG hW ow_i74 rfl q41 rfl dX9_turn_41 ?_
        obtain ⟨q42, hf⟩ := ow_ck_i hf
        refine ow_ist (q := x2.toNatClampNeg) hx hb hG hW ow_i57 rfl q42 rfl hf dX9_turn_42 (fun σ_42 H locs hf hW => ?_)
        refine ow_iinc (d := 1) (lv' := fun z => [(2, .int z), (0, .ref (ow_ad Z 56))]) hx hb hf dX9_turn_43 hl (k := 1) rfl (by decide) (by decide) (fun z => rfl) (fun x2_43 hf ls hl => ?_)
        refine lv_goto (tgt := 23) hx hb dX9_turn_46 (by decide) ?_
        exact ih x2_43 σ_42 _ _ _ hf hW (lv_sub hl [1, 0] rfl)
  have hl := lv_entry ([.ref (ow_ad Z 56), .int a1]) (n := 3) (Nat.le_of_ble_eq_true rfl)
  refine W.eq (g2 := F0 m 0 ((lg_sl ([.ref (ow_ad Z 56), .int a1]) ++ List.replicate (3 - (lg_sl ([.ref (ow_ad Z 56), .int a1])).length) Slot.unset).toArray) []) (by rw [hav]; exact lg_entry_eq _ _ _) ?_
  generalize (lg_sl ([.ref (ow_ad Z 56), .int a1]) ++ List.replicate (3 - (lg_sl ([.ref (ow_ad Z 56), .int a1])).length) Slot.unset).toArray = ls at hl ⊢
  have hl : lv_has ls 3 [(0, .ref (ow_ad Z 56)), (1, .int a1)] := hl
  unfold f_X9_turn at hf
  refine lv_iload_n hx hb dX9_turn_0 rfl (lv_at hl 1 rfl) ?_
  refine lv_iconst (v := 0) hx hb dX9_turn_1 (by decide) ?_
  refine lv_iconst (v := 2) hx hb dX9_turn_2 (by decide) ?_
  obtain ⟨r_3, σ_3, hc3, hf⟩ := ow_cl_i hf
  refine ow_callz (va_runS (As := [.int a1, .int (0 : Int32), .int (2 : Int32)]) (rest := []) ⟨hx, hb, hml, hown, hts⟩ (c_X9_in l Z fu a1 (0 : Int32) (2 : Int32) σ r_3 σ_3 hc3) (va_cwS 3 hts gX9_turn_X9_in rfl rfl rfl (by decide +kernel) ⟨Nat.le_of_ble_eq_true rfl, Nat.le_of_ble_eq_true rfl⟩) (ow_preS hG hW) rfl rfl hl.1 rfl (lv_room (Nat.le_of_ble_eq_true rfl)) dX9_turn_3 ⟨Nat.zero_le _, Nat.zero_le _⟩) hW (fun b3 H locs hW => ?_)
  refine lv_if_ne (tgt := 12) hx hb dX9_turn_6 (by decide) (fun c6 => ?_) (fun c6 => ?_)
  · replace hf := ow_if_f c6 hf
    refine lv_aload_n hx hb dX9_turn_12 rfl (lv_at hl 0 rfl) ?_
    obtain ⟨σ_13, hc13, hf⟩ := ow_cv_i hf
    refine ow_callv (va_runV (As := []) (rest := []) ⟨hx, hb, hml, hown, hts⟩ (c_X9_laysRow l Z fu σ_3 σ_13  hc13) (cwV 0 hts gX9_turn_X9_laysRow rfl rfl rfl (by decide +kernel) ⟨Nat.le_of_ble_eq_true rfl, Nat.le_of_ble_eq_true rfl⟩) (ow_preV hG hW ow_i56 (by decide) rfl) rfl rfl hl.1 rfl (lv_room (Nat.le_of_ble_eq_true rfl)) dX9_turn_13 ⟨Nat.zero_le _, Nat.zero_le _⟩) hW (fun H locs hW => ?_)
    refine lv_aload_n hx hb dX9_turn_16 rfl (lv_at hl 0 rfl) ?_
    refine lv_iload_n hx hb dX9_turn_17 rfl (lv_at hl 1 rfl) ?_
    obtain ⟨σ_18, hc18, hf⟩ := ow_cv_i hf
    refine ow_callv (va_runV (As := [.int a1]) (rest := []) ⟨hx, hb, hml, hown, hts⟩ (c_X9_turnsOver l Z fu a1 σ_13 σ_18  hc18) (cwV 1 hts gX9_turn_X9_turnsOver rfl rfl rfl (by decide +kernel) ⟨Nat.le_of_ble_eq_true rfl, Nat.le_of_ble_eq_true rfl⟩) (ow_preV hG hW ow_i56 (by decide) rfl) rfl rfl hl.1 rfl (lv_room (Nat.le_of_ble_eq_true rfl)) dX9_turn_18 ⟨Nat.zero_le _, Nat.zero_le _⟩) hW (fun H locs hW => ?_)
    refine lv_iconst (v := 0) hx hb dX9_turn_21 (by decide) ?_
    refine lv_istore_n (lv' := [(2, .int (0 : Int32)), (0, .ref (ow_ad Z 56)), (1, .int a1)]) hx hb dX9_turn_22 rfl hl (by decide) rfl (fun ls hl => ?_)
    exact hJ23 fu (0 : Int32) σ_18 _ _ _ hf hW (lv_sub hl [1, 0] rfl)
  · replace hf := ow_if_t c6 hf
    refine lv_bipush (v := -2) hx hb dX9_turn_9 (by decide) ?_
    exact ow_iret hx hb hr hW hf dX9_turn_11 hlocks
set_option maxHeartbeats 40000000 in
set_option maxRecDepth 100000 in
theorem c_X9_comings (l : Launch) (Z : ow_Z) (fu : Nat) (a1 : Int32) (σ : ow_S) (rr : Int32) (σr : ow_S) (hf : f_X9_comings fu a1 σ = some (rr, σr)) : Met l yX9_comings wsX9_comings { frames := 1, cells := 0, slots := 0, locals := 60 } (ow_Pc Z 56 20 [.ref (ow_ad Z 56), .int a1] σ) (ow_Qi Z 56 20 rr σr) 0 0 (ow_A Z 56 20) := by
  refine Met.ofW (cc := cX9_comings) (maxL := 4) (ret := (some .int)) (by decide) rfl ?_
  intro p e s m args below meth c s₁ B hml hv
  obtain ⟨hav, hB⟩ := hv
  obtain ⟨hG, hW⟩ := ow_begin hB
  have hx := B.exec
  have hb := B.bytes
  have hr := B.returns
  have hts := atoms_spec (ws := wsX9_comings) B.pre
  have hown : s.vm.findClass RX9 = some m.cls := findClass_of_methodNamed B.named
  have hlocks := B.notSynchronized
  have hinX9 : ∀ w ∈ wsX90, w ∈ wsX9_comings := by decide +kernel
  have hJ28 : ∀ (k4 : Int32 → Int32 → Int32 → ow_S → Option (Int32 × ow_S)) (hk4 : ∀ (x1 : Int32) (x2 : Int32) (x3 : Int32) (σ : ow_S) (H : Heap) (locs : List Loc) (ls : Array Slot), k4 x1 x2 x3 σ = some (rr, σr) → ow_Wd Z 56 20 σ s H locs → lv_has ls 4 [(0, .ref (ow_ad Z 56)), (1, .int x1), (2, .int x2), (3, .int x3)] → W p l e (headSpec wsX9_comings { frames := 1, cells := 0, slots := 0, locals := 60 }).room s m args below meth c H locs 0 0 (MQ below (ow_Qi Z 56 20 rr σr) args s 0 0 (ow_A Z 56 20)) (F0 m 4 ls [])), ∀ (x1 : Int32) (x3 : Int32) (s0 : Int32) (s1 : Int32) (σ : ow_S) (H : Heap) (locs : List Loc) (ls : Array Slot), L_X9_comings_28 fu k4 x1 x3 s0 s1 σ = some (rr, σr) → ow_Wd Z 56 20 σ s H locs → lv_has ls 4 [(0, .ref (ow_ad Z 56)), (1, .int x1), (3, .int x3)] → W p l e (headSpec wsX9_comings { frames := 1, cells := 0, slots := 0, locals := 60 }).room s m args below meth c H locs 0 0 (MQ below (ow_Qi Z 56 20 rr σr) args s 0 0 (ow_A Z 56 20)) (F0 m 28 ls [.int s1, .int s0]) := by
    intro k4 hk4 x1 x3 s0 s1 σ H locs ls hf hW hl
    unfold L_X9_comings_28 at hf
    refine lv_iadd hx hb dX9_comings_28 ?_
    refine ow_topi hf (fun x2_29 hf => ?_)
    refine lv_istore_n (lv' := [(2, .int x2_29), (0, .ref (ow_ad Z 56)), (1, .int x1), (3, .int x3)]) hx hb dX9_comings_29 rfl hl (by decide) rfl (fun ls hl => ?_)
    refine ow_iinc (d := 1) (lv' := fun z => [(3, .int z), (2, .int x2_29), (0, .ref (ow_ad Z 56)), (1, .int x1)]) hx hb hf dX9_comings_30 hl (k := 3) rfl (by decide) (by decide) (fun z => rfl) (fun x3_30 hf ls hl => ?_)
    refine lv_goto (tgt := 4) hx hb dX9_comings_33 (by decide) ?_
    exact hk4 x1 x2_29 x3_30 σ _ _ _ hf hW (lv_sub hl [2, 3, 1, 0] rfl)
  have hJ4 : ∀ (fn : Nat), ∀ (x1 : Int32) (x2 : Int32) (x3 : Int32) (σ : ow_S) (H : Heap) (locs : List Loc) (ls : Array Slot), L_X9_comings_4 fu fn x1 x2 x3 σ = some (rr, σr) → ow_Wd Z 56 20 σ s H locs → lv_has ls 4 [(0, .ref (ow_ad Z 56)), (1, .int x1), (2, .int x2), (3, .int x3)] → W p l e (headSpec wsX9_comings { frames := 1, cells := 0, slots := 0, locals := 60 }).room s m args below meth c H locs 0 0 (MQ below (ow_Qi Z 56 20 rr σr) args s 0 0 (ow_A Z 56 20)) (F0 m 4 ls []) := by
    intro fn
    induction fn with
    | zero => intro x1 x2 x3 σ H locs ls hf hW hl; simp [L_X9_comings_4] at hf
    | succ fn ih =>
      intro x1 x2 x3 σ H locs ls hf hW hl
      rw [L_X9_comings_4] at hf
      refine lv_iload_n hx hb dX9_comings_4 rfl (lv_at hl 3 rfl) ?_
      refine lv_aload_n hx hb dX9_comings_5 rfl (lv_at hl 0 rfl) ?_
      refine ow_getV (ci := 9) (C := RX9) (T := TX9) (N := 41) hx hb hts hown hG hW ow_i56 (by decide) rfl hinX9 2 (by decide) (fk := 0) rfl (hts (.fieldLink RX9 85 "FiftyOneCardsModel" "rowMany" "I") (by decide +kernel)) (v := .int (σ.1 56 2)) rfl dX9_comings_6 ?_
      refine lv_icmp_ge (tgt := 36) hx hb dX9_comings_9 (by decide) (fun c9 => ?_) (fun c9 => ?_)
      · replace hf := ow_if_t c9 hf
        refine lv_iload_n hx hb dX9_comings_36 rfl (lv_at hl 2 rfl) ?_
        exact ow_iret hx hb hr hW hf dX9_comings_37 hlocks
      · replace hf := ow_if_f c9 hf
        refine lv_iload_n hx hb dX9_comings_12 rfl (lv_at hl 2 rfl) ?_
        refine lv_aload_n hx hb dX9_comings_13 rfl (lv_at hl 0 rfl) ?_
        refine ow_getV (ci := 9) (C := RX9) (T := TX9) (N := 41) hx hb hts hown hG hW ow_i56 (by decide) rfl hinX9 1 (by decide) (fk := 2) rfl (hts (.fieldLink RX9 13 "FiftyOneCardsModel" "row" "[I") (by decide +kernel)) (v := .ref (ow_ad Z 57)) (ow_vR hW ow_i56.1 ow_i56.2.1 rfl) dX9_comings_14 ?_
        refine lv_iload_n hx hb dX9_comings_17 rfl (lv_at hl 3 rfl) ?_
        obtain ⟨q18, hf⟩ := ow_ck_i hf
        refine ow_ild (q := x3.toNatClampNeg) hx hb hG hW ow_i57 rfl q18 rfl dX9_comings_18 ?_
        refine lv_iload_n hx hb dX9_comings_19 rfl (lv_at hl 1 rfl) ?_
        refine lv_icmp_ne (tgt := 27) hx hb dX9_comings_20 (by decide) (fun c20 => ?_) (fun c20 => ?_)
        · replace hf := ow_if_f c20 hf
          refine lv_iconst (v := 0) hx hb dX9_comings_27 (by decide) ?_
          exact hJ28 (L_X9_comings_4 fu fn) ih x1 x3 x2 (0 : Int32) σ _ _ _ hf hW (lv_sub hl [0, 1, 3] rfl)
        · replace hf := ow_if_t c20 hf
          refine lv_iconst (v := 1) hx hb dX9_comings_23 (by decide) ?_
          refine lv_goto (tgt := 28) hx hb dX9_comings_24 (by decide) ?_
          exact hJ28 (L_X9_comings_4 fu fn) ih x1 x3 x2 (1 : Int32) σ _ _ _ hf hW (lv_sub hl [0, 1, 3] rfl)
  have hl := lv_entry ([.ref (ow_ad Z 56), .int a1]) (n := 4) (Nat.le_of_ble_eq_true rfl)
  refine W.eq (g2 := F0 m 0 ((lg_sl ([.ref (ow_ad Z 56), .int a1]) ++ List.replicate (4 - (lg_sl ([.ref (ow_ad Z 56), .int a1])).length) Slot.unset).toArray) []) (by rw [hav]; exact lg_entry_eq _ _ _) ?_
  generalize (lg_sl ([.ref (ow_ad Z 56), .int a1]) ++ List.replicate (4 - (lg_sl ([.ref (ow_ad Z 56), .int a1])).length) Slot.unset).toArray = ls at hl ⊢
  have hl : lv_has ls 4 [(0, .ref (ow_ad Z 56)), (1, .int a1)] := hl
  unfold f_X9_comings at hf
  refine lv_iconst (v := 0) hx hb dX9_comings_0 (by decide) ?_
  refine lv_istore_n (lv' := [(2, .int (0 : Int32)), (0, .ref (ow_ad Z 56)), (1, .int a1)]) hx hb dX9_comings_1 rfl hl (by decide) rfl (fun ls hl => ?_)
  refine lv_iconst (v := 0) hx hb dX9_comings_2 (by decide) ?_
  refine lv_istore_n (lv' := [(3, .int (0 : Int32)), (2, .int (0 : Int32)), (0, .ref (ow_ad Z 56)), (1, .int a1)]) hx hb dX9_comings_3 rfl hl (by decide) rfl (fun ls hl => ?_)
  exact hJ4 fu a1 (0 : Int32) (0 : Int32) σ _ _ _ hf hW (lv_sub hl [2, 3, 1, 0] rfl)
set_option maxHeartbeats 40000000 in
set_option maxRecDepth 100000 in
theorem c_X9_missing (l : Launch) (Z : ow_Z) (fu : Nat) (a1 : Int32) (σ : ow_S) (rr : Int32) (σr : ow_S) (hf : f_X9_missing fu a1 σ = some (rr, σr)) : Met l yX9_missing wsX9_missing { frames := 2, cells := 0, slots := 0, locals := 83 } (ow_Pc Z 56 20 [.ref (ow_ad Z 56), .int a1] σ) (ow_Qi Z 56 20 rr σr) 0 0 (ow_A Z 56 20) := by
  refine Met.ofW (cc := cX9_missing) (maxL := 4) (ret := (some .int)) (by decide) rfl ?_
  intro p e s m args below meth c s₁ B hml hv
  obtain ⟨hav, hB⟩ := hv
  obtain ⟨hG, hW⟩ := ow_begin hB
  have hx := B.exec
  have hb := B.bytes
  have hr := B.returns
  have hts := atoms_spec (ws := wsX9_missing) B.pre
  have hown : s.vm.findClass RX9 = some m.cls := findClass_of_methodNamed B.named
  have hlocks := B.notSynchronized
  have hinX9 : ∀ w ∈ wsX90, w ∈ wsX9_missing := by decide +kernel
  have hJ42 : ∀ (k17 : Int32 → Int32 → ow_S → Option (Int32 × ow_S)) (hk17 : ∀ (x2 : Int32) (x3 : Int32) (σ : ow_S) (H : Heap) (locs : List Loc) (ls : Array Slot), k17 x2 x3 σ = some (rr, σr) → ow_Wd Z 56 20 σ s H locs → lv_has ls 4 [(0, .ref (ow_ad Z 56)), (2, .int x2), (3, .int x3)] → W p l e (headSpec wsX9_missing { frames := 2, cells := 0, slots := 0, locals := 83 }).room s m args below meth c H locs 0 0 (MQ below (ow_Qi Z 56 20 rr σr) args s 0 0 (ow_A Z 56 20)) (F0 m 17 ls [])), ∀ (x2 : Int32) (x3 : Int32) (σ : ow_S) (H : Heap) (locs : List Loc) (ls : Array Slot), L_X9_missing_42 fu k17 x2 x3 σ = some (rr, σr) → ow_Wd Z 56 20 σ s H locs → lv_has ls 4 [(0, .ref (ow_ad Z 56)), (2, .int x2), (3, .int x3)] → W p l e (headSpec wsX9_missing { frames := 2, cells := 0, slots := 0, locals := 83 }).room s m args below meth c H locs 0 0 (MQ below (ow_Qi Z 56 20 rr σr) args s 0 0 (ow_A Z 56 20)) (F0 m 42 ls []) := by
    intro k17 hk17 x2 x3 σ H locs ls hf hW hl
    unfold L_X9_missing_42 at hf
    refine ow_iinc (d := 1) (lv' := fun z => [(3, .int z), (0, .ref (ow_ad Z 56)), (2, .int x2)]) hx hb hf dX9_missing_42 hl (k := 2) rfl (by decide) (by decide) (fun z => rfl) (fun x3_42 hf ls hl => ?_)
    refine lv_goto (tgt := 17) hx hb dX9_missing_45 (by decide) ?_
    exact hk17 x2 x3_42 σ _ _ _ hf hW (lv_sub hl [1, 2, 0] rfl)
  have hJ17 : ∀ (fn : Nat), ∀ (x2 : Int32) (x3 : Int32) (σ : ow_S) (H : Heap) (locs : List Loc) (ls : Array Slot), L_X9_missing_17 fu fn x2 x3 σ = some (rr, σr) → ow_Wd Z 56 20 σ s H locs → lv_has ls 4 [(0, .ref (ow_ad Z 56)), (2, .int x2), (3, .int x3)] → W p l e (headSpec wsX9_missing { frames := 2, cells := 0, slots := 0, locals := 83 }).room s m args below meth c H locs 0 0 (MQ below (ow_Qi Z 56 20 rr σr) args s 0 0 (ow_A Z 56 20)) (F0 m 17 ls []) := by
    intro fn
    induction fn with
    | zero => intro x2 x3 σ H locs ls hf hW hl; simp [L_X9_missing_17] at hf
    | succ fn ih =>
      intro x2 x3 σ H locs ls hf hW hl
      rw [L_X9_missing_17] at hf
      refine lv_iload_n hx hb dX9_missing_17 rfl (lv_at hl 2 rfl) ?_
      refine lv_aload_n hx hb dX9_missing_18 rfl (lv_at hl 0 rfl) ?_
      refine ow_getV (ci := 9) (C := RX9) (T := TX9) (N := 41) hx hb hts hown hG hW ow_i56 (by decide) rfl hinX9 0 (by decide) (fk := 0) rfl (hts (.fieldLink RX9 7 "FiftyOneCardsModel" "pack" "I") (by decide +kernel)) (v := .int (σ.1 56 0)) rfl dX9_missing_19 ?_
      refine lv_icmp_gt (tgt := 48) hx hb dX9_missing_22 (by decide) (fun c22 => ?_) (fun c22 => ?_)
      · replace hf := ow_if_t c22 hf
        refine lv_iconst (v := -1) hx hb dX9_missing_48 (by decide) ?_
        exact ow_iret hx hb hr hW hf dX9_missing_49 hlocks
      · replace hf := ow_if_f c22 hf
        refine lv_aload_n hx hb dX9_missing_25 rfl (lv_at hl 0 rfl) ?_
        refine lv_iload_n hx hb dX9_missing_26 rfl (lv_at hl 2 rfl) ?_
        obtain ⟨r_27, σ_27, hc27, hf⟩ := ow_cl_i hf
        refine ow_calli (va_runV (As := [.int x3]) (rest := []) ⟨hx, hb, hml, hown, hts⟩ (c_X9_comings l Z fu x3 σ r_27 σ_27 hc27) (cwV 1 hts gX9_missing_X9_comings rfl rfl rfl (by decide +kernel) ⟨Nat.le_of_ble_eq_true rfl, Nat.le_of_ble_eq_true rfl⟩) (ow_preV hG hW ow_i56 (by decide) rfl) rfl rfl hl.1 rfl (lv_room (Nat.le_of_ble_eq_true rfl)) dX9_missing_27 ⟨Nat.zero_le _, Nat.zero_le _⟩) hW (fun H locs hW => ?_)
        refine lv_if_ne (tgt := 42) hx hb dX9_missing_30 (by decide) (fun c30 => ?_) (fun c30 => ?_)
        · replace hf := ow_if_f c30 hf
          exact hJ42 (L_X9_missing_17 fu fn) ih x2 x3 σ_27 _ _ _ hf hW (lv_sub hl [0, 1, 2] rfl)
        · replace hf := ow_if_t c30 hf
          refine lv_iload_n hx hb dX9_missing_33 rfl (lv_at hl 1 rfl) ?_
          refine lv_if_ne (tgt := 39) hx hb dX9_missing_34 (by decide) (fun c34 => ?_) (fun c34 => ?_)
          · replace hf := ow_if_f c34 hf
            refine ow_iinc (d := -1) (lv' := fun z => [(2, .int z), (0, .ref (ow_ad Z 56)), (3, .int x3)]) hx hb hf dX9_missing_39 hl (k := 1) rfl (by decide) (by decide) (fun z => rfl) (fun x2_39 hf ls hl => ?_)
            exact hJ42 (L_X9_missing_17 fu fn) ih x2_39 x3 σ_27 _ _ _ hf hW (lv_sub hl [1, 0, 2] rfl)
          · replace hf := ow_if_t c34 hf
            refine lv_iload_n hx hb dX9_missing_37 rfl (lv_at hl 2 rfl) ?_
            exact ow_iret hx hb hr hW hf dX9_missing_38 hlocks
  have hl := lv_entry ([.ref (ow_ad Z 56), .int a1]) (n := 4) (Nat.le_of_ble_eq_true rfl)
  refine W.eq (g2 := F0 m 0 ((lg_sl ([.ref (ow_ad Z 56), .int a1]) ++ List.replicate (4 - (lg_sl ([.ref (ow_ad Z 56), .int a1])).length) Slot.unset).toArray) []) (by rw [hav]; exact lg_entry_eq _ _ _) ?_
  generalize (lg_sl ([.ref (ow_ad Z 56), .int a1]) ++ List.replicate (4 - (lg_sl ([.ref (ow_ad Z 56), .int a1])).length) Slot.unset).toArray = ls at hl ⊢
  have hl : lv_has ls 4 [(0, .ref (ow_ad Z 56)), (1, .int a1)] := hl
  unfold f_X9_missing at hf
  refine lv_iload_n hx hb dX9_missing_0 rfl (lv_at hl 1 rfl) ?_
  refine lv_iconst (v := 0) hx hb dX9_missing_1 (by decide) ?_
  refine lv_bipush (v := 51) hx hb dX9_missing_2 (by decide) ?_
  obtain ⟨r_4, σ_4, hc4, hf⟩ := ow_cl_i hf
  refine ow_callz (va_runS (As := [.int a1, .int (0 : Int32), .int (51 : Int32)]) (rest := []) ⟨hx, hb, hml, hown, hts⟩ (c_X9_in l Z fu a1 (0 : Int32) (51 : Int32) σ r_4 σ_4 hc4) (va_cwS 3 hts gX9_missing_X9_in rfl rfl rfl (by decide +kernel) ⟨Nat.le_of_ble_eq_true rfl, Nat.le_of_ble_eq_true rfl⟩) (ow_preS hG hW) rfl rfl hl.1 rfl (lv_room (Nat.le_of_ble_eq_true rfl)) dX9_missing_4 ⟨Nat.zero_le _, Nat.zero_le _⟩) hW (fun b4 H locs hW => ?_)
  refine lv_if_ne (tgt := 13) hx hb dX9_missing_7 (by decide) (fun c7 => ?_) (fun c7 => ?_)
  · replace hf := ow_if_f c7 hf
    refine lv_iload_n hx hb dX9_missing_13 rfl (lv_at hl 1 rfl) ?_
    refine lv_istore_n (lv' := [(2, .int a1), (0, .ref (ow_ad Z 56)), (1, .int a1)]) hx hb dX9_missing_14 rfl hl (by decide) rfl (fun ls hl => ?_)
    refine lv_iconst (v := 1) hx hb dX9_missing_15 (by decide) ?_
    refine lv_istore_n (lv' := [(3, .int (1 : Int32)), (2, .int a1), (0, .ref (ow_ad Z 56)), (1, .int a1)]) hx hb dX9_missing_16 rfl hl (by decide) rfl (fun ls hl => ?_)
    exact hJ17 fu a1 (1 : Int32) σ_4 _ _ _ hf hW (lv_sub hl [2, 1, 0] rfl)
  · replace hf := ow_if_t c7 hf
    refine lv_bipush (v := -2) hx hb dX9_missing_10 (by decide) ?_
    exact ow_iret hx hb hr hW hf dX9_missing_12 hlocks
set_option maxHeartbeats 40000000 in
set_option maxRecDepth 100000 in
theorem c_X9_unlikeMany (l : Launch) (Z : ow_Z) (fu : Nat) (σ : ow_S) (rr : Int32) (σr : ow_S) (hf : f_X9_unlikeMany fu σ = some (rr, σr)) : Met l yX9_unlikeMany wsX9_unlikeMany { frames := 2, cells := 0, slots := 0, locals := 83 } (ow_Pc Z 56 20 [.ref (ow_ad Z 56)] σ) (ow_Qi Z 56 20 rr σr) 0 0 (ow_A Z 56 20) := by
  refine Met.ofW (cc := cX9_unlikeMany) (maxL := 3) (ret := (some .int)) (by decide) rfl ?_
  intro p e s m args below meth c s₁ B hml hv
  obtain ⟨hav, hB⟩ := hv
  obtain ⟨hG, hW⟩ := ow_begin hB
  have hx := B.exec
  have hb := B.bytes
  have hr := B.returns
  have hts := atoms_spec (ws := wsX9_unlikeMany) B.pre
  have hown : s.vm.findClass RX9 = some m.cls := findClass_of_methodNamed B.named
  have hlocks := B.notSynchronized
  have hinX9 : ∀ w ∈ wsX90, w ∈ wsX9_unlikeMany := by decide +kernel
  have hJ26 : ∀ (k4 : Int32 → Int32 → ow_S → Option (Int32 × ow_S)) (hk4 : ∀ (x1 : Int32) (x2 : Int32) (σ : ow_S) (H : Heap) (locs : List Loc) (ls : Array Slot), k4 x1 x2 σ = some (rr, σr) → ow_Wd Z 56 20 σ s H locs → lv_has ls 3 [(0, .ref (ow_ad Z 56)), (1, .int x1), (2, .int x2)] → W p l e (headSpec wsX9_unlikeMany { frames := 2, cells := 0, slots := 0, locals := 83 }).room s m args below meth c H locs 0 0 (MQ below (ow_Qi Z 56 20 rr σr) args s 0 0 (ow_A Z 56 20)) (F0 m 4 ls [])), ∀ (x2 : Int32) (s0 : Int32) (s1 : Int32) (σ : ow_S) (H : Heap) (locs : List Loc) (ls : Array Slot), L_X9_unlikeMany_26 fu k4 x2 s0 s1 σ = some (rr, σr) → ow_Wd Z 56 20 σ s H locs → lv_has ls 3 [(0, .ref (ow_ad Z 56)), (2, .int x2)] → W p l e (headSpec wsX9_unlikeMany { frames := 2, cells := 0, slots := 0, locals := 83 }).room s m args below meth c H locs 0 0 (MQ below (ow_Qi Z 56 20 rr σr) args s 0 0 (ow_A Z 56 20)) (F0 m 26 ls [.int s1, .int s0]) := by
    intro k4 hk4 x2 s0 s1 σ H locs ls hf hW hl
    unfold L_X9_unlikeMany_26 at hf
    refine lv_iadd hx hb dX9_unlikeMany_26 ?_
    refine ow_topi hf (fun x1_27 hf => ?_)
    refine lv_istore_n (lv' := [(1, .int x1_27), (0, .ref (ow_ad Z 56)), (2, .int x2)]) hx hb dX9_unlikeMany_27 rfl hl (by decide) rfl (fun ls hl => ?_)
    refine ow_iinc (d := 1) (lv' := fun z => [(2, .int z), (1, .int x1_27), (0, .ref (ow_ad Z 56))]) hx hb hf dX9_unlikeMany_28 hl (k := 2) rfl (by decide) (by decide) (fun z => rfl) (fun x2_28 hf ls hl => ?_)
    refine lv_goto (tgt := 4) hx hb dX9_unlikeMany_31 (by decide) ?_
    exact hk4 x1_27 x2_28 σ _ _ _ hf hW (lv_sub hl [2, 1, 0] rfl)
  have hJ4 : ∀ (fn : Nat), ∀ (x1 : Int32) (x2 : Int32) (σ : ow_S) (H : Heap) (locs : List Loc) (ls : Array Slot), L_X9_unlikeMany_4 fu fn x1 x2 σ = some (rr, σr) → ow_Wd Z 56 20 σ s H locs → lv_has ls 3 [(0, .ref (ow_ad Z 56)), (1, .int x1), (2, .int x2)] → W p l e (headSpec wsX9_unlikeMany { frames := 2, cells := 0, slots := 0, locals := 83 }).room s m args below meth c H locs 0 0 (MQ below (ow_Qi Z 56 20 rr σr) args s 0 0 (ow_A Z 56 20)) (F0 m 4 ls []) := by
    intro fn
    induction fn with
    | zero => intro x1 x2 σ H locs ls hf hW hl; simp [L_X9_unlikeMany_4] at hf
    | succ fn ih =>
      intro x1 x2 σ H locs ls hf hW hl
      rw [L_X9_unlikeMany_4] at hf
      refine lv_iload_n hx hb dX9_unlikeMany_4 rfl (lv_at hl 2 rfl) ?_
      refine lv_aload_n hx hb dX9_unlikeMany_5 rfl (lv_at hl 0 rfl) ?_
      refine ow_getV (ci := 9) (C := RX9) (T := TX9) (N := 41) hx hb hts hown hG hW ow_i56 (by decide) rfl hinX9 0 (by decide) (fk := 0) rfl (hts (.fieldLink RX9 7 "FiftyOneCardsModel" "pack" "I") (by decide +kernel)) (v := .int (σ.1 56 0)) rfl dX9_unlikeMany_6 ?_
      refine lv_icmp_gt (tgt := 34) hx hb dX9_unlikeMany_9 (by decide) (fun c9 => ?_) (fun c9 => ?_)
      · replace hf := ow_if_t c9 hf
        refine lv_iload_n hx hb dX9_unlikeMany_34 rfl (lv_at hl 1 rfl) ?_
        exact ow_iret hx hb hr hW hf dX9_unlikeMany_35 hlocks
      · replace hf := ow_if_f c9 hf
        refine lv_iload_n hx hb dX9_unlikeMany_12 rfl (lv_at hl 1 rfl) ?_
        refine lv_aload_n hx hb dX9_unlikeMany_13 rfl (lv_at hl 0 rfl) ?_
        refine lv_iload_n hx hb dX9_unlikeMany_14 rfl (lv_at hl 2 rfl) ?_
        obtain ⟨r_15, σ_15, hc15, hf⟩ := ow_cl_i hf
        refine ow_calli (va_runV (As := [.int x2]) (rest := [.int x1]) ⟨hx, hb, hml, hown, hts⟩ (c_X9_comings l Z fu x2 σ r_15 σ_15 hc15) (cwV 1 hts gX9_unlikeMany_X9_comings rfl rfl rfl (by decide +kernel) ⟨Nat.le_of_ble_eq_true rfl, Nat.le_of_ble_eq_true rfl⟩) (ow_preV hG hW ow_i56 (by decide) rfl) rfl rfl hl.1 rfl (lv_room (Nat.le_of_ble_eq_true rfl)) dX9_unlikeMany_15 ⟨Nat.zero_le _, Nat.zero_le _⟩) hW (fun H locs hW => ?_)
        refine lv_if_le (tgt := 25) hx hb dX9_unlikeMany_18 (by decide) (fun c18 => ?_) (fun c18 => ?_)
        · replace hf := ow_if_t c18 hf
          refine lv_iconst (v := 0) hx hb dX9_unlikeMany_25 (by decide) ?_
          exact hJ26 (L_X9_unlikeMany_4 fu fn) ih x2 x1 (0 : Int32) σ_15 _ _ _ hf hW (lv_sub hl [0, 2] rfl)
        · replace hf := ow_if_f c18 hf
          refine lv_iconst (v := 1) hx hb dX9_unlikeMany_21 (by decide) ?_
          refine lv_goto (tgt := 26) hx hb dX9_unlikeMany_22 (by decide) ?_
          exact hJ26 (L_X9_unlikeMany_4 fu fn) ih x2 x1 (1 : Int32) σ_15 _ _ _ hf hW (lv_sub hl [0, 2] rfl)
  have hl := lv_entry ([.ref (ow_ad Z 56)]) (n := 3) (Nat.le_of_ble_eq_true rfl)
  refine W.eq (g2 := F0 m 0 ((lg_sl ([.ref (ow_ad Z 56)]) ++ List.replicate (3 - (lg_sl ([.ref (ow_ad Z 56)])).length) Slot.unset).toArray) []) (by rw [hav]; exact lg_entry_eq _ _ _) ?_
  generalize (lg_sl ([.ref (ow_ad Z 56)]) ++ List.replicate (3 - (lg_sl ([.ref (ow_ad Z 56)])).length) Slot.unset).toArray = ls at hl ⊢
  have hl : lv_has ls 3 [(0, .ref (ow_ad Z 56))] := hl
  unfold f_X9_unlikeMany at hf
  refine lv_iconst (v := 0) hx hb dX9_unlikeMany_0 (by decide) ?_
  refine lv_istore_n (lv' := [(1, .int (0 : Int32)), (0, .ref (ow_ad Z 56))]) hx hb dX9_unlikeMany_1 rfl hl (by decide) rfl (fun ls hl => ?_)
  refine lv_iconst (v := 1) hx hb dX9_unlikeMany_2 (by decide) ?_
  refine lv_istore_n (lv' := [(2, .int (1 : Int32)), (1, .int (0 : Int32)), (0, .ref (ow_ad Z 56))]) hx hb dX9_unlikeMany_3 rfl hl (by decide) rfl (fun ls hl => ?_)
  exact hJ4 fu (0 : Int32) (1 : Int32) σ _ _ _ hf hW (lv_sub hl [2, 1, 0] rfl)
set_option maxHeartbeats 40000000 in
set_option maxRecDepth 100000 in
theorem c_X9_mostComing (l : Launch) (Z : ow_Z) (fu : Nat) (σ : ow_S) (rr : Int32) (σr : ow_S) (hf : f_X9_mostComing fu σ = some (rr, σr)) : Met l yX9_mostComing wsX9_mostComing { frames := 2, cells := 0, slots := 0, locals := 83 } (ow_Pc Z 56 20 [.ref (ow_ad Z 56)] σ) (ow_Qi Z 56 20 rr σr) 0 0 (ow_A Z 56 20) := by
  refine Met.ofW (cc := cX9_mostComing) (maxL := 5) (ret := (some .int)) (by decide) rfl ?_
  intro p e s m args below meth c s₁ B hml hv
  obtain ⟨hav, hB⟩ := hv
  obtain ⟨hG, hW⟩ := ow_begin hB
  have hx := B.exec
  have hb := B.bytes
  have hr := B.returns
  have hts := atoms_spec (ws := wsX9_mostComing) B.pre
  have hown : s.vm.findClass RX9 = some m.cls := findClass_of_methodNamed B.named
  have hlocks := B.notSynchronized
  have hinX9 : ∀ w ∈ wsX90, w ∈ wsX9_mostComing := by decide +kernel
  have hJ45 : ∀ (k6 : Int32 → Int32 → Int32 → ow_S → Option (Int32 × ow_S)) (hk6 : ∀ (x1 : Int32) (x2 : Int32) (x3 : Int32) (σ : ow_S) (H : Heap) (locs : List Loc) (ls : Array Slot), k6 x1 x2 x3 σ = some (rr, σr) → ow_Wd Z 56 20 σ s H locs → lv_has ls 5 [(0, .ref (ow_ad Z 56)), (1, .int x1), (2, .int x2), (3, .int x3)] → W p l e (headSpec wsX9_mostComing { frames := 2, cells := 0, slots := 0, locals := 83 }).room s m args below meth c H locs 0 0 (MQ below (ow_Qi Z 56 20 rr σr) args s 0 0 (ow_A Z 56 20)) (F0 m 6 ls [])), ∀ (x1 : Int32) (x3 : Int32) (s0 : Int32) (σ : ow_S) (H : Heap) (locs : List Loc) (ls : Array Slot), L_X9_mostComing_45 fu k6 x1 x3 s0 σ = some (rr, σr) → ow_Wd Z 56 20 σ s H locs → lv_has ls 5 [(0, .ref (ow_ad Z 56)), (1, .int x1), (3, .int x3)] → W p l e (headSpec wsX9_mostComing { frames := 2, cells := 0, slots := 0, locals := 83 }).room s m args below meth c H locs 0 0 (MQ below (ow_Qi Z 56 20 rr σr) args s 0 0 (ow_A Z 56 20)) (F0 m 45 ls [.int s0]) := by
    intro k6 hk6 x1 x3 s0 σ H locs ls hf hW hl
    unfold L_X9_mostComing_45 at hf
    refine lv_istore_n (lv' := [(2, .int s0), (0, .ref (ow_ad Z 56)), (1, .int x1), (3, .int x3)]) hx hb dX9_mostComing_45 rfl hl (by decide) rfl (fun ls hl => ?_)
    refine ow_iinc (d := 1) (lv' := fun z => [(3, .int z), (2, .int s0), (0, .ref (ow_ad Z 56)), (1, .int x1)]) hx hb hf dX9_mostComing_46 hl (k := 3) rfl (by decide) (by decide) (fun z => rfl) (fun x3_46 hf ls hl => ?_)
    refine lv_goto (tgt := 6) hx hb dX9_mostComing_49 (by decide) ?_
    exact hk6 x1 s0 x3_46 σ _ _ _ hf hW (lv_sub hl [2, 3, 1, 0] rfl)
  have hJ32 : ∀ (k6 : Int32 → Int32 → Int32 → ow_S → Option (Int32 × ow_S)) (hk6 : ∀ (x1 : Int32) (x2 : Int32) (x3 : Int32) (σ : ow_S) (H : Heap) (locs : List Loc) (ls : Array Slot), k6 x1 x2 x3 σ = some (rr, σr) → ow_Wd Z 56 20 σ s H locs → lv_has ls 5 [(0, .ref (ow_ad Z 56)), (1, .int x1), (2, .int x2), (3, .int x3)] → W p l e (headSpec wsX9_mostComing { frames := 2, cells := 0, slots := 0, locals := 83 }).room s m args below meth c H locs 0 0 (MQ below (ow_Qi Z 56 20 rr σr) args s 0 0 (ow_A Z 56 20)) (F0 m 6 ls [])), ∀ (x2 : Int32) (x3 : Int32) (x4 : Int32) (s0 : Int32) (σ : ow_S) (H : Heap) (locs : List Loc) (ls : Array Slot), L_X9_mostComing_32 fu k6 x2 x3 x4 s0 σ = some (rr, σr) → ow_Wd Z 56 20 σ s H locs → lv_has ls 5 [(0, .ref (ow_ad Z 56)), (2, .int x2), (3, .int x3), (4, .int x4)] → W p l e (headSpec wsX9_mostComing { frames := 2, cells := 0, slots := 0, locals := 83 }).room s m args below meth c H locs 0 0 (MQ below (ow_Qi Z 56 20 rr σr) args s 0 0 (ow_A Z 56 20)) (F0 m 32 ls [.int s0]) := by
    intro k6 hk6 x2 x3 x4 s0 σ H locs ls hf hW hl
    unfold L_X9_mostComing_32 at hf
    refine lv_istore_n (lv' := [(1, .int s0), (0, .ref (ow_ad Z 56)), (2, .int x2), (3, .int x3), (4, .int x4)]) hx hb dX9_mostComing_32 rfl hl (by decide) rfl (fun ls hl => ?_)
    refine lv_iload hx hb dX9_mostComing_33 (lv_at hl 4 rfl) ?_
    refine lv_iload_n hx hb dX9_mostComing_35 rfl (lv_at hl 2 rfl) ?_
    refine lv_icmp_le (tgt := 44) hx hb dX9_mostComing_36 (by decide) (fun c36 => ?_) (fun c36 => ?_)
    · replace hf := ow_if_t c36 hf
      refine lv_iload_n hx hb dX9_mostComing_44 rfl (lv_at hl 2 rfl) ?_
      exact hJ45 k6 hk6 s0 x3 x2 σ _ _ _ hf hW (lv_sub hl [1, 0, 3] rfl)
    · replace hf := ow_if_f c36 hf
      refine lv_iload hx hb dX9_mostComing_39 (lv_at hl 4 rfl) ?_
      refine lv_goto (tgt := 45) hx hb dX9_mostComing_41 (by decide) ?_
      exact hJ45 k6 hk6 s0 x3 x4 σ _ _ _ hf hW (lv_sub hl [1, 0, 3] rfl)
  have hJ6 : ∀ (fn : Nat), ∀ (x1 : Int32) (x2 : Int32) (x3 : Int32) (σ : ow_S) (H : Heap) (locs : List Loc) (ls : Array Slot), L_X9_mostComing_6 fu fn x1 x2 x3 σ = some (rr, σr) → ow_Wd Z 56 20 σ s H locs → lv_has ls 5 [(0, .ref (ow_ad Z 56)), (1, .int x1), (2, .int x2), (3, .int x3)] → W p l e (headSpec wsX9_mostComing { frames := 2, cells := 0, slots := 0, locals := 83 }).room s m args below meth c H locs 0 0 (MQ below (ow_Qi Z 56 20 rr σr) args s 0 0 (ow_A Z 56 20)) (F0 m 6 ls []) := by
    intro fn
    induction fn with
    | zero => intro x1 x2 x3 σ H locs ls hf hW hl; simp [L_X9_mostComing_6] at hf
    | succ fn ih =>
      intro x1 x2 x3 σ H locs ls hf hW hl
      rw [L_X9_mostComing_6] at hf
      refine lv_iload_n hx hb dX9_mostComing_6 rfl (lv_at hl 3 rfl) ?_
      refine lv_aload_n hx hb dX9_mostComing_7 rfl (lv_at hl 0 rfl) ?_
      refine ow_getV (ci := 9) (C := RX9) (T := TX9) (N := 41) hx hb hts hown hG hW ow_i56 (by decide) rfl hinX9 0 (by decide) (fk := 0) rfl (hts (.fieldLink RX9 7 "FiftyOneCardsModel" "pack" "I") (by decide +kernel)) (v := .int (σ.1 56 0)) rfl dX9_mostComing_8 ?_
      refine lv_icmp_gt (tgt := 52) hx hb dX9_mostComing_11 (by decide) (fun c11 => ?_) (fun c11 => ?_)
      · replace hf := ow_if_t c11 hf
        refine lv_iload_n hx hb dX9_mostComing_52 rfl (lv_at hl 1 rfl) ?_
        exact ow_iret hx hb hr hW hf dX9_mostComing_53 hlocks
      · replace hf := ow_if_f c11 hf
        refine lv_aload_n hx hb dX9_mostComing_14 rfl (lv_at hl 0 rfl) ?_
        refine lv_iload_n hx hb dX9_mostComing_15 rfl (lv_at hl 3 rfl) ?_
        obtain ⟨r_16, σ_16, hc16, hf⟩ := ow_cl_i hf
        refine ow_calli (va_runV (As := [.int x3]) (rest := []) ⟨hx, hb, hml, hown, hts⟩ (c_X9_comings l Z fu x3 σ r_16 σ_16 hc16) (cwV 1 hts gX9_mostComing_X9_comings rfl rfl rfl (by decide +kernel) ⟨Nat.le_of_ble_eq_true rfl, Nat.le_of_ble_eq_true rfl⟩) (ow_preV hG hW ow_i56 (by decide) rfl) rfl rfl hl.1 rfl (lv_room (Nat.le_of_ble_eq_true rfl)) dX9_mostComing_16 ⟨Nat.zero_le _, Nat.zero_le _⟩) hW (fun H locs hW => ?_)
        refine lv_istore (lv' := [(4, .int r_16), (0, .ref (ow_ad Z 56)), (1, .int x1), (2, .int x2), (3, .int x3)]) hx hb dX9_mostComing_19 hl (by decide) rfl (fun ls hl => ?_)
        refine lv_iload hx hb dX9_mostComing_21 (lv_at hl 0 rfl) ?_
        refine lv_iload_n hx hb dX9_mostComing_23 rfl (lv_at hl 3 rfl) ?_
        refine lv_icmp_le (tgt := 31) hx hb dX9_mostComing_24 (by decide) (fun c24 => ?_) (fun c24 => ?_)
        · replace hf := ow_if_t c24 hf
          refine lv_iload_n hx hb dX9_mostComing_31 rfl (lv_at hl 2 rfl) ?_
          exact hJ32 (L_X9_mostComing_6 fu fn) ih x2 x3 r_16 x1 σ_16 _ _ _ hf hW (lv_sub hl [1, 3, 4, 0] rfl)
        · replace hf := ow_if_f c24 hf
          refine lv_iload_n hx hb dX9_mostComing_27 rfl (lv_at hl 4 rfl) ?_
          refine lv_goto (tgt := 32) hx hb dX9_mostComing_28 (by decide) ?_
          exact hJ32 (L_X9_mostComing_6 fu fn) ih x2 x3 r_16 x3 σ_16 _ _ _ hf hW (lv_sub hl [1, 3, 4, 0] rfl)
  have hl := lv_entry ([.ref (ow_ad Z 56)]) (n := 5) (Nat.le_of_ble_eq_true rfl)
  refine W.eq (g2 := F0 m 0 ((lg_sl ([.ref (ow_ad Z 56)]) ++ List.replicate (5 - (lg_sl ([.ref (ow_ad Z 56)])).length) Slot.unset).toArray) []) (by rw [hav]; exact lg_entry_eq _ _ _) ?_
  generalize (lg_sl ([.ref (ow_ad Z 56)]) ++ List.replicate (5 - (lg_sl ([.ref (ow_ad Z 56)])).length) Slot.unset).toArray = ls at hl ⊢
  have hl : lv_has ls 5 [(0, .ref (ow_ad Z 56))] := hl
  unfold f_X9_mostComing at hf
  refine lv_iconst (v := -1) hx hb dX9_mostComing_0 (by decide) ?_
  refine lv_istore_n (lv' := [(1, .int (-1 : Int32)), (0, .ref (ow_ad Z 56))]) hx hb dX9_mostComing_1 rfl hl (by decide) rfl (fun ls hl => ?_)
  refine lv_iconst (v := 0) hx hb dX9_mostComing_2 (by decide) ?_
  refine lv_istore_n (lv' := [(2, .int (0 : Int32)), (1, .int (-1 : Int32)), (0, .ref (ow_ad Z 56))]) hx hb dX9_mostComing_3 rfl hl (by decide) rfl (fun ls hl => ?_)
  refine lv_iconst (v := 1) hx hb dX9_mostComing_4 (by decide) ?_
  refine lv_istore_n (lv' := [(3, .int (1 : Int32)), (2, .int (0 : Int32)), (1, .int (-1 : Int32)), (0, .ref (ow_ad Z 56))]) hx hb dX9_mostComing_5 rfl hl (by decide) rfl (fun ls hl => ?_)
  exact hJ6 fu (-1 : Int32) (0 : Int32) (1 : Int32) σ _ _ _ hf hW (lv_sub hl [3, 2, 1, 0] rfl)
set_option maxHeartbeats 40000000 in
set_option maxRecDepth 100000 in
theorem c_X9_firstAgain (l : Launch) (Z : ow_Z) (fu : Nat) (σ : ow_S) (rr : Int32) (σr : ow_S) (hf : f_X9_firstAgain fu σ = some (rr, σr)) : Met l yX9_firstAgain wsX9_firstAgain { frames := 1, cells := 0, slots := 0, locals := 60 } (ow_Pc Z 56 20 [.ref (ow_ad Z 56)] σ) (ow_Qi Z 56 20 rr σr) 0 0 (ow_A Z 56 20) := by
  refine Met.ofW (cc := cX9_firstAgain) (maxL := 3) (ret := (some .int)) (by decide) rfl ?_
  intro p e s m args below meth c s₁ B hml hv
  obtain ⟨hav, hB⟩ := hv
  obtain ⟨hG, hW⟩ := ow_begin hB
  have hx := B.exec
  have hb := B.bytes
  have hr := B.returns
  have hts := atoms_spec (ws := wsX9_firstAgain) B.pre
  have hown : s.vm.findClass RX9 = some m.cls := findClass_of_methodNamed B.named
  have hlocks := B.notSynchronized
  have hinX9 : ∀ w ∈ wsX90, w ∈ wsX9_firstAgain := by decide +kernel
  have hJ12 : ∀ (k2 : Int32 → ow_S → Option (Int32 × ow_S)) (hk2 : ∀ (x1 : Int32) (σ : ow_S) (H : Heap) (locs : List Loc) (ls : Array Slot), k2 x1 σ = some (rr, σr) → ow_Wd Z 56 20 σ s H locs → lv_has ls 3 [(0, .ref (ow_ad Z 56)), (1, .int x1)] → W p l e (headSpec wsX9_firstAgain { frames := 1, cells := 0, slots := 0, locals := 60 }).room s m args below meth c H locs 0 0 (MQ below (ow_Qi Z 56 20 rr σr) args s 0 0 (ow_A Z 56 20)) (F0 m 2 ls [])), ∀ (fn : Nat), ∀ (x1 : Int32) (x2 : Int32) (σ : ow_S) (H : Heap) (locs : List Loc) (ls : Array Slot), L_X9_firstAgain_12 fu k2 fn x1 x2 σ = some (rr, σr) → ow_Wd Z 56 20 σ s H locs → lv_has ls 3 [(0, .ref (ow_ad Z 56)), (1, .int x1), (2, .int x2)] → W p l e (headSpec wsX9_firstAgain { frames := 1, cells := 0, slots := 0, locals := 60 }).room s m args below meth c H locs 0 0 (MQ below (ow_Qi Z 56 20 rr σr) args s 0 0 (ow_A Z 56 20)) (F0 m 12 ls []) := by
    intro k2 hk2 fn
    induction fn with
    | zero => intro x1 x2 σ H locs ls hf hW hl; simp [L_X9_firstAgain_12] at hf
    | succ fn ih =>
      intro x1 x2 σ H locs ls hf hW hl
      rw [L_X9_firstAgain_12] at hf
      refine lv_iload_n hx hb dX9_firstAgain_12 rfl (lv_at hl 2 rfl) ?_
      refine lv_iload_n hx hb dX9_firstAgain_13 rfl (lv_at hl 1 rfl) ?_
      refine lv_icmp_ge (tgt := 45) hx hb dX9_firstAgain_14 (by decide) (fun c14 => ?_) (fun c14 => ?_)
      · replace hf := ow_if_t c14 hf
        refine ow_iinc (d := 1) (lv' := fun z => [(1, .int z), (0, .ref (ow_ad Z 56)), (2, .int x2)]) hx hb hf dX9_firstAgain_45 hl (k := 1) rfl (by decide) (by decide) (fun z => rfl) (fun x1_45 hf ls hl => ?_)
        refine lv_goto (tgt := 2) hx hb dX9_firstAgain_48 (by decide) ?_
        exact hk2 x1_45 σ _ _ _ hf hW (lv_sub hl [1, 0] rfl)
      · replace hf := ow_if_f c14 hf
        refine lv_aload_n hx hb dX9_firstAgain_17 rfl (lv_at hl 0 rfl) ?_
        refine ow_getV (ci := 9) (C := RX9) (T := TX9) (N := 41) hx hb hts hown hG hW ow_i56 (by decide) rfl hinX9 1 (by decide) (fk := 2) rfl (hts (.fieldLink RX9 13 "FiftyOneCardsModel" "row" "[I") (by decide +kernel)) (v := .ref (ow_ad Z 57)) (ow_vR hW ow_i56.1 ow_i56.2.1 rfl) dX9_firstAgain_18 ?_
        refine lv_iload_n hx hb dX9_firstAgain_21 rfl (lv_at hl 2 rfl) ?_
        obtain ⟨q22, hf⟩ := ow_ck_i hf
        refine ow_ild (q := x2.toNatClampNeg) hx hb hG hW ow_i57 rfl q22 rfl dX9_firstAgain_22 ?_
        refine lv_aload_n hx hb dX9_firstAgain_23 rfl (lv_at hl 0 rfl) ?_
        refine ow_getV (ci := 9) (C := RX9) (T := TX9) (N := 41) hx hb hts hown hG hW ow_i56 (by decide) rfl hinX9 1 (by decide) (fk := 2) rfl (hts (.fieldLink RX9 13 "FiftyOneCardsModel" "row" "[I") (by decide +kernel)) (v := .ref (ow_ad Z 57)) (ow_vR hW ow_i56.1 ow_i56.2.1 rfl) dX9_firstAgain_24 ?_
        refine lv_iload_n hx hb dX9_firstAgain_27 rfl (lv_at hl 1 rfl) ?_
        obtain ⟨q28, hf⟩ := ow_ck_i hf
        refine ow_ild (q := x1.toNatClampNeg) hx hb hG hW ow_i57 rfl q28 rfl dX9_firstAgain_28 ?_
        refine lv_icmp_ne (tgt := 39) hx hb dX9_firstAgain_29 (by decide) (fun c29 => ?_) (fun c29 => ?_)
        · replace hf := ow_if_f c29 hf
          refine ow_iinc (d := 1) (lv' := fun z => [(2, .int z), (0, .ref (ow_ad Z 56)), (1, .int x1)]) hx hb hf dX9_firstAgain_39 hl (k := 2) rfl (by decide) (by decide) (fun z => rfl) (fun x2_39 hf ls hl => ?_)
          refine lv_goto (tgt := 12) hx hb dX9_firstAgain_42 (by decide) ?_
          exact ih x1 x2_39 σ _ _ _ hf hW (lv_sub hl [1, 2, 0] rfl)
        · replace hf := ow_if_t c29 hf
          refine lv_aload_n hx hb dX9_firstAgain_32 rfl (lv_at hl 0 rfl) ?_
          refine ow_getV (ci := 9) (C := RX9) (T := TX9) (N := 41) hx hb hts hown hG hW ow_i56 (by decide) rfl hinX9 1 (by decide) (fk := 2) rfl (hts (.fieldLink RX9 13 "FiftyOneCardsModel" "row" "[I") (by decide +kernel)) (v := .ref (ow_ad Z 57)) (ow_vR hW ow_i56.1 ow_i56.2.1 rfl) dX9_firstAgain_33 ?_
          refine lv_iload_n hx hb dX9_firstAgain_36 rfl (lv_at hl 1 rfl) ?_
          obtain ⟨q37, hf⟩ := ow_ck_i hf
          refine ow_ild (q := x1.toNatClampNeg) hx hb hG hW ow_i57 rfl q37 rfl dX9_firstAgain_37 ?_
          exact ow_iret hx hb hr hW hf dX9_firstAgain_38 hlocks
  have hJ2 : ∀ (fn : Nat), ∀ (x1 : Int32) (σ : ow_S) (H : Heap) (locs : List Loc) (ls : Array Slot), L_X9_firstAgain_2 fu fn x1 σ = some (rr, σr) → ow_Wd Z 56 20 σ s H locs → lv_has ls 3 [(0, .ref (ow_ad Z 56)), (1, .int x1)] → W p l e (headSpec wsX9_firstAgain { frames := 1, cells := 0, slots := 0, locals := 60 }).room s m args below meth c H locs 0 0 (MQ below (ow_Qi Z 56 20 rr σr) args s 0 0 (ow_A Z 56 20)) (F0 m 2 ls []) := by
    intro fn
    induction fn with
    | zero => intro x1 σ H locs ls hf hW hl; simp [L_X9_firstAgain_2] at hf
    | succ fn ih =>
      intro x1 σ H locs ls hf hW hl
      rw [L_X9_firstAgain_2] at hf
      refine lv_iload_n hx hb dX9_firstAgain_2 rfl (lv_at hl 1 rfl) ?_
      refine lv_aload_n hx hb dX9_firstAgain_3 rfl (lv_at hl 0 rfl) ?_
      refine ow_getV (ci := 9) (C := RX9) (T := TX9) (N := 41) hx hb hts hown hG hW ow_i56 (by decide) rfl hinX9 2 (by decide) (fk := 0) rfl (hts (.fieldLink RX9 85 "FiftyOneCardsModel" "rowMany" "I") (by decide +kernel)) (v := .int (σ.1 56 2)) rfl dX9_firstAgain_4 ?_
      refine lv_icmp_ge (tgt := 51) hx hb dX9_firstAgain_7 (by decide) (fun c7 => ?_) (fun c7 => ?_)
      · replace hf := ow_if_t c7 hf
        refine lv_iconst (v := -1) hx hb dX9_firstAgain_51 (by decide) ?_
        exact ow_iret hx hb hr hW hf dX9_firstAgain_52 hlocks
      · replace hf := ow_if_f c7 hf
        refine lv_iconst (v := 0) hx hb dX9_firstAgain_10 (by decide) ?_
        refine lv_istore_n (lv' := [(2, .int (0 : Int32)), (0, .ref (ow_ad Z 56)), (1, .int x1)]) hx hb dX9_firstAgain_11 rfl hl (by decide) rfl (fun ls hl => ?_)
        exact hJ12 (L_X9_firstAgain_2 fu fn) ih fu x1 (0 : Int32) σ _ _ _ hf hW (lv_sub hl [1, 2, 0] rfl)
  have hl := lv_entry ([.ref (ow_ad Z 56)]) (n := 3) (Nat.le_of_ble_eq_true rfl)
  refine W.eq (g2 := F0 m 0 ((lg_sl ([.ref (ow_ad Z 56)]) ++ List.replicate (3 - (lg_sl ([.ref (ow_ad Z 56)])).length) Slot.unset).toArray) []) (by rw [hav]; exact lg_entry_eq _ _ _) ?_
  generalize (lg_sl ([.ref (ow_ad Z 56)]) ++ List.replicate (3 - (lg_sl ([.ref (ow_ad Z 56)])).length) Slot.unset).toArray = ls at hl ⊢
  have hl : lv_has ls 3 [(0, .ref (ow_ad Z 56))] := hl
  unfold f_X9_firstAgain at hf
  refine lv_iconst (v := 0) hx hb dX9_firstAgain_0 (by decide) ?_
  refine lv_istore_n (lv' := [(1, .int (0 : Int32)), (0, .ref (ow_ad Z 56))]) hx hb dX9_firstAgain_1 rfl hl (by decide) rfl (fun ls hl => ?_)
  exact hJ2 fu (0 : Int32) σ _ _ _ hf hW (lv_sub hl [1, 0] rfl)
set_option maxHeartbeats 40000000 in
set_option maxRecDepth 100000 in
theorem c_X9_sumOf (l : Launch) (Z : ow_Z) (fu : Nat) (a1 : Int32) (σ : ow_S) (rr : Int32) (σr : ow_S) (hf : f_X9_sumOf fu a1 σ = some (rr, σr)) : Met l yX9_sumOf wsX9_sumOf { frames := 1, cells := 0, slots := 0, locals := 60 } (ow_Pc Z 56 20 [.ref (ow_ad Z 56), .int a1] σ) (ow_Qi Z 56 20 rr σr) 0 0 (ow_A Z 56 20) := by
  refine Met.ofW (cc := cX9_sumOf) (maxL := 4) (ret := (some .int)) (by decide) rfl ?_
  intro p e s m args below meth c s₁ B hml hv
  obtain ⟨hav, hB⟩ := hv
  obtain ⟨hG, hW⟩ := ow_begin hB
  have hx := B.exec
  have hb := B.bytes
  have hr := B.returns
  have hts := atoms_spec (ws := wsX9_sumOf) B.pre
  have hown : s.vm.findClass RX9 = some m.cls := findClass_of_methodNamed B.named
  have hlocks := B.notSynchronized
  have hinX9 : ∀ w ∈ wsX90, w ∈ wsX9_sumOf := by decide +kernel
  have hJ39 : ∀ (k4 : Int32 → Int32 → Int32 → ow_S → Option (Int32 × ow_S)) (hk4 : ∀ (x1 : Int32) (x2 : Int32) (x3 : Int32) (σ : ow_S) (H : Heap) (locs : List Loc) (ls : Array Slot), k4 x1 x2 x3 σ = some (rr, σr) → ow_Wd Z 56 20 σ s H locs → lv_has ls 4 [(0, .ref (ow_ad Z 56)), (1, .int x1), (2, .int x2), (3, .int x3)] → W p l e (headSpec wsX9_sumOf { frames := 1, cells := 0, slots := 0, locals := 60 }).room s m args below meth c H locs 0 0 (MQ below (ow_Qi Z 56 20 rr σr) args s 0 0 (ow_A Z 56 20)) (F0 m 4 ls [])), ∀ (x1 : Int32) (x3 : Int32) (s0 : Int32) (s1 : Int32) (σ : ow_S) (H : Heap) (locs : List Loc) (ls : Array Slot), L_X9_sumOf_39 fu k4 x1 x3 s0 s1 σ = some (rr, σr) → ow_Wd Z 56 20 σ s H locs → lv_has ls 4 [(0, .ref (ow_ad Z 56)), (1, .int x1), (3, .int x3)] → W p l e (headSpec wsX9_sumOf { frames := 1, cells := 0, slots := 0, locals := 60 }).room s m args below meth c H locs 0 0 (MQ below (ow_Qi Z 56 20 rr σr) args s 0 0 (ow_A Z 56 20)) (F0 m 39 ls [.int s1, .int s0]) := by
    intro k4 hk4 x1 x3 s0 s1 σ H locs ls hf hW hl
    unfold L_X9_sumOf_39 at hf
    refine lv_iadd hx hb dX9_sumOf_39 ?_
    refine ow_topi hf (fun x2_40 hf => ?_)
    refine lv_istore_n (lv' := [(2, .int x2_40), (0, .ref (ow_ad Z 56)), (1, .int x1), (3, .int x3)]) hx hb dX9_sumOf_40 rfl hl (by decide) rfl (fun ls hl => ?_)
    refine ow_iinc (d := 1) (lv' := fun z => [(3, .int z), (2, .int x2_40), (0, .ref (ow_ad Z 56)), (1, .int x1)]) hx hb hf dX9_sumOf_41 hl (k := 3) rfl (by decide) (by decide) (fun z => rfl) (fun x3_41 hf ls hl => ?_)
    refine lv_goto (tgt := 4) hx hb dX9_sumOf_44 (by decide) ?_
    exact hk4 x1 x2_40 x3_41 σ _ _ _ hf hW (lv_sub hl [2, 3, 1, 0] rfl)
  have hJ4 : ∀ (fn : Nat), ∀ (x1 : Int32) (x2 : Int32) (x3 : Int32) (σ : ow_S) (H : Heap) (locs : List Loc) (ls : Array Slot), L_X9_sumOf_4 fu fn x1 x2 x3 σ = some (rr, σr) → ow_Wd Z 56 20 σ s H locs → lv_has ls 4 [(0, .ref (ow_ad Z 56)), (1, .int x1), (2, .int x2), (3, .int x3)] → W p l e (headSpec wsX9_sumOf { frames := 1, cells := 0, slots := 0, locals := 60 }).room s m args below meth c H locs 0 0 (MQ below (ow_Qi Z 56 20 rr σr) args s 0 0 (ow_A Z 56 20)) (F0 m 4 ls []) := by
    intro fn
    induction fn with
    | zero => intro x1 x2 x3 σ H locs ls hf hW hl; simp [L_X9_sumOf_4] at hf
    | succ fn ih =>
      intro x1 x2 x3 σ H locs ls hf hW hl
      rw [L_X9_sumOf_4] at hf
      refine lv_iload_n hx hb dX9_sumOf_4 rfl (lv_at hl 3 rfl) ?_
      refine lv_aload_n hx hb dX9_sumOf_5 rfl (lv_at hl 0 rfl) ?_
      refine ow_getV (ci := 9) (C := RX9) (T := TX9) (N := 41) hx hb hts hown hG hW ow_i56 (by decide) rfl hinX9 2 (by decide) (fk := 0) rfl (hts (.fieldLink RX9 85 "FiftyOneCardsModel" "rowMany" "I") (by decide +kernel)) (v := .int (σ.1 56 2)) rfl dX9_sumOf_6 ?_
      refine lv_icmp_ge (tgt := 47) hx hb dX9_sumOf_9 (by decide) (fun c9 => ?_) (fun c9 => ?_)
      · replace hf := ow_if_t c9 hf
        refine lv_iload_n hx hb dX9_sumOf_47 rfl (lv_at hl 2 rfl) ?_
        exact ow_iret hx hb hr hW hf dX9_sumOf_48 hlocks
      · replace hf := ow_if_f c9 hf
        refine lv_iload_n hx hb dX9_sumOf_12 rfl (lv_at hl 2 rfl) ?_
        refine lv_iload_n hx hb dX9_sumOf_13 rfl (lv_at hl 1 rfl) ?_
        refine lv_if_eq (tgt := 33) hx hb dX9_sumOf_14 (by decide) (fun c14 => ?_) (fun c14 => ?_)
        · replace hf := ow_if_t c14 hf
          refine lv_aload_n hx hb dX9_sumOf_33 rfl (lv_at hl 0 rfl) ?_
          refine ow_getV (ci := 9) (C := RX9) (T := TX9) (N := 41) hx hb hts hown hG hW ow_i56 (by decide) rfl hinX9 1 (by decide) (fk := 2) rfl (hts (.fieldLink RX9 13 "FiftyOneCardsModel" "row" "[I") (by decide +kernel)) (v := .ref (ow_ad Z 57)) (ow_vR hW ow_i56.1 ow_i56.2.1 rfl) dX9_sumOf_34 ?_
          refine lv_iload_n hx hb dX9_sumOf_37 rfl (lv_at hl 3 rfl) ?_
          obtain ⟨q38, hf⟩ := ow_ck_i hf
          refine ow_ild (q := x3.toNatClampNeg) hx hb hG hW ow_i57 rfl q38 rfl dX9_sumOf_38 ?_
          exact hJ39 (L_X9_sumOf_4 fu fn) ih x1 x3 x2 (σ.1 57 x3.toNatClampNeg) σ _ _ _ hf hW (lv_sub hl [0, 1, 3] rfl)
        · replace hf := ow_if_f c14 hf
          refine lv_aload_n hx hb dX9_sumOf_17 rfl (lv_at hl 0 rfl) ?_
          refine ow_getV (ci := 9) (C := RX9) (T := TX9) (N := 41) hx hb hts hown hG hW ow_i56 (by decide) rfl hinX9 1 (by decide) (fk := 2) rfl (hts (.fieldLink RX9 13 "FiftyOneCardsModel" "row" "[I") (by decide +kernel)) (v := .ref (ow_ad Z 57)) (ow_vR hW ow_i56.1 ow_i56.2.1 rfl) dX9_sumOf_18 ?_
          refine lv_iload_n hx hb dX9_sumOf_21 rfl (lv_at hl 3 rfl) ?_
          obtain ⟨q22, hf⟩ := ow_ck_i hf
          refine ow_ild (q := x3.toNatClampNeg) hx hb hG hW ow_i57 rfl q22 rfl dX9_sumOf_22 ?_
          refine lv_aload_n hx hb dX9_sumOf_23 rfl (lv_at hl 0 rfl) ?_
          refine ow_getV (ci := 9) (C := RX9) (T := TX9) (N := 41) hx hb hts hown hG hW ow_i56 (by decide) rfl hinX9 1 (by decide) (fk := 2) rfl (hts (.fieldLink RX9 13 "FiftyOneCardsModel" "row" "[I") (by decide +kernel)) (v := .ref (ow_ad Z 57)) (ow_vR hW ow_i56.1 ow_i56.2.1 rfl) dX9_sumOf_24 ?_
          refine lv_iload_n hx hb dX9_sumOf_27 rfl (lv_at hl 3 rfl) ?_
          obtain ⟨q28, hf⟩ := ow_ck_i hf
          refine ow_ild (q := x3.toNatClampNeg) hx hb hG hW ow_i57 rfl q28 rfl dX9_sumOf_28 ?_
          refine lv_imul hx hb dX9_sumOf_29 ?_
          refine lv_goto (tgt := 39) hx hb dX9_sumOf_30 (by decide) ?_
          exact hJ39 (L_X9_sumOf_4 fu fn) ih x1 x3 x2 ((σ.1 57 x3.toNatClampNeg) * (σ.1 57 x3.toNatClampNeg)) σ _ _ _ hf hW (lv_sub hl [0, 1, 3] rfl)
  have hl := lv_entry ([.ref (ow_ad Z 56), .int a1]) (n := 4) (Nat.le_of_ble_eq_true rfl)
  refine W.eq (g2 := F0 m 0 ((lg_sl ([.ref (ow_ad Z 56), .int a1]) ++ List.replicate (4 - (lg_sl ([.ref (ow_ad Z 56), .int a1])).length) Slot.unset).toArray) []) (by rw [hav]; exact lg_entry_eq _ _ _) ?_
  generalize (lg_sl ([.ref (ow_ad Z 56), .int a1]) ++ List.replicate (4 - (lg_sl ([.ref (ow_ad Z 56), .int a1])).length) Slot.unset).toArray = ls at hl ⊢
  have hl : lv_has ls 4 [(0, .ref (ow_ad Z 56)), (1, .int a1)] := hl
  unfold f_X9_sumOf at hf
  refine lv_iconst (v := 0) hx hb dX9_sumOf_0 (by decide) ?_
  refine lv_istore_n (lv' := [(2, .int (0 : Int32)), (0, .ref (ow_ad Z 56)), (1, .int a1)]) hx hb dX9_sumOf_1 rfl hl (by decide) rfl (fun ls hl => ?_)
  refine lv_iconst (v := 0) hx hb dX9_sumOf_2 (by decide) ?_
  refine lv_istore_n (lv' := [(3, .int (0 : Int32)), (2, .int (0 : Int32)), (0, .ref (ow_ad Z 56)), (1, .int a1)]) hx hb dX9_sumOf_3 rfl hl (by decide) rfl (fun ls hl => ?_)
  exact hJ4 fu a1 (0 : Int32) (0 : Int32) σ _ _ _ hf hW (lv_sub hl [2, 3, 1, 0] rfl)

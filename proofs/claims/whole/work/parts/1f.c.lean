set_option maxHeartbeats 40000000 in
set_option maxRecDepth 100000 in
theorem c_X8_unlikePairs (l : Launch) (Z : ow_Z) (fu : Nat) (a1 : Int32) (σ : ow_S) (rr : Int32) (σr : ow_S) (hf : f_X8_unlikePairs fu a1 σ = some (rr, σr)) : Met l yX8_unlikePairs wsX8_unlikePairs { frames := 1, cells := 0, slots := 0, locals := 60 } (ow_Pc Z 0 56 [.ref (ow_ad Z 0), .int a1] σ) (ow_Qi Z 0 56 rr σr) 0 0 (ow_A Z 0 56) := by
  refine Met.ofW (cc := cX8_unlikePairs) (maxL := 6) (ret := (some .int)) (by decide) rfl ?_
  intro p e s m args below meth c s₁ B hml hv
  obtain ⟨hav, hB⟩ := hv
  obtain ⟨hG, hW⟩ := ow_begin hB
  have hx := B.exec
  have hb := B.bytes
  have hr := B.returns
  have hts := atoms_spec (ws := wsX8_unlikePairs) B.pre
  have hown : s.vm.findClass RX8 = some m.cls := findClass_of_methodNamed B.named
  have hlocks := B.notSynchronized
  have hinX8 : ∀ w ∈ wsX80, w ∈ wsX8_unlikePairs := by decide +kernel
  have hJ63 : ∀ (k4 : Int32 → Int32 → Int32 → ow_S → Option (Int32 × ow_S)) (hk4 : ∀ (x1 : Int32) (x2 : Int32) (x3 : Int32) (σ : ow_S) (H : Heap) (locs : List Loc) (ls : Array Slot), k4 x1 x2 x3 σ = some (rr, σr) → ow_Wd Z 0 56 σ s H locs → lv_has ls 6 [(0, .ref (ow_ad Z 0)), (1, .int x1), (2, .int x2), (3, .int x3)] → W p l e (headSpec wsX8_unlikePairs { frames := 1, cells := 0, slots := 0, locals := 60 }).room s m args below meth c H locs 0 0 (MQ below (ow_Qi Z 0 56 rr σr) args s 0 0 (ow_A Z 0 56)) (F0 m 4 ls [])), ∀ (x1 : Int32) (x2 : Int32) (x3 : Int32) (σ : ow_S) (H : Heap) (locs : List Loc) (ls : Array Slot), L_X8_unlikePairs_63 fu k4 x1 x2 x3 σ = some (rr, σr) → ow_Wd Z 0 56 σ s H locs → lv_has ls 6 [(0, .ref (ow_ad Z 0)), (1, .int x1), (2, .int x2), (3, .int x3)] → W p l e (headSpec wsX8_unlikePairs { frames := 1, cells := 0, slots := 0, locals := 60 }).room s m args below meth c H locs 0 0 (MQ below (ow_Qi Z 0 56 rr σr) args s 0 0 (ow_A Z 0 56)) (F0 m 63 ls []) := by
    intro k4 hk4 x1 x2 x3 σ H locs ls hf hW hl
    unfold L_X8_unlikePairs_63 at hf
    refine ow_iinc (d := 1) (lv' := fun z => [(3, .int z), (0, .ref (ow_ad Z 0)), (1, .int x1), (2, .int x2)]) hx hb hf dX8_unlikePairs_63 hl (k := 3) rfl (by decide) (by decide) (fun z => rfl) (fun x3_63 hf ls hl => ?_)
    refine lv_goto (tgt := 4) hx hb dX8_unlikePairs_66 (by decide) ?_
    exact hk4 x1 x2 x3_63 σ _ _ _ hf hW (lv_sub hl [1, 2, 3, 0] rfl)
  have hJ55 : ∀ (k4 : Int32 → Int32 → Int32 → ow_S → Option (Int32 × ow_S)) (hk4 : ∀ (x1 : Int32) (x2 : Int32) (x3 : Int32) (σ : ow_S) (H : Heap) (locs : List Loc) (ls : Array Slot), k4 x1 x2 x3 σ = some (rr, σr) → ow_Wd Z 0 56 σ s H locs → lv_has ls 6 [(0, .ref (ow_ad Z 0)), (1, .int x1), (2, .int x2), (3, .int x3)] → W p l e (headSpec wsX8_unlikePairs { frames := 1, cells := 0, slots := 0, locals := 60 }).room s m args below meth c H locs 0 0 (MQ below (ow_Qi Z 0 56 rr σr) args s 0 0 (ow_A Z 0 56)) (F0 m 4 ls [])), ∀ (x1 : Int32) (x2 : Int32) (x3 : Int32) (x4 : Int32) (σ : ow_S) (H : Heap) (locs : List Loc) (ls : Array Slot), L_X8_unlikePairs_55 fu k4 x1 x2 x3 x4 σ = some (rr, σr) → ow_Wd Z 0 56 σ s H locs → lv_has ls 6 [(0, .ref (ow_ad Z 0)), (1, .int x1), (2, .int x2), (3, .int x3), (4, .int x4)] → W p l e (headSpec wsX8_unlikePairs { frames := 1, cells := 0, slots := 0, locals := 60 }).room s m args below meth c H locs 0 0 (MQ below (ow_Qi Z 0 56 rr σr) args s 0 0 (ow_A Z 0 56)) (F0 m 55 ls []) := by
    intro k4 hk4 x1 x2 x3 x4 σ H locs ls hf hW hl
    unfold L_X8_unlikePairs_55 at hf
    refine lv_iload hx hb dX8_unlikePairs_55 (lv_at hl 4 rfl) ?_
    refine lv_if_ne (tgt := 63) hx hb dX8_unlikePairs_57 (by decide) (fun c57 => ?_) (fun c57 => ?_)
    · replace hf := ow_if_f c57 hf
      exact hJ63 k4 hk4 x1 x2 x3 σ _ _ _ hf hW (lv_sub hl [0, 1, 2, 3] rfl)
    · replace hf := ow_if_t c57 hf
      refine ow_iinc (d := 1) (lv' := fun z => [(2, .int z), (0, .ref (ow_ad Z 0)), (1, .int x1), (3, .int x3), (4, .int x4)]) hx hb hf dX8_unlikePairs_60 hl (k := 2) rfl (by decide) (by decide) (fun z => rfl) (fun x2_60 hf ls hl => ?_)
      exact hJ63 k4 hk4 x1 x2_60 x3 σ _ _ _ hf hW (lv_sub hl [1, 2, 0, 3] rfl)
  have hJ47 : ∀ (k4 : Int32 → Int32 → Int32 → ow_S → Option (Int32 × ow_S)) (hk4 : ∀ (x1 : Int32) (x2 : Int32) (x3 : Int32) (σ : ow_S) (H : Heap) (locs : List Loc) (ls : Array Slot), k4 x1 x2 x3 σ = some (rr, σr) → ow_Wd Z 0 56 σ s H locs → lv_has ls 6 [(0, .ref (ow_ad Z 0)), (1, .int x1), (2, .int x2), (3, .int x3)] → W p l e (headSpec wsX8_unlikePairs { frames := 1, cells := 0, slots := 0, locals := 60 }).room s m args below meth c H locs 0 0 (MQ below (ow_Qi Z 0 56 rr σr) args s 0 0 (ow_A Z 0 56)) (F0 m 4 ls [])) (k15 : Int32 → Int32 → Int32 → Int32 → Int32 → ow_S → Option (Int32 × ow_S)) (hk15 : ∀ (x1 : Int32) (x2 : Int32) (x3 : Int32) (x4 : Int32) (x5 : Int32) (σ : ow_S) (H : Heap) (locs : List Loc) (ls : Array Slot), k15 x1 x2 x3 x4 x5 σ = some (rr, σr) → ow_Wd Z 0 56 σ s H locs → lv_has ls 6 [(0, .ref (ow_ad Z 0)), (1, .int x1), (2, .int x2), (3, .int x3), (4, .int x4), (5, .int x5)] → W p l e (headSpec wsX8_unlikePairs { frames := 1, cells := 0, slots := 0, locals := 60 }).room s m args below meth c H locs 0 0 (MQ below (ow_Qi Z 0 56 rr σr) args s 0 0 (ow_A Z 0 56)) (F0 m 15 ls [])), ∀ (x1 : Int32) (x2 : Int32) (x3 : Int32) (x5 : Int32) (s0 : Int32) (σ : ow_S) (H : Heap) (locs : List Loc) (ls : Array Slot), L_X8_unlikePairs_47 fu k4 k15 x1 x2 x3 x5 s0 σ = some (rr, σr) → ow_Wd Z 0 56 σ s H locs → lv_has ls 6 [(0, .ref (ow_ad Z 0)), (1, .int x1), (2, .int x2), (3, .int x3), (5, .int x5)] → W p l e (headSpec wsX8_unlikePairs { frames := 1, cells := 0, slots := 0, locals := 60 }).room s m args below meth c H locs 0 0 (MQ below (ow_Qi Z 0 56 rr σr) args s 0 0 (ow_A Z 0 56)) (F0 m 47 ls [.int s0]) := by
    intro k4 hk4 k15 hk15 x1 x2 x3 x5 s0 σ H locs ls hf hW hl
    unfold L_X8_unlikePairs_47 at hf
    refine lv_istore (lv' := [(4, .int s0), (0, .ref (ow_ad Z 0)), (1, .int x1), (2, .int x2), (3, .int x3), (5, .int x5)]) hx hb dX8_unlikePairs_47 hl (by decide) rfl (fun ls hl => ?_)
    refine ow_iinc (d := 1) (lv' := fun z => [(5, .int z), (4, .int s0), (0, .ref (ow_ad Z 0)), (1, .int x1), (2, .int x2), (3, .int x3)]) hx hb hf dX8_unlikePairs_49 hl (k := 5) rfl (by decide) (by decide) (fun z => rfl) (fun x5_49 hf ls hl => ?_)
    refine lv_goto (tgt := 15) hx hb dX8_unlikePairs_52 (by decide) ?_
    exact hk15 x1 x2 x3 s0 x5_49 σ _ _ _ hf hW (lv_sub hl [2, 3, 4, 5, 1, 0] rfl)
  have hJ15 : ∀ (k4 : Int32 → Int32 → Int32 → ow_S → Option (Int32 × ow_S)) (hk4 : ∀ (x1 : Int32) (x2 : Int32) (x3 : Int32) (σ : ow_S) (H : Heap) (locs : List Loc) (ls : Array Slot), k4 x1 x2 x3 σ = some (rr, σr) → ow_Wd Z 0 56 σ s H locs → lv_has ls 6 [(0, .ref (ow_ad Z 0)), (1, .int x1), (2, .int x2), (3, .int x3)] → W p l e (headSpec wsX8_unlikePairs { frames := 1, cells := 0, slots := 0, locals := 60 }).room s m args below meth c H locs 0 0 (MQ below (ow_Qi Z 0 56 rr σr) args s 0 0 (ow_A Z 0 56)) (F0 m 4 ls [])), ∀ (fn : Nat), ∀ (x1 : Int32) (x2 : Int32) (x3 : Int32) (x4 : Int32) (x5 : Int32) (σ : ow_S) (H : Heap) (locs : List Loc) (ls : Array Slot), L_X8_unlikePairs_15 fu k4 fn x1 x2 x3 x4 x5 σ = some (rr, σr) → ow_Wd Z 0 56 σ s H locs → lv_has ls 6 [(0, .ref (ow_ad Z 0)), (1, .int x1), (2, .int x2), (3, .int x3), (4, .int x4), (5, .int x5)] → W p l e (headSpec wsX8_unlikePairs { frames := 1, cells := 0, slots := 0, locals := 60 }).room s m args below meth c H locs 0 0 (MQ below (ow_Qi Z 0 56 rr σr) args s 0 0 (ow_A Z 0 56)) (F0 m 15 ls []) := by
    intro k4 hk4 fn
    induction fn with
    | zero => intro x1 x2 x3 x4 x5 σ H locs ls hf hW hl; simp [L_X8_unlikePairs_15] at hf
    | succ fn ih =>
      intro x1 x2 x3 x4 x5 σ H locs ls hf hW hl
      rw [L_X8_unlikePairs_15] at hf
      refine lv_iload hx hb dX8_unlikePairs_15 (lv_at hl 5 rfl) ?_
      refine lv_iload_n hx hb dX8_unlikePairs_17 rfl (lv_at hl 3 rfl) ?_
      refine lv_icmp_ge (tgt := 55) hx hb dX8_unlikePairs_18 (by decide) (fun c18 => ?_) (fun c18 => ?_)
      · replace hf := ow_if_t c18 hf
        exact hJ55 k4 hk4 x1 x2 x3 x4 σ _ _ _ hf hW (lv_sub hl [0, 1, 2, 3, 4] rfl)
      · replace hf := ow_if_f c18 hf
        refine lv_iload hx hb dX8_unlikePairs_21 (lv_at hl 4 rfl) ?_
        refine lv_if_ne (tgt := 55) hx hb dX8_unlikePairs_23 (by decide) (fun c23 => ?_) (fun c23 => ?_)
        · replace hf := ow_if_f c23 hf
          exact hJ55 k4 hk4 x1 x2 x3 x4 σ _ _ _ hf hW (lv_sub hl [0, 1, 2, 3, 4] rfl)
        · replace hf := ow_if_t c23 hf
          refine lv_aload_n hx hb dX8_unlikePairs_26 rfl (lv_at hl 0 rfl) ?_
          refine ow_getV (ci := 8) (C := RX8) (T := TX8) (N := 15) hx hb hts hown hG hW ow_i0 (by decide) rfl hinX8 8 (by decide) (fk := 2) rfl (hts (.fieldLink RX8 57 "FiftyOneCards" "pairs" "[I") (by decide +kernel)) (v := .ref (ow_ad Z 14)) (ow_vR hW ow_i0.1 ow_i0.2.1 rfl) dX8_unlikePairs_27 ?_
          refine lv_iload hx hb dX8_unlikePairs_30 (lv_at hl 5 rfl) ?_
          obtain ⟨q32, hf⟩ := ow_ck_i hf
          refine ow_ild (q := x5.toNatClampNeg) hx hb hG hW ow_i14 rfl q32 rfl dX8_unlikePairs_32 ?_
          refine lv_aload_n hx hb dX8_unlikePairs_33 rfl (lv_at hl 0 rfl) ?_
          refine ow_getV (ci := 8) (C := RX8) (T := TX8) (N := 15) hx hb hts hown hG hW ow_i0 (by decide) rfl hinX8 8 (by decide) (fk := 2) rfl (hts (.fieldLink RX8 57 "FiftyOneCards" "pairs" "[I") (by decide +kernel)) (v := .ref (ow_ad Z 14)) (ow_vR hW ow_i0.1 ow_i0.2.1 rfl) dX8_unlikePairs_34 ?_
          refine lv_iload_n hx hb dX8_unlikePairs_37 rfl (lv_at hl 3 rfl) ?_
          obtain ⟨q38, hf⟩ := ow_ck_i hf
          refine ow_ild (q := x3.toNatClampNeg) hx hb hG hW ow_i14 rfl q38 rfl dX8_unlikePairs_38 ?_
          refine lv_icmp_ne (tgt := 46) hx hb dX8_unlikePairs_39 (by decide) (fun c39 => ?_) (fun c39 => ?_)
          · replace hf := ow_if_f c39 hf
            refine lv_iconst (v := 0) hx hb dX8_unlikePairs_46 (by decide) ?_
            exact hJ47 k4 hk4 (L_X8_unlikePairs_15 fu k4 fn) ih x1 x2 x3 x5 (0 : Int32) σ _ _ _ hf hW (lv_sub hl [0, 1, 2, 3, 5] rfl)
          · replace hf := ow_if_t c39 hf
            refine lv_iconst (v := 1) hx hb dX8_unlikePairs_42 (by decide) ?_
            refine lv_goto (tgt := 47) hx hb dX8_unlikePairs_43 (by decide) ?_
            exact hJ47 k4 hk4 (L_X8_unlikePairs_15 fu k4 fn) ih x1 x2 x3 x5 (1 : Int32) σ _ _ _ hf hW (lv_sub hl [0, 1, 2, 3, 5] rfl)
  have hJ4 : ∀ (fn : Nat), ∀ (x1 : Int32) (x2 : Int32) (x3 : Int32) (σ : ow_S) (H : Heap) (locs : List Loc) (ls : Array Slot), L_X8_unlikePairs_4 fu fn x1 x2 x3 σ = some (rr, σr) → ow_Wd Z 0 56 σ s H locs → lv_has ls 6 [(0, .ref (ow_ad Z 0)), (1, .int x1), (2, .int x2), (3, .int x3)] → W p l e (headSpec wsX8_unlikePairs { frames := 1, cells := 0, slots := 0, locals := 60 }).room s m args below meth c H locs 0 0 (MQ below (ow_Qi Z 0 56 rr σr) args s 0 0 (ow_A Z 0 56)) (F0 m 4 ls []) := by
    intro fn
    induction fn with
    | zero => intro x1 x2 x3 σ H locs ls hf hW hl; simp [L_X8_unlikePairs_4] at hf
    | succ fn ih =>
      intro x1 x2 x3 σ H locs ls hf hW hl
      rw [L_X8_unlikePairs_4] at hf
      refine lv_iload_n hx hb dX8_unlikePairs_4 rfl (lv_at hl 3 rfl) ?_
      refine lv_iload_n hx hb dX8_unlikePairs_5 rfl (lv_at hl 1 rfl) ?_
      refine lv_icmp_ge (tgt := 69) hx hb dX8_unlikePairs_6 (by decide) (fun c6 => ?_) (fun c6 => ?_)
      · replace hf := ow_if_t c6 hf
        refine lv_iload_n hx hb dX8_unlikePairs_69 rfl (lv_at hl 2 rfl) ?_
        exact ow_iret hx hb hr hW hf dX8_unlikePairs_70 hlocks
      · replace hf := ow_if_f c6 hf
        refine lv_iconst (v := 0) hx hb dX8_unlikePairs_9 (by decide) ?_
        refine lv_istore (lv' := [(4, .int (0 : Int32)), (0, .ref (ow_ad Z 0)), (1, .int x1), (2, .int x2), (3, .int x3)]) hx hb dX8_unlikePairs_10 hl (by decide) rfl (fun ls hl => ?_)
        refine lv_iconst (v := 0) hx hb dX8_unlikePairs_12 (by decide) ?_
        refine lv_istore (lv' := [(5, .int (0 : Int32)), (4, .int (0 : Int32)), (0, .ref (ow_ad Z 0)), (1, .int x1), (2, .int x2), (3, .int x3)]) hx hb dX8_unlikePairs_13 hl (by decide) rfl (fun ls hl => ?_)
        exact hJ15 (L_X8_unlikePairs_4 fu fn) ih fu x1 x2 x3 (0 : Int32) (0 : Int32) σ _ _ _ hf hW (lv_sub hl [2, 3, 4, 5, 1, 0] rfl)
  have hl := lv_entry ([.ref (ow_ad Z 0), .int a1]) (n := 6) (Nat.le_of_ble_eq_true rfl)
  refine W.eq (g2 := F0 m 0 ((lg_sl ([.ref (ow_ad Z 0), .int a1]) ++ List.replicate (6 - (lg_sl ([.ref (ow_ad Z 0), .int a1])).length) Slot.unset).toArray) []) (by rw [hav]; exact lg_entry_eq _ _ _) ?_
  generalize (lg_sl ([.ref (ow_ad Z 0), .int a1]) ++ List.replicate (6 - (lg_sl ([.ref (ow_ad Z 0), .int a1])).length) Slot.unset).toArray = ls at hl ⊢
  have hl : lv_has ls 6 [(0, .ref (ow_ad Z 0)), (1, .int a1)] := hl
  unfold f_X8_unlikePairs at hf
  refine lv_iconst (v := 0) hx hb dX8_unlikePairs_0 (by decide) ?_
  refine lv_istore_n (lv' := [(2, .int (0 : Int32)), (0, .ref (ow_ad Z 0)), (1, .int a1)]) hx hb dX8_unlikePairs_1 rfl hl (by decide) rfl (fun ls hl => ?_)
  refine lv_iconst (v := 0) hx hb dX8_unlikePairs_2 (by decide) ?_
  refine lv_istore_n (lv' := [(3, .int (0 : Int32)), (2, .int (0 : Int32)), (0, .ref (ow_ad Z 0)), (1, .int a1)]) hx hb dX8_unlikePairs_3 rfl hl (by decide) rfl (fun ls hl => ?_)
  exact hJ4 fu a1 (0 : Int32) (0 : Int32) σ _ _ _ hf hW (lv_sub hl [2, 3, 1, 0] rfl)
set_option maxHeartbeats 40000000 in
set_option maxRecDepth 100000 in
theorem c_X8_states (l : Launch) (Z : ow_Z) (fu : Nat) (a1 : Int32) (a2 : Int32) (a3 : Int32) (σ : ow_S) (rr : Int32) (σr : ow_S) (hf : f_X8_states fu a1 a2 a3 σ = some (rr, σr)) : Met l yX8_states wsX8_states { frames := 5, cells := 0, slots := 0, locals := 160 } (ow_Pc Z 0 56 [.ref (ow_ad Z 0), .int a1, .int a2, .int a3] σ) (ow_Qi Z 0 56 rr σr) 0 0 (ow_A Z 0 56) := by
  refine Met.ofW (cc := cX8_states) (maxL := 8) (ret := (some .int)) (by decide) rfl ?_
  intro p e s m args below meth c s₁ B hml hv
  obtain ⟨hav, hB⟩ := hv
  obtain ⟨hG, hW⟩ := ow_begin hB
  have hx := B.exec
  have hb := B.bytes
  have hr := B.returns
  have hts := atoms_spec (ws := wsX8_states) B.pre
  have hown : s.vm.findClass RX8 = some m.cls := findClass_of_methodNamed B.named
  have hlocks := B.notSynchronized
  have hinX8 : ∀ w ∈ wsX80, w ∈ wsX8_states := by decide +kernel
  have hJ85 : ∀ (fn : Nat), ∀ (x1 : Int32) (x2 : Int32) (x3 : Int32) (x4 : Int32) (x5 : Int32) (x6 : Int32) (σ : ow_S) (H : Heap) (locs : List Loc) (ls : Array Slot), L_X8_states_85 fu fn x1 x2 x3 x4 x5 x6 σ = some (rr, σr) → ow_Wd Z 0 56 σ s H locs → lv_has ls 8 [(0, .ref (ow_ad Z 0)), (1, .int x1), (2, .int x2), (3, .int x3), (4, .int x4), (5, .int x5), (6, .int x6)] → W p l e (headSpec wsX8_states { frames := 5, cells := 0, slots := 0, locals := 160 }).room s m args below meth c H locs 0 0 (MQ below (ow_Qi Z 0 56 rr σr) args s 0 0 (ow_A Z 0 56)) (F0 m 85 ls []) := by
    intro fn
    induction fn with
    | zero => intro x1 x2 x3 x4 x5 x6 σ H locs ls hf hW hl; simp [L_X8_states_85] at hf
    | succ fn ih =>
      intro x1 x2 x3 x4 x5 x6 σ H locs ls hf hW hl
      rw [L_X8_states_85] at hf
      refine lv_iload hx hb dX8_states_85 (lv_at hl 6 rfl) ?_
      refine lv_iload_n hx hb dX8_states_87 rfl (lv_at hl 3 rfl) ?_
      refine lv_icmp_ge (tgt := 124) hx hb dX8_states_88 (by decide) (fun c88 => ?_) (fun c88 => ?_)
      · replace hf := ow_if_t c88 hf
        refine lv_aload_n hx hb dX8_states_124 rfl (lv_at hl 0 rfl) ?_
        refine lv_iload hx hb dX8_states_125 (lv_at hl 5 rfl) ?_
        obtain ⟨r_127, σ_127, hc127, hf⟩ := ow_cl_i hf
        refine ow_calli (va_runV (As := [.int x5]) (rest := []) ⟨hx, hb, hml, hown, hts⟩ (c_X8_unlikePairs l Z fu x5 σ r_127 σ_127 hc127) (cwV 1 hts gX8_states_X8_unlikePairs rfl rfl rfl (by decide +kernel) ⟨Nat.le_of_ble_eq_true rfl, Nat.le_of_ble_eq_true rfl⟩) (ow_preV hG hW ow_i0 (by decide) rfl) rfl rfl hl.1 rfl (lv_room (Nat.le_of_ble_eq_true rfl)) dX8_states_127 ⟨Nat.zero_le _, Nat.zero_le _⟩) hW (fun H locs hW => ?_)
        exact ow_iret hx hb hr hW hf dX8_states_130 hlocks
      · replace hf := ow_if_f c88 hf
        refine lv_aload_n hx hb dX8_states_91 rfl (lv_at hl 0 rfl) ?_
        refine lv_aload_n hx hb dX8_states_92 rfl (lv_at hl 0 rfl) ?_
        refine ow_getV (ci := 8) (C := RX8) (T := TX8) (N := 15) hx hb hts hown hG hW ow_i0 (by decide) rfl hinX8 2 (by decide) (fk := 2) rfl (hts (.fieldLink RX8 21 "FiftyOneCards" "heads" "[LFiftyOneCards$Head;") (by decide +kernel)) (v := .ref (ow_ad Z 5)) (ow_vR hW ow_i0.1 ow_i0.2.1 rfl) dX8_states_93 ?_
        refine lv_iload_n hx hb dX8_states_96 rfl (lv_at hl 1 rfl) ?_
        refine ow_rld (f := fun j => 25 + j) (ct := 0) hx hb hG hW ow_i5 ⟨by decide, by decide⟩ rfl ow_ra5 hf dX8_states_97 (fun h_97 hf hi97 => ?_)
        refine lv_iload_n hx hb dX8_states_98 rfl (lv_at hl 2 rfl) ?_
        refine lv_iload hx hb dX8_states_99 (lv_at hl 6 rfl) ?_
        refine lv_iload hx hb dX8_states_101 (lv_at hl 4 rfl) ?_
        refine lv_iload hx hb dX8_states_103 (lv_at hl 5 rfl) ?_
        obtain ⟨r_105, σ_105, hc105, hf⟩ := ow_cl_i hf
        refine ow_calli (va_runV (As := [.ref (ow_ad Z h_97), .int x2, .int x6, .int x4, .int x5]) (rest := []) ⟨hx, hb, hml, hown, hts⟩ (c_X8_extendPairs l Z fu h_97 hi97 x2 x6 x4 x5 σ r_105 σ_105 hc105) (cwV 5 hts gX8_states_X8_extendPairs rfl rfl rfl (by decide +kernel) ⟨Nat.le_of_ble_eq_true rfl, Nat.le_of_ble_eq_true rfl⟩) (ow_preV hG hW ow_i0 (by decide) rfl) rfl rfl hl.1 rfl (lv_room (Nat.le_of_ble_eq_true rfl)) dX8_states_105 ⟨Nat.zero_le _, Nat.zero_le _⟩) hW (fun H locs hW => ?_)
        refine lv_istore (lv' := [(7, .int r_105), (0, .ref (ow_ad Z 0)), (1, .int x1), (2, .int x2), (3, .int x3), (4, .int x4), (5, .int x5), (6, .int x6)]) hx hb dX8_states_108 hl (by decide) rfl (fun ls hl => ?_)
        refine lv_iload hx hb dX8_states_110 (lv_at hl 6 rfl) ?_
        refine lv_istore (lv' := [(4, .int x5), (7, .int r_105), (0, .ref (ow_ad Z 0)), (1, .int x1), (2, .int x2), (3, .int x3), (5, .int x5), (6, .int x6)]) hx hb dX8_states_112 hl (by decide) rfl (fun ls hl => ?_)
        refine lv_iload hx hb dX8_states_114 (lv_at hl 1 rfl) ?_
        refine lv_istore (lv' := [(5, .int r_105), (4, .int x5), (7, .int r_105), (0, .ref (ow_ad Z 0)), (1, .int x1), (2, .int x2), (3, .int x3), (6, .int x6)]) hx hb dX8_states_116 hl (by decide) rfl (fun ls hl => ?_)
        refine ow_iinc (d := 1) (lv' := fun z => [(6, .int z), (5, .int r_105), (4, .int x5), (7, .int r_105), (0, .ref (ow_ad Z 0)), (1, .int x1), (2, .int x2), (3, .int x3)]) hx hb hf dX8_states_118 hl (k := 7) rfl (by decide) (by decide) (fun z => rfl) (fun x6_118 hf ls hl => ?_)
        refine lv_goto (tgt := 85) hx hb dX8_states_121 (by decide) ?_
        exact ih x1 x2 x3 x5 r_105 x6_118 σ_105 _ _ _ hf hW (lv_sub hl [4, 5, 6, 7, 2, 1, 0] rfl)
  have hl := lv_entry ([.ref (ow_ad Z 0), .int a1, .int a2, .int a3]) (n := 8) (Nat.le_of_ble_eq_true rfl)
  refine W.eq (g2 := F0 m 0 ((lg_sl ([.ref (ow_ad Z 0), .int a1, .int a2, .int a3]) ++ List.replicate (8 - (lg_sl ([.ref (ow_ad Z 0), .int a1, .int a2, .int a3])).length) Slot.unset).toArray) []) (by rw [hav]; exact lg_entry_eq _ _ _) ?_
  generalize (lg_sl ([.ref (ow_ad Z 0), .int a1, .int a2, .int a3]) ++ List.replicate (8 - (lg_sl ([.ref (ow_ad Z 0), .int a1, .int a2, .int a3])).length) Slot.unset).toArray = ls at hl ⊢
  have hl : lv_has ls 8 [(0, .ref (ow_ad Z 0)), (1, .int a1), (2, .int a2), (3, .int a3)] := hl
  unfold f_X8_states at hf
  refine lv_aload_n hx hb dX8_states_0 rfl (lv_at hl 0 rfl) ?_
  refine lv_iload_n hx hb dX8_states_1 rfl (lv_at hl 1 rfl) ?_
  obtain ⟨r_2, σ_2, hc2, hf⟩ := ow_cl_i hf
  refine ow_callz (va_runV (As := [.int a1]) (rest := []) ⟨hx, hb, hml, hown, hts⟩ (c_X8_isHead l Z fu a1 σ r_2 σ_2 hc2) (cwV 1 hts gX8_states_X8_isHead rfl rfl rfl (by decide +kernel) ⟨Nat.le_of_ble_eq_true rfl, Nat.le_of_ble_eq_true rfl⟩) (ow_preV hG hW ow_i0 (by decide) rfl) rfl rfl hl.1 rfl (lv_room (Nat.le_of_ble_eq_true rfl)) dX8_states_2 ⟨Nat.zero_le _, Nat.zero_le _⟩) hW (fun b2 H locs hW => ?_)
  refine lv_if_ne (tgt := 11) hx hb dX8_states_5 (by decide) (fun c5 => ?_) (fun c5 => ?_)
  · replace hf := ow_if_f c5 hf
    refine lv_iload_n hx hb dX8_states_11 rfl (lv_at hl 2 rfl) ?_
    refine lv_iconst (v := 1) hx hb dX8_states_12 (by decide) ?_
    refine lv_icmp_lt (tgt := 39) hx hb dX8_states_13 (by decide) (fun c13 => ?_) (fun c13 => ?_)
    · replace hf := ow_if_t c13 hf
      refine lv_bipush (v := -7) hx hb dX8_states_39 (by decide) ?_
      exact ow_iret hx hb hr hW hf dX8_states_41 hlocks
    · replace hf := ow_if_f c13 hf
      refine lv_iload_n hx hb dX8_states_16 rfl (lv_at hl 2 rfl) ?_
      refine lv_bipush (v := 6) hx hb dX8_states_17 (by decide) ?_
      refine lv_icmp_gt (tgt := 39) hx hb dX8_states_19 (by decide) (fun c19 => ?_) (fun c19 => ?_)
      · replace hf := ow_if_t c19 hf
        refine lv_bipush (v := -7) hx hb dX8_states_39 (by decide) ?_
        exact ow_iret hx hb hr hW hf dX8_states_41 hlocks
      · replace hf := ow_if_f c19 hf
        refine lv_iload_n hx hb dX8_states_22 rfl (lv_at hl 2 rfl) ?_
        refine lv_aload_n hx hb dX8_states_23 rfl (lv_at hl 0 rfl) ?_
        refine ow_getV (ci := 8) (C := RX8) (T := TX8) (N := 15) hx hb hts hown hG hW ow_i0 (by decide) rfl hinX8 11 (by decide) (fk := 0) rfl (hts (.fieldLink RX8 74 "FiftyOneCards" "pack" "I") (by decide +kernel)) (v := .int (σ_2.1 0 11)) rfl dX8_states_24 ?_
        refine lv_icmp_gt (tgt := 39) hx hb dX8_states_27 (by decide) (fun c27 => ?_) (fun c27 => ?_)
        · replace hf := ow_if_t c27 hf
          refine lv_bipush (v := -7) hx hb dX8_states_39 (by decide) ?_
          exact ow_iret hx hb hr hW hf dX8_states_41 hlocks
        · replace hf := ow_if_f c27 hf
          refine lv_iload_n hx hb dX8_states_30 rfl (lv_at hl 3 rfl) ?_
          refine lv_if_lt (tgt := 39) hx hb dX8_states_31 (by decide) (fun c31 => ?_) (fun c31 => ?_)
          · replace hf := ow_if_t c31 hf
            refine lv_bipush (v := -7) hx hb dX8_states_39 (by decide) ?_
            exact ow_iret hx hb hr hW hf dX8_states_41 hlocks
          · replace hf := ow_if_f c31 hf
            refine lv_iload_n hx hb dX8_states_34 rfl (lv_at hl 3 rfl) ?_
            refine lv_iconst (v := 3) hx hb dX8_states_35 (by decide) ?_
            refine lv_icmp_le (tgt := 42) hx hb dX8_states_36 (by decide) (fun c36 => ?_) (fun c36 => ?_)
            · replace hf := ow_if_t c36 hf
              refine lv_aload_n hx hb dX8_states_42 rfl (lv_at hl 0 rfl) ?_
              refine ow_getV (ci := 8) (C := RX8) (T := TX8) (N := 15) hx hb hts hown hG hW ow_i0 (by decide) rfl hinX8 6 (by decide) (fk := 2) rfl (hts (.fieldLink RX8 46 "FiftyOneCards" "walk" "LFiftyOneCards$Walk;") (by decide +kernel)) (v := .ref (ow_ad Z 10)) (ow_vR hW ow_i0.1 ow_i0.2.1 rfl) dX8_states_43 ?_
              refine lv_aload_n hx hb dX8_states_46 rfl (lv_at hl 0 rfl) ?_
              refine ow_getV (ci := 8) (C := RX8) (T := TX8) (N := 15) hx hb hts hown hG hW ow_i0 (by decide) rfl hinX8 2 (by decide) (fk := 2) rfl (hts (.fieldLink RX8 21 "FiftyOneCards" "heads" "[LFiftyOneCards$Head;") (by decide +kernel)) (v := .ref (ow_ad Z 5)) (ow_vR hW ow_i0.1 ow_i0.2.1 rfl) dX8_states_47 ?_
              refine lv_iload_n hx hb dX8_states_50 rfl (lv_at hl 1 rfl) ?_
              refine ow_rld (f := fun j => 25 + j) (ct := 0) hx hb hG hW ow_i5 ⟨by decide, by decide⟩ rfl ow_ra5 hf dX8_states_51 (fun h_51 hf hi51 => ?_)
              refine lv_aload_n hx hb dX8_states_52 rfl (lv_at hl 0 rfl) ?_
              obtain ⟨r_53, σ_53, hc53, hf⟩ := ow_cl_i hf
              refine ow_callr (va_runV (As := []) (rest := [.ref (ow_ad Z h_51), .ref (ow_ad Z 10)]) ⟨hx, hb, hml, hown, hts⟩ (c_X8_lawText l Z fu σ_2 r_53 σ_53 hc53) (cwV 0 hts gX8_states_X8_lawText rfl rfl rfl (by decide +kernel) ⟨Nat.le_of_ble_eq_true rfl, Nat.le_of_ble_eq_true rfl⟩) (ow_preV hG hW ow_i0 (by decide) rfl) rfl rfl hl.1 rfl (lv_room (Nat.le_of_ble_eq_true rfl)) dX8_states_53 ⟨Nat.zero_le _, Nat.zero_le _⟩) hW (fun b53 H locs hW => ?_)
              refine lv_aload_n hx hb dX8_states_56 rfl (lv_at hl 0 rfl) ?_
              refine ow_getV (ci := 8) (C := RX8) (T := TX8) (N := 15) hx hb hts hown hG hW ow_i0 (by decide) rfl hinX8 11 (by decide) (fk := 0) rfl (hts (.fieldLink RX8 74 "FiftyOneCards" "pack" "I") (by decide +kernel)) (v := .int (σ_53.1 0 11)) rfl dX8_states_57 ?_
              obtain ⟨σ_60, hc60, hf⟩ := ow_cv_i hf
              refine ow_callv (va_runVN (As := [.ref (ow_ad Z h_51), .ref (ow_ad Z r_53), .int (σ_53.1 0 11)]) (rest := []) ⟨hx, hb, hml, hown, hts⟩ (c_X7_setOutAs l Z fu h_51 hi51 r_53 b53 (σ_53.1 0 11) σ_53 σ_60  hc60) ⟨va_cnB (host := "FiftyOneCards") 3 hts ggX8_states_X7_setOutAs rfl rfl rfl (ow_nwp hG (.methodLinkNest RX8 218 yX7_setOutAs "FiftyOneCards") (by decide +kernel)) (hts (.initialized RX7) (by decide +kernel)) (by decide +kernel) ⟨Nat.le_of_ble_eq_true rfl, Nat.le_of_ble_eq_true rfl⟩, hts (.instanceMethod yX7_setOutAs) (by decide +kernel), hts (.selects RX7 yX7_setOutAs yX7_setOutAs) (by decide +kernel)⟩ (ow_preV hG hW ow_i10 (by decide) rfl) rfl rfl hl.1 rfl (lv_room (Nat.le_of_ble_eq_true rfl)) dX8_states_60 ⟨Nat.zero_le _, Nat.zero_le _⟩) hW (fun H locs hW => ?_)
              refine lv_aload_n hx hb dX8_states_63 rfl (lv_at hl 0 rfl) ?_
              refine ow_getV (ci := 8) (C := RX8) (T := TX8) (N := 15) hx hb hts hown hG hW ow_i0 (by decide) rfl hinX8 8 (by decide) (fk := 2) rfl (hts (.fieldLink RX8 57 "FiftyOneCards" "pairs" "[I") (by decide +kernel)) (v := .ref (ow_ad Z 14)) (ow_vR hW ow_i0.1 ow_i0.2.1 rfl) dX8_states_64 ?_
              refine lv_iconst (v := 0) hx hb dX8_states_67 (by decide) ?_
              refine lv_aload_n hx hb dX8_states_68 rfl (lv_at hl 0 rfl) ?_
              refine ow_getV (ci := 8) (C := RX8) (T := TX8) (N := 15) hx hb hts hown hG hW ow_i0 (by decide) rfl hinX8 6 (by decide) (fk := 2) rfl (hts (.fieldLink RX8 46 "FiftyOneCards" "walk" "LFiftyOneCards$Walk;") (by decide +kernel)) (v := .ref (ow_ad Z 10)) (ow_vR hW ow_i0.1 ow_i0.2.1 rfl) dX8_states_69 ?_
              obtain ⟨r_72, σ_72, hc72, hf⟩ := ow_cl_i hf
              refine ow_calli (va_runVN (As := []) (rest := [.int (0 : Int32), .ref (ow_ad Z 14)]) ⟨hx, hb, hml, hown, hts⟩ (c_X7_pair l Z fu σ_60 r_72 σ_72 hc72) ⟨va_cnB (host := "FiftyOneCards") 0 hts ggX8_states_X7_pair rfl rfl rfl (ow_nwp hG (.methodLinkNest RX8 257 yX7_pair "FiftyOneCards") (by decide +kernel)) (hts (.initialized RX7) (by decide +kernel)) (by decide +kernel) ⟨Nat.le_of_ble_eq_true rfl, Nat.le_of_ble_eq_true rfl⟩, hts (.instanceMethod yX7_pair) (by decide +kernel), hts (.selects RX7 yX7_pair yX7_pair) (by decide +kernel)⟩ (ow_preV hG hW ow_i10 (by decide) rfl) rfl rfl hl.1 rfl (lv_room (Nat.le_of_ble_eq_true rfl)) dX8_states_72 ⟨Nat.zero_le _, Nat.zero_le _⟩) hW (fun H locs hW => ?_)
              refine ow_ist (q := 0) hx hb hG hW ow_i14 rfl (by decide) (by decide) hf dX8_states_75 (fun σ_75 H locs hf hW => ?_)
              refine lv_iconst (v := 0) hx hb dX8_states_76 (by decide) ?_
              refine lv_istore (lv' := [(4, .int (0 : Int32)), (0, .ref (ow_ad Z 0)), (1, .int a1), (2, .int a2), (3, .int a3)]) hx hb dX8_states_77 hl (by decide) rfl (fun ls hl => ?_)
              refine lv_iconst (v := 1) hx hb dX8_states_79 (by decide) ?_
              refine lv_istore (lv' := [(5, .int (1 : Int32)), (4, .int (0 : Int32)), (0, .ref (ow_ad Z 0)), (1, .int a1), (2, .int a2), (3, .int a3)]) hx hb dX8_states_80 hl (by decide) rfl (fun ls hl => ?_)
              refine lv_iconst (v := 0) hx hb dX8_states_82 (by decide) ?_
              refine lv_istore (lv' := [(6, .int (0 : Int32)), (5, .int (1 : Int32)), (4, .int (0 : Int32)), (0, .ref (ow_ad Z 0)), (1, .int a1), (2, .int a2), (3, .int a3)]) hx hb dX8_states_83 hl (by decide) rfl (fun ls hl => ?_)
              exact hJ85 fu a1 a2 a3 (0 : Int32) (1 : Int32) (0 : Int32) σ_75 _ _ _ hf hW (lv_sub hl [3, 4, 5, 6, 2, 1, 0] rfl)
            · replace hf := ow_if_f c36 hf
              refine lv_bipush (v := -7) hx hb dX8_states_39 (by decide) ?_
              exact ow_iret hx hb hr hW hf dX8_states_41 hlocks
  · replace hf := ow_if_t c5 hf
    refine lv_bipush (v := -5) hx hb dX8_states_8 (by decide) ?_
    exact ow_iret hx hb hr hW hf dX8_states_10 hlocks
set_option maxHeartbeats 40000000 in
set_option maxRecDepth 100000 in
theorem c_X8_drop (l : Launch) (Z : ow_Z) (fu : Nat) (a1 : Int32) (a2 : Int32) (σ : ow_S) (rr : Int32) (σr : ow_S) (hf : f_X8_drop fu a1 a2 σ = some (rr, σr)) : Met l yX8_drop wsX8_drop { frames := 7, cells := 0, slots := 0, locals := 203 } (ow_Pc Z 0 56 [.ref (ow_ad Z 0), .int a1, .int a2] σ) (ow_Qi Z 0 56 rr σr) 0 0 (ow_A Z 0 56) := by
  refine Met.ofW (cc := cX8_drop) (maxL := 7) (ret := (some .int)) (by decide) rfl ?_
  intro p e s m args below meth c s₁ B hml hv
  obtain ⟨hav, hB⟩ := hv
  obtain ⟨hG, hW⟩ := ow_begin hB
  have hx := B.exec
  have hb := B.bytes
  have hr := B.returns
  have hts := atoms_spec (ws := wsX8_drop) B.pre
  have hown : s.vm.findClass RX8 = some m.cls := findClass_of_methodNamed B.named
  have hlocks := B.notSynchronized
  have hinX4 : ∀ w ∈ wsX40, w ∈ wsX8_drop := by decide +kernel
  have hinX8 : ∀ w ∈ wsX80, w ∈ wsX8_drop := by decide +kernel
  have hJ94 : ∀ (k34 : Int32 → Int32 → Int32 → Int32 → Int32 → ow_S → Option (Int32 × ow_S)) (hk34 : ∀ (x1 : Int32) (x2 : Int32) (x3 : Int32) (x4 : Int32) (x5 : Int32) (σ : ow_S) (H : Heap) (locs : List Loc) (ls : Array Slot), k34 x1 x2 x3 x4 x5 σ = some (rr, σr) → ow_Wd Z 0 56 σ s H locs → lv_has ls 7 [(0, .ref (ow_ad Z 0)), (1, .int x1), (2, .int x2), (3, .int x3), (4, .int x4), (5, .int x5)] → W p l e (headSpec wsX8_drop { frames := 7, cells := 0, slots := 0, locals := 203 }).room s m args below meth c H locs 0 0 (MQ below (ow_Qi Z 0 56 rr σr) args s 0 0 (ow_A Z 0 56)) (F0 m 34 ls [])), ∀ (x1 : Int32) (x2 : Int32) (x3 : Int32) (x4 : Int32) (x5 : Int32) (σ : ow_S) (H : Heap) (locs : List Loc) (ls : Array Slot), L_X8_drop_94 fu k34 x1 x2 x3 x4 x5 σ = some (rr, σr) → ow_Wd Z 0 56 σ s H locs → lv_has ls 7 [(0, .ref (ow_ad Z 0)), (1, .int x1), (2, .int x2), (3, .int x3), (4, .int x4), (5, .int x5)] → W p l e (headSpec wsX8_drop { frames := 7, cells := 0, slots := 0, locals := 203 }).room s m args below meth c H locs 0 0 (MQ below (ow_Qi Z 0 56 rr σr) args s 0 0 (ow_A Z 0 56)) (F0 m 94 ls []) := by
    intro k34 hk34 x1 x2 x3 x4 x5 σ H locs ls hf hW hl
    unfold L_X8_drop_94 at hf
    refine ow_iinc (d := 1) (lv' := fun z => [(5, .int z), (0, .ref (ow_ad Z 0)), (1, .int x1), (2, .int x2), (3, .int x3), (4, .int x4)]) hx hb hf dX8_drop_94 hl (k := 5) rfl (by decide) (by decide) (fun z => rfl) (fun x5_94 hf ls hl => ?_)
    refine lv_goto (tgt := 34) hx hb dX8_drop_97 (by decide) ?_
    exact hk34 x1 x2 x3 x4 x5_94 σ _ _ _ hf hW (lv_sub hl [1, 2, 3, 4, 5, 0] rfl)
  have hJ87 : ∀ (k34 : Int32 → Int32 → Int32 → Int32 → Int32 → ow_S → Option (Int32 × ow_S)) (hk34 : ∀ (x1 : Int32) (x2 : Int32) (x3 : Int32) (x4 : Int32) (x5 : Int32) (σ : ow_S) (H : Heap) (locs : List Loc) (ls : Array Slot), k34 x1 x2 x3 x4 x5 σ = some (rr, σr) → ow_Wd Z 0 56 σ s H locs → lv_has ls 7 [(0, .ref (ow_ad Z 0)), (1, .int x1), (2, .int x2), (3, .int x3), (4, .int x4), (5, .int x5)] → W p l e (headSpec wsX8_drop { frames := 7, cells := 0, slots := 0, locals := 203 }).room s m args below meth c H locs 0 0 (MQ below (ow_Qi Z 0 56 rr σr) args s 0 0 (ow_A Z 0 56)) (F0 m 34 ls [])), ∀ (x1 : Int32) (x2 : Int32) (x5 : Int32) (x6 : Int32) (σ : ow_S) (H : Heap) (locs : List Loc) (ls : Array Slot), L_X8_drop_87 fu k34 x1 x2 x5 x6 σ = some (rr, σr) → ow_Wd Z 0 56 σ s H locs → lv_has ls 7 [(0, .ref (ow_ad Z 0)), (1, .int x1), (2, .int x2), (5, .int x5), (6, .int x6)] → W p l e (headSpec wsX8_drop { frames := 7, cells := 0, slots := 0, locals := 203 }).room s m args below meth c H locs 0 0 (MQ below (ow_Qi Z 0 56 rr σr) args s 0 0 (ow_A Z 0 56)) (F0 m 87 ls []) := by
    intro k34 hk34 x1 x2 x5 x6 σ H locs ls hf hW hl
    unfold L_X8_drop_87 at hf
    refine lv_iload hx hb dX8_drop_87 (lv_at hl 3 rfl) ?_
    refine lv_istore_n (lv' := [(3, .int x5), (0, .ref (ow_ad Z 0)), (1, .int x1), (2, .int x2), (5, .int x5), (6, .int x6)]) hx hb dX8_drop_89 rfl hl (by decide) rfl (fun ls hl => ?_)
    refine lv_iload hx hb dX8_drop_90 (lv_at hl 5 rfl) ?_
    refine lv_istore (lv' := [(4, .int x6), (3, .int x5), (0, .ref (ow_ad Z 0)), (1, .int x1), (2, .int x2), (5, .int x5), (6, .int x6)]) hx hb dX8_drop_92 hl (by decide) rfl (fun ls hl => ?_)
    exact hJ94 k34 hk34 x1 x2 x5 x6 x5 σ _ _ _ hf hW (lv_sub hl [2, 3, 4, 1, 0, 5] rfl)
  have hJ34 : ∀ (fn : Nat), ∀ (x1 : Int32) (x2 : Int32) (x3 : Int32) (x4 : Int32) (x5 : Int32) (σ : ow_S) (H : Heap) (locs : List Loc) (ls : Array Slot), L_X8_drop_34 fu fn x1 x2 x3 x4 x5 σ = some (rr, σr) → ow_Wd Z 0 56 σ s H locs → lv_has ls 7 [(0, .ref (ow_ad Z 0)), (1, .int x1), (2, .int x2), (3, .int x3), (4, .int x4), (5, .int x5)] → W p l e (headSpec wsX8_drop { frames := 7, cells := 0, slots := 0, locals := 203 }).room s m args below meth c H locs 0 0 (MQ below (ow_Qi Z 0 56 rr σr) args s 0 0 (ow_A Z 0 56)) (F0 m 34 ls []) := by
    intro fn
    induction fn with
    | zero => intro x1 x2 x3 x4 x5 σ H locs ls hf hW hl; simp [L_X8_drop_34] at hf
    | succ fn ih =>
      intro x1 x2 x3 x4 x5 σ H locs ls hf hW hl
      rw [L_X8_drop_34] at hf
      refine lv_iload hx hb dX8_drop_34 (lv_at hl 5 rfl) ?_
      refine lv_aload_n hx hb dX8_drop_36 rfl (lv_at hl 0 rfl) ?_
      refine ow_getV (ci := 8) (C := RX8) (T := TX8) (N := 15) hx hb hts hown hG hW ow_i0 (by decide) rfl hinX8 0 (by decide) (fk := 2) rfl (hts (.fieldLink RX8 10 "FiftyOneCards" "row" "LFiftyOneCards$Row;") (by decide +kernel)) (v := .ref (ow_ad Z 1)) (ow_vR hW ow_i0.1 ow_i0.2.1 rfl) dX8_drop_37 ?_
      refine ow_getVN (ci := 4) (C := RX4) (T := TX4) (N := 2) hx hb hts hown hG hW ow_i1 (by decide) rfl hinX4 1 (by decide) (fk := 0) rfl (ow_nwp hG (.fieldLinkNest RX8 108 "FiftyOneCards$Row" "size" "I" "FiftyOneCards") (by decide +kernel)) (v := .int (σ.1 1 1)) rfl dX8_drop_40 ?_
      refine lv_icmp_ge (tgt := 100) hx hb dX8_drop_43 (by decide) (fun c43 => ?_) (fun c43 => ?_)
      · replace hf := ow_if_t c43 hf
        refine lv_iload_n hx hb dX8_drop_100 rfl (lv_at hl 2 rfl) ?_
        refine lv_if_ne (tgt := 108) hx hb dX8_drop_101 (by decide) (fun c101 => ?_) (fun c101 => ?_)
        · replace hf := ow_if_f c101 hf
          refine lv_iload hx hb dX8_drop_108 (lv_at hl 4 rfl) ?_
          exact ow_iret hx hb hr hW hf dX8_drop_110 hlocks
        · replace hf := ow_if_t c101 hf
          refine lv_iload_n hx hb dX8_drop_104 rfl (lv_at hl 3 rfl) ?_
          refine lv_goto (tgt := 110) hx hb dX8_drop_105 (by decide) ?_
          exact ow_iret hx hb hr hW hf dX8_drop_110 hlocks
      · replace hf := ow_if_f c43 hf
        refine lv_aload_n hx hb dX8_drop_46 rfl (lv_at hl 0 rfl) ?_
        refine ow_getV (ci := 8) (C := RX8) (T := TX8) (N := 15) hx hb hts hown hG hW ow_i0 (by decide) rfl hinX8 1 (by decide) (fk := 2) rfl (hts (.fieldLink RX8 16 "FiftyOneCards" "trialRow" "LFiftyOneCards$Row;") (by decide +kernel)) (v := .ref (ow_ad Z 3)) (ow_vR hW ow_i0.1 ow_i0.2.1 rfl) dX8_drop_47 ?_
        refine lv_aload_n hx hb dX8_drop_50 rfl (lv_at hl 0 rfl) ?_
        refine ow_getV (ci := 8) (C := RX8) (T := TX8) (N := 15) hx hb hts hown hG hW ow_i0 (by decide) rfl hinX8 0 (by decide) (fk := 2) rfl (hts (.fieldLink RX8 10 "FiftyOneCards" "row" "LFiftyOneCards$Row;") (by decide +kernel)) (v := .ref (ow_ad Z 1)) (ow_vR hW ow_i0.1 ow_i0.2.1 rfl) dX8_drop_51 ?_
        refine lv_iload hx hb dX8_drop_54 (lv_at hl 5 rfl) ?_
        obtain ⟨σ_56, hc56, hf⟩ := ow_cv_i hf
        refine ow_callv (va_runVN (As := [.ref (ow_ad Z 1), .int x5]) (rest := []) ⟨hx, hb, hml, hown, hts⟩ (c_X4_becomeWithout l Z fu 3 ow_i3 1 ow_i1 x5 σ σ_56  hc56) ⟨va_cnB (host := "FiftyOneCards") 2 hts ggX8_drop_X4_becomeWithout rfl rfl rfl (ow_nwp hG (.methodLinkNest RX8 269 yX4_becomeWithout "FiftyOneCards") (by decide +kernel)) (hts (.initialized RX4) (by decide +kernel)) (by decide +kernel) ⟨Nat.le_of_ble_eq_true rfl, Nat.le_of_ble_eq_true rfl⟩, hts (.instanceMethod yX4_becomeWithout) (by decide +kernel), hts (.selects RX4 yX4_becomeWithout yX4_becomeWithout) (by decide +kernel)⟩ (ow_preV hG hW ow_i3 (by decide) rfl) rfl rfl hl.1 rfl (lv_room (Nat.le_of_ble_eq_true rfl)) dX8_drop_56 ⟨Nat.zero_le _, Nat.zero_le _⟩) hW (fun H locs hW => ?_)
        refine lv_aload_n hx hb dX8_drop_59 rfl (lv_at hl 0 rfl) ?_
        refine lv_aload_n hx hb dX8_drop_60 rfl (lv_at hl 0 rfl) ?_
        refine ow_getV (ci := 8) (C := RX8) (T := TX8) (N := 15) hx hb hts hown hG hW ow_i0 (by decide) rfl hinX8 2 (by decide) (fk := 2) rfl (hts (.fieldLink RX8 21 "FiftyOneCards" "heads" "[LFiftyOneCards$Head;") (by decide +kernel)) (v := .ref (ow_ad Z 5)) (ow_vR hW ow_i0.1 ow_i0.2.1 rfl) dX8_drop_61 ?_
        refine lv_iload_n hx hb dX8_drop_64 rfl (lv_at hl 1 rfl) ?_
        refine ow_rld (f := fun j => 25 + j) (ct := 0) hx hb hG hW ow_i5 ⟨by decide, by decide⟩ rfl ow_ra5 hf dX8_drop_65 (fun h_65 hf hi65 => ?_)
        refine lv_aload_n hx hb dX8_drop_66 rfl (lv_at hl 0 rfl) ?_
        refine ow_getV (ci := 8) (C := RX8) (T := TX8) (N := 15) hx hb hts hown hG hW ow_i0 (by decide) rfl hinX8 1 (by decide) (fk := 2) rfl (hts (.fieldLink RX8 16 "FiftyOneCards" "trialRow" "LFiftyOneCards$Row;") (by decide +kernel)) (v := .ref (ow_ad Z 3)) (ow_vR hW ow_i0.1 ow_i0.2.1 rfl) dX8_drop_67 ?_
        obtain ⟨r_70, σ_70, hc70, hf⟩ := ow_cl_i hf
        refine ow_calli (va_runV (As := [.ref (ow_ad Z h_65), .ref (ow_ad Z 3)]) (rest := []) ⟨hx, hb, hml, hown, hts⟩ (c_X8_saysOf l Z fu h_65 hi65 3 ow_i3 σ_56 r_70 σ_70 hc70) (cwV 2 hts gX8_drop_X8_saysOf rfl rfl rfl (by decide +kernel) ⟨Nat.le_of_ble_eq_true rfl, Nat.le_of_ble_eq_true rfl⟩) (ow_preV hG hW ow_i0 (by decide) rfl) rfl rfl hl.1 rfl (lv_room (Nat.le_of_ble_eq_true rfl)) dX8_drop_70 ⟨Nat.zero_le _, Nat.zero_le _⟩) hW (fun H locs hW => ?_)
        refine lv_istore (lv' := [(6, .int r_70), (0, .ref (ow_ad Z 0)), (1, .int x1), (2, .int x2), (3, .int x3), (4, .int x4), (5, .int x5)]) hx hb dX8_drop_73 hl (by decide) rfl (fun ls hl => ?_)
        refine lv_iload_n hx hb dX8_drop_75 rfl (lv_at hl 4 rfl) ?_
        refine lv_iconst (v := -1) hx hb dX8_drop_76 (by decide) ?_
        refine lv_icmp_eq (tgt := 87) hx hb dX8_drop_77 (by decide) (fun c77 => ?_) (fun c77 => ?_)
        · replace hf := ow_if_t c77 hf
          exact hJ87 (L_X8_drop_34 fu fn) ih x1 x2 x5 r_70 σ_70 _ _ _ hf hW (lv_sub hl [1, 2, 3, 6, 0] rfl)
        · replace hf := ow_if_f c77 hf
          refine lv_iload hx hb dX8_drop_80 (lv_at hl 0 rfl) ?_
          refine lv_iload hx hb dX8_drop_82 (lv_at hl 5 rfl) ?_
          refine lv_icmp_le (tgt := 94) hx hb dX8_drop_84 (by decide) (fun c84 => ?_) (fun c84 => ?_)
          · replace hf := ow_if_t c84 hf
            exact hJ94 (L_X8_drop_34 fu fn) ih x1 x2 x3 x4 x5 σ_70 _ _ _ hf hW (lv_sub hl [1, 2, 3, 4, 5, 6] rfl)
          · replace hf := ow_if_f c84 hf
            exact hJ87 (L_X8_drop_34 fu fn) ih x1 x2 x5 r_70 σ_70 _ _ _ hf hW (lv_sub hl [1, 2, 3, 6, 0] rfl)
  have hl := lv_entry ([.ref (ow_ad Z 0), .int a1, .int a2]) (n := 7) (Nat.le_of_ble_eq_true rfl)
  refine W.eq (g2 := F0 m 0 ((lg_sl ([.ref (ow_ad Z 0), .int a1, .int a2]) ++ List.replicate (7 - (lg_sl ([.ref (ow_ad Z 0), .int a1, .int a2])).length) Slot.unset).toArray) []) (by rw [hav]; exact lg_entry_eq _ _ _) ?_
  generalize (lg_sl ([.ref (ow_ad Z 0), .int a1, .int a2]) ++ List.replicate (7 - (lg_sl ([.ref (ow_ad Z 0), .int a1, .int a2])).length) Slot.unset).toArray = ls at hl ⊢
  have hl : lv_has ls 7 [(0, .ref (ow_ad Z 0)), (1, .int a1), (2, .int a2)] := hl
  unfold f_X8_drop at hf
  refine lv_aload_n hx hb dX8_drop_0 rfl (lv_at hl 0 rfl) ?_
  refine lv_iload_n hx hb dX8_drop_1 rfl (lv_at hl 1 rfl) ?_
  obtain ⟨r_2, σ_2, hc2, hf⟩ := ow_cl_i hf
  refine ow_callz (va_runV (As := [.int a1]) (rest := []) ⟨hx, hb, hml, hown, hts⟩ (c_X8_isHead l Z fu a1 σ r_2 σ_2 hc2) (cwV 1 hts gX8_drop_X8_isHead rfl rfl rfl (by decide +kernel) ⟨Nat.le_of_ble_eq_true rfl, Nat.le_of_ble_eq_true rfl⟩) (ow_preV hG hW ow_i0 (by decide) rfl) rfl rfl hl.1 rfl (lv_room (Nat.le_of_ble_eq_true rfl)) dX8_drop_2 ⟨Nat.zero_le _, Nat.zero_le _⟩) hW (fun b2 H locs hW => ?_)
  refine lv_if_ne (tgt := 11) hx hb dX8_drop_5 (by decide) (fun c5 => ?_) (fun c5 => ?_)
  · replace hf := ow_if_f c5 hf
    refine lv_iload_n hx hb dX8_drop_11 rfl (lv_at hl 2 rfl) ?_
    refine lv_if_lt (tgt := 20) hx hb dX8_drop_12 (by decide) (fun c12 => ?_) (fun c12 => ?_)
    · replace hf := ow_if_t c12 hf
      refine lv_ldcw (v := -1000007) hx hb hown (hts (.constant RX8 267 (-1000007)) (by decide +kernel)) dX8_drop_20 ?_
      exact ow_iret hx hb hr hW hf dX8_drop_23 hlocks
    · replace hf := ow_if_f c12 hf
      refine lv_iload_n hx hb dX8_drop_15 rfl (lv_at hl 2 rfl) ?_
      refine lv_iconst (v := 1) hx hb dX8_drop_16 (by decide) ?_
      refine lv_icmp_le (tgt := 24) hx hb dX8_drop_17 (by decide) (fun c17 => ?_) (fun c17 => ?_)
      · replace hf := ow_if_t c17 hf
        refine lv_iconst (v := -1) hx hb dX8_drop_24 (by decide) ?_
        refine lv_istore_n (lv' := [(3, .int (-1 : Int32)), (0, .ref (ow_ad Z 0)), (1, .int a1), (2, .int a2)]) hx hb dX8_drop_25 rfl hl (by decide) rfl (fun ls hl => ?_)
        refine lv_ldcw (v := -1000000) hx hb hown (hts (.constant RX8 268 (-1000000)) (by decide +kernel)) dX8_drop_26 ?_
        refine lv_istore (lv' := [(4, .int (-1000000 : Int32)), (3, .int (-1 : Int32)), (0, .ref (ow_ad Z 0)), (1, .int a1), (2, .int a2)]) hx hb dX8_drop_29 hl (by decide) rfl (fun ls hl => ?_)
        refine lv_iconst (v := 0) hx hb dX8_drop_31 (by decide) ?_
        refine lv_istore (lv' := [(5, .int (0 : Int32)), (4, .int (-1000000 : Int32)), (3, .int (-1 : Int32)), (0, .ref (ow_ad Z 0)), (1, .int a1), (2, .int a2)]) hx hb dX8_drop_32 hl (by decide) rfl (fun ls hl => ?_)
        exact hJ34 fu a1 a2 (-1 : Int32) (-1000000 : Int32) (0 : Int32) σ_2 _ _ _ hf hW (lv_sub hl [3, 4, 5, 2, 1, 0] rfl)
      · replace hf := ow_if_f c17 hf
        refine lv_ldcw (v := -1000007) hx hb hown (hts (.constant RX8 267 (-1000007)) (by decide +kernel)) dX8_drop_20 ?_
        exact ow_iret hx hb hr hW hf dX8_drop_23 hlocks
  · replace hf := ow_if_t c5 hf
    refine lv_ldc (v := -1000005) hx hb hown (hts (.constant RX8 217 (-1000005)) (by decide +kernel)) dX8_drop_8 ?_
    exact ow_iret hx hb hr hW hf dX8_drop_10 hlocks
set_option maxHeartbeats 40000000 in
set_option maxRecDepth 100000 in
theorem c_X8_often (l : Launch) (Z : ow_Z) (fu : Nat) (a1 : Int32) (a2 : Int32) (a3 : Int32) (σ : ow_S) (rr : Int32) (σr : ow_S) (hf : f_X8_often fu a1 a2 a3 σ = some (rr, σr)) : Met l yX8_often wsX8_often { frames := 7, cells := 0, slots := 0, locals := 203 } (ow_Pc Z 0 56 [.ref (ow_ad Z 0), .int a1, .int a2, .int a3] σ) (ow_Qi Z 0 56 rr σr) 0 0 (ow_A Z 0 56) := by
  refine Met.ofW (cc := cX8_often) (maxL := 6) (ret := (some .int)) (by decide) rfl ?_
  intro p e s m args below meth c s₁ B hml hv
  obtain ⟨hav, hB⟩ := hv
  obtain ⟨hG, hW⟩ := ow_begin hB
  have hx := B.exec
  have hb := B.bytes
  have hr := B.returns
  have hts := atoms_spec (ws := wsX8_often) B.pre
  have hown : s.vm.findClass RX8 = some m.cls := findClass_of_methodNamed B.named
  have hlocks := B.notSynchronized
  have hinX8 : ∀ w ∈ wsX80, w ∈ wsX8_often := by decide +kernel
  have hJ83 : ∀ (k56 : Int32 → Int32 → Int32 → Int32 → Int32 → ow_S → Option (Int32 × ow_S)) (hk56 : ∀ (x1 : Int32) (x2 : Int32) (x3 : Int32) (x4 : Int32) (x5 : Int32) (σ : ow_S) (H : Heap) (locs : List Loc) (ls : Array Slot), k56 x1 x2 x3 x4 x5 σ = some (rr, σr) → ow_Wd Z 0 56 σ s H locs → lv_has ls 6 [(0, .ref (ow_ad Z 0)), (1, .int x1), (2, .int x2), (3, .int x3), (4, .int x4), (5, .int x5)] → W p l e (headSpec wsX8_often { frames := 7, cells := 0, slots := 0, locals := 203 }).room s m args below meth c H locs 0 0 (MQ below (ow_Qi Z 0 56 rr σr) args s 0 0 (ow_A Z 0 56)) (F0 m 56 ls [])), ∀ (x1 : Int32) (x2 : Int32) (x3 : Int32) (x4 : Int32) (x5 : Int32) (σ : ow_S) (H : Heap) (locs : List Loc) (ls : Array Slot), L_X8_often_83 fu k56 x1 x2 x3 x4 x5 σ = some (rr, σr) → ow_Wd Z 0 56 σ s H locs → lv_has ls 6 [(0, .ref (ow_ad Z 0)), (1, .int x1), (2, .int x2), (3, .int x3), (4, .int x4), (5, .int x5)] → W p l e (headSpec wsX8_often { frames := 7, cells := 0, slots := 0, locals := 203 }).room s m args below meth c H locs 0 0 (MQ below (ow_Qi Z 0 56 rr σr) args s 0 0 (ow_A Z 0 56)) (F0 m 83 ls []) := by
    intro k56 hk56 x1 x2 x3 x4 x5 σ H locs ls hf hW hl
    unfold L_X8_often_83 at hf
    refine lv_aload_n hx hb dX8_often_83 rfl (lv_at hl 0 rfl) ?_
    refine ow_getV (ci := 8) (C := RX8) (T := TX8) (N := 15) hx hb hts hown hG hW ow_i0 (by decide) rfl hinX8 1 (by decide) (fk := 2) rfl (hts (.fieldLink RX8 16 "FiftyOneCards" "trialRow" "LFiftyOneCards$Row;") (by decide +kernel)) (v := .ref (ow_ad Z 3)) (ow_vR hW ow_i0.1 ow_i0.2.1 rfl) dX8_often_84 ?_
    refine lv_iconst (v := 1) hx hb dX8_often_87 (by decide) ?_
    obtain ⟨σ_88, hc88, hf⟩ := ow_cv_i hf
    refine ow_callv (va_runVN (As := [.int (1 : Int32)]) (rest := []) ⟨hx, hb, hml, hown, hts⟩ (c_X4_beTurned l Z fu 3 ow_i3 (1 : Int32) σ σ_88  hc88) ⟨va_cnB (host := "FiftyOneCards") 1 hts ggX8_often_X4_beTurned rfl rfl rfl (ow_nwp hG (.methodLinkNest RX8 135 yX4_beTurned "FiftyOneCards") (by decide +kernel)) (hts (.initialized RX4) (by decide +kernel)) (by decide +kernel) ⟨Nat.le_of_ble_eq_true rfl, Nat.le_of_ble_eq_true rfl⟩, hts (.instanceMethod yX4_beTurned) (by decide +kernel), hts (.selects RX4 yX4_beTurned yX4_beTurned) (by decide +kernel)⟩ (ow_preV hG hW ow_i3 (by decide) rfl) rfl rfl hl.1 rfl (lv_room (Nat.le_of_ble_eq_true rfl)) dX8_often_88 ⟨Nat.zero_le _, Nat.zero_le _⟩) hW (fun H locs hW => ?_)
    refine ow_iinc (d := 1) (lv' := fun z => [(5, .int z), (0, .ref (ow_ad Z 0)), (1, .int x1), (2, .int x2), (3, .int x3), (4, .int x4)]) hx hb hf dX8_often_91 hl (k := 5) rfl (by decide) (by decide) (fun z => rfl) (fun x5_91 hf ls hl => ?_)
    refine lv_goto (tgt := 56) hx hb dX8_often_94 (by decide) ?_
    exact hk56 x1 x2 x3 x4 x5_91 σ_88 _ _ _ hf hW (lv_sub hl [1, 2, 3, 4, 5, 0] rfl)
  have hJ56 : ∀ (fn : Nat), ∀ (x1 : Int32) (x2 : Int32) (x3 : Int32) (x4 : Int32) (x5 : Int32) (σ : ow_S) (H : Heap) (locs : List Loc) (ls : Array Slot), L_X8_often_56 fu fn x1 x2 x3 x4 x5 σ = some (rr, σr) → ow_Wd Z 0 56 σ s H locs → lv_has ls 6 [(0, .ref (ow_ad Z 0)), (1, .int x1), (2, .int x2), (3, .int x3), (4, .int x4), (5, .int x5)] → W p l e (headSpec wsX8_often { frames := 7, cells := 0, slots := 0, locals := 203 }).room s m args below meth c H locs 0 0 (MQ below (ow_Qi Z 0 56 rr σr) args s 0 0 (ow_A Z 0 56)) (F0 m 56 ls []) := by
    intro fn
    induction fn with
    | zero => intro x1 x2 x3 x4 x5 σ H locs ls hf hW hl; simp [L_X8_often_56] at hf
    | succ fn ih =>
      intro x1 x2 x3 x4 x5 σ H locs ls hf hW hl
      rw [L_X8_often_56] at hf
      refine lv_iload hx hb dX8_often_56 (lv_at hl 5 rfl) ?_
      refine lv_iload_n hx hb dX8_often_58 rfl (lv_at hl 2 rfl) ?_
      refine lv_icmp_ge (tgt := 97) hx hb dX8_often_59 (by decide) (fun c59 => ?_) (fun c59 => ?_)
      · replace hf := ow_if_t c59 hf
        refine lv_iload hx hb dX8_often_97 (lv_at hl 4 rfl) ?_
        exact ow_iret hx hb hr hW hf dX8_often_99 hlocks
      · replace hf := ow_if_f c59 hf
        refine lv_aload_n hx hb dX8_often_62 rfl (lv_at hl 0 rfl) ?_
        refine lv_aload_n hx hb dX8_often_63 rfl (lv_at hl 0 rfl) ?_
        refine ow_getV (ci := 8) (C := RX8) (T := TX8) (N := 15) hx hb hts hown hG hW ow_i0 (by decide) rfl hinX8 2 (by decide) (fk := 2) rfl (hts (.fieldLink RX8 21 "FiftyOneCards" "heads" "[LFiftyOneCards$Head;") (by decide +kernel)) (v := .ref (ow_ad Z 5)) (ow_vR hW ow_i0.1 ow_i0.2.1 rfl) dX8_often_64 ?_
        refine lv_iload_n hx hb dX8_often_67 rfl (lv_at hl 1 rfl) ?_
        refine ow_rld (f := fun j => 25 + j) (ct := 0) hx hb hG hW ow_i5 ⟨by decide, by decide⟩ rfl ow_ra5 hf dX8_often_68 (fun h_68 hf hi68 => ?_)
        refine lv_aload_n hx hb dX8_often_69 rfl (lv_at hl 0 rfl) ?_
        refine ow_getV (ci := 8) (C := RX8) (T := TX8) (N := 15) hx hb hts hown hG hW ow_i0 (by decide) rfl hinX8 1 (by decide) (fk := 2) rfl (hts (.fieldLink RX8 16 "FiftyOneCards" "trialRow" "LFiftyOneCards$Row;") (by decide +kernel)) (v := .ref (ow_ad Z 3)) (ow_vR hW ow_i0.1 ow_i0.2.1 rfl) dX8_often_70 ?_
        obtain ⟨r_73, σ_73, hc73, hf⟩ := ow_cl_i hf
        refine ow_calli (va_runV (As := [.ref (ow_ad Z h_68), .ref (ow_ad Z 3)]) (rest := []) ⟨hx, hb, hml, hown, hts⟩ (c_X8_saysOf l Z fu h_68 hi68 3 ow_i3 σ r_73 σ_73 hc73) (cwV 2 hts gX8_often_X8_saysOf rfl rfl rfl (by decide +kernel) ⟨Nat.le_of_ble_eq_true rfl, Nat.le_of_ble_eq_true rfl⟩) (ow_preV hG hW ow_i0 (by decide) rfl) rfl rfl hl.1 rfl (lv_room (Nat.le_of_ble_eq_true rfl)) dX8_often_73 ⟨Nat.zero_le _, Nat.zero_le _⟩) hW (fun H locs hW => ?_)
        refine lv_iload_n hx hb dX8_often_76 rfl (lv_at hl 3 rfl) ?_
        refine lv_icmp_ne (tgt := 83) hx hb dX8_often_77 (by decide) (fun c77 => ?_) (fun c77 => ?_)
        · replace hf := ow_if_f c77 hf
          exact hJ83 (L_X8_often_56 fu fn) ih x1 x2 x3 x4 x5 σ_73 _ _ _ hf hW (lv_sub hl [0, 1, 2, 3, 4, 5] rfl)
        · replace hf := ow_if_t c77 hf
          refine ow_iinc (d := 1) (lv' := fun z => [(4, .int z), (0, .ref (ow_ad Z 0)), (1, .int x1), (2, .int x2), (3, .int x3), (5, .int x5)]) hx hb hf dX8_often_80 hl (k := 4) rfl (by decide) (by decide) (fun z => rfl) (fun x4_80 hf ls hl => ?_)
          exact hJ83 (L_X8_often_56 fu fn) ih x1 x2 x3 x4_80 x5 σ_73 _ _ _ hf hW (lv_sub hl [1, 2, 3, 4, 0, 5] rfl)
  have hl := lv_entry ([.ref (ow_ad Z 0), .int a1, .int a2, .int a3]) (n := 6) (Nat.le_of_ble_eq_true rfl)
  refine W.eq (g2 := F0 m 0 ((lg_sl ([.ref (ow_ad Z 0), .int a1, .int a2, .int a3]) ++ List.replicate (6 - (lg_sl ([.ref (ow_ad Z 0), .int a1, .int a2, .int a3])).length) Slot.unset).toArray) []) (by rw [hav]; exact lg_entry_eq _ _ _) ?_
  generalize (lg_sl ([.ref (ow_ad Z 0), .int a1, .int a2, .int a3]) ++ List.replicate (6 - (lg_sl ([.ref (ow_ad Z 0), .int a1, .int a2, .int a3])).length) Slot.unset).toArray = ls at hl ⊢
  have hl : lv_has ls 6 [(0, .ref (ow_ad Z 0)), (1, .int a1), (2, .int a2), (3, .int a3)] := hl
  unfold f_X8_often at hf
  refine lv_aload_n hx hb dX8_often_0 rfl (lv_at hl 0 rfl) ?_
  refine lv_iload_n hx hb dX8_often_1 rfl (lv_at hl 1 rfl) ?_
  obtain ⟨r_2, σ_2, hc2, hf⟩ := ow_cl_i hf
  refine ow_callz (va_runV (As := [.int a1]) (rest := []) ⟨hx, hb, hml, hown, hts⟩ (c_X8_isHead l Z fu a1 σ r_2 σ_2 hc2) (cwV 1 hts gX8_often_X8_isHead rfl rfl rfl (by decide +kernel) ⟨Nat.le_of_ble_eq_true rfl, Nat.le_of_ble_eq_true rfl⟩) (ow_preV hG hW ow_i0 (by decide) rfl) rfl rfl hl.1 rfl (lv_room (Nat.le_of_ble_eq_true rfl)) dX8_often_2 ⟨Nat.zero_le _, Nat.zero_le _⟩) hW (fun b2 H locs hW => ?_)
  refine lv_if_ne (tgt := 11) hx hb dX8_often_5 (by decide) (fun c5 => ?_) (fun c5 => ?_)
  · replace hf := ow_if_f c5 hf
    refine lv_iload_n hx hb dX8_often_11 rfl (lv_at hl 2 rfl) ?_
    refine lv_iconst (v := 1) hx hb dX8_often_12 (by decide) ?_
    refine lv_icmp_lt (tgt := 36) hx hb dX8_often_13 (by decide) (fun c13 => ?_) (fun c13 => ?_)
    · replace hf := ow_if_t c13 hf
      refine lv_bipush (v := -7) hx hb dX8_often_36 (by decide) ?_
      exact ow_iret hx hb hr hW hf dX8_often_38 hlocks
    · replace hf := ow_if_f c13 hf
      refine lv_iload_n hx hb dX8_often_16 rfl (lv_at hl 2 rfl) ?_
      refine lv_bipush (v := 20) hx hb dX8_often_17 (by decide) ?_
      refine lv_icmp_gt (tgt := 36) hx hb dX8_often_19 (by decide) (fun c19 => ?_) (fun c19 => ?_)
      · replace hf := ow_if_t c19 hf
        refine lv_bipush (v := -7) hx hb dX8_often_36 (by decide) ?_
        exact ow_iret hx hb hr hW hf dX8_often_38 hlocks
      · replace hf := ow_if_f c19 hf
        refine lv_iload_n hx hb dX8_often_22 rfl (lv_at hl 3 rfl) ?_
        refine lv_ldcw (v := -1000000) hx hb hown (hts (.constant RX8 268 (-1000000)) (by decide +kernel)) dX8_often_23 ?_
        refine lv_icmp_lt (tgt := 36) hx hb dX8_often_26 (by decide) (fun c26 => ?_) (fun c26 => ?_)
        · replace hf := ow_if_t c26 hf
          refine lv_bipush (v := -7) hx hb dX8_often_36 (by decide) ?_
          exact ow_iret hx hb hr hW hf dX8_often_38 hlocks
        · replace hf := ow_if_f c26 hf
          refine lv_iload_n hx hb dX8_often_29 rfl (lv_at hl 3 rfl) ?_
          refine lv_ldcw (v := 1000000) hx hb hown (hts (.constant RX8 272 (1000000)) (by decide +kernel)) dX8_often_30 ?_
          refine lv_icmp_le (tgt := 39) hx hb dX8_often_33 (by decide) (fun c33 => ?_) (fun c33 => ?_)
          · replace hf := ow_if_t c33 hf
            refine lv_aload_n hx hb dX8_often_39 rfl (lv_at hl 0 rfl) ?_
            refine ow_getV (ci := 8) (C := RX8) (T := TX8) (N := 15) hx hb hts hown hG hW ow_i0 (by decide) rfl hinX8 1 (by decide) (fk := 2) rfl (hts (.fieldLink RX8 16 "FiftyOneCards" "trialRow" "LFiftyOneCards$Row;") (by decide +kernel)) (v := .ref (ow_ad Z 3)) (ow_vR hW ow_i0.1 ow_i0.2.1 rfl) dX8_often_40 ?_
            refine lv_aload_n hx hb dX8_often_43 rfl (lv_at hl 0 rfl) ?_
            refine ow_getV (ci := 8) (C := RX8) (T := TX8) (N := 15) hx hb hts hown hG hW ow_i0 (by decide) rfl hinX8 0 (by decide) (fk := 2) rfl (hts (.fieldLink RX8 10 "FiftyOneCards" "row" "LFiftyOneCards$Row;") (by decide +kernel)) (v := .ref (ow_ad Z 1)) (ow_vR hW ow_i0.1 ow_i0.2.1 rfl) dX8_often_44 ?_
            obtain ⟨σ_47, hc47, hf⟩ := ow_cv_i hf
            refine ow_callv (va_runVN (As := [.ref (ow_ad Z 1)]) (rest := []) ⟨hx, hb, hml, hown, hts⟩ (c_X4_become l Z fu 3 ow_i3 1 ow_i1 σ_2 σ_47  hc47) ⟨va_cnB (host := "FiftyOneCards") 1 hts ggX8_often_X4_become rfl rfl rfl (ow_nwp hG (.methodLinkNest RX8 250 yX4_become "FiftyOneCards") (by decide +kernel)) (hts (.initialized RX4) (by decide +kernel)) (by decide +kernel) ⟨Nat.le_of_ble_eq_true rfl, Nat.le_of_ble_eq_true rfl⟩, hts (.instanceMethod yX4_become) (by decide +kernel), hts (.selects RX4 yX4_become yX4_become) (by decide +kernel)⟩ (ow_preV hG hW ow_i3 (by decide) rfl) rfl rfl hl.1 rfl (lv_room (Nat.le_of_ble_eq_true rfl)) dX8_often_47 ⟨Nat.zero_le _, Nat.zero_le _⟩) hW (fun H locs hW => ?_)
            refine lv_iconst (v := 0) hx hb dX8_often_50 (by decide) ?_
            refine lv_istore (lv' := [(4, .int (0 : Int32)), (0, .ref (ow_ad Z 0)), (1, .int a1), (2, .int a2), (3, .int a3)]) hx hb dX8_often_51 hl (by decide) rfl (fun ls hl => ?_)
            refine lv_iconst (v := 0) hx hb dX8_often_53 (by decide) ?_
            refine lv_istore (lv' := [(5, .int (0 : Int32)), (4, .int (0 : Int32)), (0, .ref (ow_ad Z 0)), (1, .int a1), (2, .int a2), (3, .int a3)]) hx hb dX8_often_54 hl (by decide) rfl (fun ls hl => ?_)
            exact hJ56 fu a1 a2 a3 (0 : Int32) (0 : Int32) σ_47 _ _ _ hf hW (lv_sub hl [2, 3, 4, 5, 1, 0] rfl)
          · replace hf := ow_if_f c33 hf
            refine lv_bipush (v := -7) hx hb dX8_often_36 (by decide) ?_
            exact ow_iret hx hb hr hW hf dX8_often_38 hlocks
  · replace hf := ow_if_t c5 hf
    refine lv_bipush (v := -5) hx hb dX8_often_8 (by decide) ?_
    exact ow_iret hx hb hr hW hf dX8_often_10 hlocks
set_option maxHeartbeats 40000000 in
set_option maxRecDepth 100000 in
theorem c_X8_who (l : Launch) (Z : ow_Z) (fu : Nat) (a1 : Int32) (σ : ow_S) (rr : Int32) (σr : ow_S) (hf : f_X8_who fu a1 σ = some (rr, σr)) : Met l yX8_who wsX8_who { frames := 8, cells := 0, slots := 0, locals := 228 } (ow_Pc Z 0 56 [.ref (ow_ad Z 0), .int a1] σ) (ow_Qi Z 0 56 rr σr) 0 0 (ow_A Z 0 56) := by
  refine Met.ofW (cc := cX8_who) (maxL := 6) (ret := (some .int)) (by decide) rfl ?_
  intro p e s m args below meth c s₁ B hml hv
  obtain ⟨hav, hB⟩ := hv
  obtain ⟨hG, hW⟩ := ow_begin hB
  have hx := B.exec
  have hb := B.bytes
  have hr := B.returns
  have hts := atoms_spec (ws := wsX8_who) B.pre
  have hown : s.vm.findClass RX8 = some m.cls := findClass_of_methodNamed B.named
  have hlocks := B.notSynchronized
  have hinX8 : ∀ w ∈ wsX80, w ∈ wsX8_who := by decide +kernel
  have hJ53 : ∀ (k19 : Int32 → Int32 → Int32 → Int32 → ow_S → Option (Int32 × ow_S)) (hk19 : ∀ (x1 : Int32) (x2 : Int32) (x3 : Int32) (x4 : Int32) (σ : ow_S) (H : Heap) (locs : List Loc) (ls : Array Slot), k19 x1 x2 x3 x4 σ = some (rr, σr) → ow_Wd Z 0 56 σ s H locs → lv_has ls 6 [(0, .ref (ow_ad Z 0)), (1, .int x1), (2, .int x2), (3, .int x3), (4, .int x4)] → W p l e (headSpec wsX8_who { frames := 8, cells := 0, slots := 0, locals := 228 }).room s m args below meth c H locs 0 0 (MQ below (ow_Qi Z 0 56 rr σr) args s 0 0 (ow_A Z 0 56)) (F0 m 19 ls [])), ∀ (x1 : Int32) (x2 : Int32) (x3 : Int32) (x4 : Int32) (σ : ow_S) (H : Heap) (locs : List Loc) (ls : Array Slot), L_X8_who_53 fu k19 x1 x2 x3 x4 σ = some (rr, σr) → ow_Wd Z 0 56 σ s H locs → lv_has ls 6 [(0, .ref (ow_ad Z 0)), (1, .int x1), (2, .int x2), (3, .int x3), (4, .int x4)] → W p l e (headSpec wsX8_who { frames := 8, cells := 0, slots := 0, locals := 228 }).room s m args below meth c H locs 0 0 (MQ below (ow_Qi Z 0 56 rr σr) args s 0 0 (ow_A Z 0 56)) (F0 m 53 ls []) := by
    intro k19 hk19 x1 x2 x3 x4 σ H locs ls hf hW hl
    unfold L_X8_who_53 at hf
    refine ow_iinc (d := 1) (lv' := fun z => [(4, .int z), (0, .ref (ow_ad Z 0)), (1, .int x1), (2, .int x2), (3, .int x3)]) hx hb hf dX8_who_53 hl (k := 4) rfl (by decide) (by decide) (fun z => rfl) (fun x4_53 hf ls hl => ?_)
    refine lv_goto (tgt := 19) hx hb dX8_who_56 (by decide) ?_
    exact hk19 x1 x2 x3 x4_53 σ _ _ _ hf hW (lv_sub hl [1, 2, 3, 4, 0] rfl)
  have hJ19 : ∀ (fn : Nat), ∀ (x1 : Int32) (x2 : Int32) (x3 : Int32) (x4 : Int32) (σ : ow_S) (H : Heap) (locs : List Loc) (ls : Array Slot), L_X8_who_19 fu fn x1 x2 x3 x4 σ = some (rr, σr) → ow_Wd Z 0 56 σ s H locs → lv_has ls 6 [(0, .ref (ow_ad Z 0)), (1, .int x1), (2, .int x2), (3, .int x3), (4, .int x4)] → W p l e (headSpec wsX8_who { frames := 8, cells := 0, slots := 0, locals := 228 }).room s m args below meth c H locs 0 0 (MQ below (ow_Qi Z 0 56 rr σr) args s 0 0 (ow_A Z 0 56)) (F0 m 19 ls []) := by
    intro fn
    induction fn with
    | zero => intro x1 x2 x3 x4 σ H locs ls hf hW hl; simp [L_X8_who_19] at hf
    | succ fn ih =>
      intro x1 x2 x3 x4 σ H locs ls hf hW hl
      rw [L_X8_who_19] at hf
      refine lv_iload hx hb dX8_who_19 (lv_at hl 4 rfl) ?_
      refine lv_aload_n hx hb dX8_who_21 rfl (lv_at hl 0 rfl) ?_
      refine ow_getV (ci := 8) (C := RX8) (T := TX8) (N := 15) hx hb hts hown hG hW ow_i0 (by decide) rfl hinX8 12 (by decide) (fk := 0) rfl (hts (.fieldLink RX8 78 "FiftyOneCards" "headCount" "I") (by decide +kernel)) (v := .int (σ.1 0 12)) rfl dX8_who_22 ?_
      refine lv_icmp_ge (tgt := 59) hx hb dX8_who_25 (by decide) (fun c25 => ?_) (fun c25 => ?_)
      · replace hf := ow_if_t c25 hf
        refine lv_iload_n hx hb dX8_who_59 rfl (lv_at hl 1 rfl) ?_
        refine lv_if_ne (tgt := 67) hx hb dX8_who_60 (by decide) (fun c60 => ?_) (fun c60 => ?_)
        · replace hf := ow_if_f c60 hf
          refine lv_iload_n hx hb dX8_who_67 rfl (lv_at hl 3 rfl) ?_
          exact ow_iret hx hb hr hW hf dX8_who_68 hlocks
        · replace hf := ow_if_t c60 hf
          refine lv_iload_n hx hb dX8_who_63 rfl (lv_at hl 2 rfl) ?_
          refine lv_goto (tgt := 68) hx hb dX8_who_64 (by decide) ?_
          exact ow_iret hx hb hr hW hf dX8_who_68 hlocks
      · replace hf := ow_if_f c25 hf
        refine lv_aload_n hx hb dX8_who_28 rfl (lv_at hl 0 rfl) ?_
        refine lv_aload_n hx hb dX8_who_29 rfl (lv_at hl 0 rfl) ?_
        refine ow_getV (ci := 8) (C := RX8) (T := TX8) (N := 15) hx hb hts hown hG hW ow_i0 (by decide) rfl hinX8 2 (by decide) (fk := 2) rfl (hts (.fieldLink RX8 21 "FiftyOneCards" "heads" "[LFiftyOneCards$Head;") (by decide +kernel)) (v := .ref (ow_ad Z 5)) (ow_vR hW ow_i0.1 ow_i0.2.1 rfl) dX8_who_30 ?_
        refine lv_iload hx hb dX8_who_33 (lv_at hl 4 rfl) ?_
        refine ow_rld (f := fun j => 25 + j) (ct := 0) hx hb hG hW ow_i5 ⟨by decide, by decide⟩ rfl ow_ra5 hf dX8_who_35 (fun h_35 hf hi35 => ?_)
        obtain ⟨r_36, σ_36, hc36, hf⟩ := ow_cl_i hf
        refine ow_calli (va_runV (As := [.ref (ow_ad Z h_35)]) (rest := []) ⟨hx, hb, hml, hown, hts⟩ (c_X8_countRight l Z fu h_35 hi35 σ r_36 σ_36 hc36) (cwV 1 hts gX8_who_X8_countRight rfl rfl rfl (by decide +kernel) ⟨Nat.le_of_ble_eq_true rfl, Nat.le_of_ble_eq_true rfl⟩) (ow_preV hG hW ow_i0 (by decide) rfl) rfl rfl hl.1 rfl (lv_room (Nat.le_of_ble_eq_true rfl)) dX8_who_36 ⟨Nat.zero_le _, Nat.zero_le _⟩) hW (fun H locs hW => ?_)
        refine lv_istore (lv' := [(5, .int r_36), (0, .ref (ow_ad Z 0)), (1, .int x1), (2, .int x2), (3, .int x3), (4, .int x4)]) hx hb dX8_who_39 hl (by decide) rfl (fun ls hl => ?_)
        refine lv_iload hx hb dX8_who_41 (lv_at hl 0 rfl) ?_
        refine lv_iload_n hx hb dX8_who_43 rfl (lv_at hl 4 rfl) ?_
        refine lv_icmp_le (tgt := 53) hx hb dX8_who_44 (by decide) (fun c44 => ?_) (fun c44 => ?_)
        · replace hf := ow_if_t c44 hf
          exact hJ53 (L_X8_who_19 fu fn) ih x1 x2 x3 x4 σ_36 _ _ _ hf hW (lv_sub hl [1, 2, 3, 4, 5] rfl)
        · replace hf := ow_if_f c44 hf
          refine lv_iload hx hb dX8_who_47 (lv_at hl 0 rfl) ?_
          refine lv_istore_n (lv' := [(3, .int r_36), (5, .int r_36), (0, .ref (ow_ad Z 0)), (1, .int x1), (2, .int x2), (4, .int x4)]) hx hb dX8_who_49 rfl hl (by decide) rfl (fun ls hl => ?_)
          refine lv_iload hx hb dX8_who_50 (lv_at hl 5 rfl) ?_
          refine lv_istore_n (lv' := [(2, .int x4), (3, .int r_36), (5, .int r_36), (0, .ref (ow_ad Z 0)), (1, .int x1), (4, .int x4)]) hx hb dX8_who_52 rfl hl (by decide) rfl (fun ls hl => ?_)
          exact hJ53 (L_X8_who_19 fu fn) ih x1 x4 r_36 x4 σ_36 _ _ _ hf hW (lv_sub hl [3, 4, 0, 1, 5] rfl)
  have hl := lv_entry ([.ref (ow_ad Z 0), .int a1]) (n := 6) (Nat.le_of_ble_eq_true rfl)
  refine W.eq (g2 := F0 m 0 ((lg_sl ([.ref (ow_ad Z 0), .int a1]) ++ List.replicate (6 - (lg_sl ([.ref (ow_ad Z 0), .int a1])).length) Slot.unset).toArray) []) (by rw [hav]; exact lg_entry_eq _ _ _) ?_
  generalize (lg_sl ([.ref (ow_ad Z 0), .int a1]) ++ List.replicate (6 - (lg_sl ([.ref (ow_ad Z 0), .int a1])).length) Slot.unset).toArray = ls at hl ⊢
  have hl : lv_has ls 6 [(0, .ref (ow_ad Z 0)), (1, .int a1)] := hl
  unfold f_X8_who at hf
  refine lv_iload_n hx hb dX8_who_0 rfl (lv_at hl 1 rfl) ?_
  refine lv_if_lt (tgt := 9) hx hb dX8_who_1 (by decide) (fun c1 => ?_) (fun c1 => ?_)
  · replace hf := ow_if_t c1 hf
    refine lv_bipush (v := -2) hx hb dX8_who_9 (by decide) ?_
    exact ow_iret hx hb hr hW hf dX8_who_11 hlocks
  · replace hf := ow_if_f c1 hf
    refine lv_iload_n hx hb dX8_who_4 rfl (lv_at hl 1 rfl) ?_
    refine lv_iconst (v := 1) hx hb dX8_who_5 (by decide) ?_
    refine lv_icmp_le (tgt := 12) hx hb dX8_who_6 (by decide) (fun c6 => ?_) (fun c6 => ?_)
    · replace hf := ow_if_t c6 hf
      refine lv_iconst (v := -1) hx hb dX8_who_12 (by decide) ?_
      refine lv_istore_n (lv' := [(2, .int (-1 : Int32)), (0, .ref (ow_ad Z 0)), (1, .int a1)]) hx hb dX8_who_13 rfl hl (by decide) rfl (fun ls hl => ?_)
      refine lv_iconst (v := -1) hx hb dX8_who_14 (by decide) ?_
      refine lv_istore_n (lv' := [(3, .int (-1 : Int32)), (2, .int (-1 : Int32)), (0, .ref (ow_ad Z 0)), (1, .int a1)]) hx hb dX8_who_15 rfl hl (by decide) rfl (fun ls hl => ?_)
      refine lv_iconst (v := 0) hx hb dX8_who_16 (by decide) ?_
      refine lv_istore (lv' := [(4, .int (0 : Int32)), (3, .int (-1 : Int32)), (2, .int (-1 : Int32)), (0, .ref (ow_ad Z 0)), (1, .int a1)]) hx hb dX8_who_17 hl (by decide) rfl (fun ls hl => ?_)
      exact hJ19 fu a1 (-1 : Int32) (-1 : Int32) (0 : Int32) σ _ _ _ hf hW (lv_sub hl [3, 4, 2, 1, 0] rfl)
    · replace hf := ow_if_f c6 hf
      refine lv_bipush (v := -2) hx hb dX8_who_9 (by decide) ?_
      exact ow_iret hx hb hr hW hf dX8_who_11 hlocks
set_option maxHeartbeats 40000000 in
set_option maxRecDepth 100000 in
theorem c_X8_isSheet (l : Launch) (Z : ow_Z) (fu : Nat) (a1 : Int32) (σ : ow_S) (rr : Int32) (σr : ow_S) (hf : f_X8_isSheet fu a1 σ = some (rr, σr)) : Met l yX8_isSheet wsX8_isSheet { frames := 1, cells := 0, slots := 0, locals := 60 } (ow_Pc Z 0 56 [.int a1] σ) (ow_Qz Z 0 56 rr σr) 0 0 (ow_A Z 0 56) := by
  refine Met.ofW (cc := cX8_isSheet) (maxL := 1) (ret := (some .boolean)) (by decide) rfl ?_
  intro p e s m args below meth c s₁ B hml hv
  obtain ⟨hav, hB⟩ := hv
  obtain ⟨hG, hW⟩ := ow_begin hB
  have hx := B.exec
  have hb := B.bytes
  have hr := B.returns
  have hts := atoms_spec (ws := wsX8_isSheet) B.pre
  have hown : s.vm.findClass RX8 = some m.cls := findClass_of_methodNamed B.named
  have hlocks := B.notSynchronized
  have hl := lv_entry ([.int a1]) (n := 1) (Nat.le_of_ble_eq_true rfl)
  refine W.eq (g2 := F0 m 0 ((lg_sl ([.int a1]) ++ List.replicate (1 - (lg_sl ([.int a1])).length) Slot.unset).toArray) []) (by rw [hav]; exact lg_entry_eq _ _ _) ?_
  generalize (lg_sl ([.int a1]) ++ List.replicate (1 - (lg_sl ([.int a1])).length) Slot.unset).toArray = ls at hl ⊢
  have hl : lv_has ls 1 [(0, .int a1)] := hl
  unfold f_X8_isSheet at hf
  refine lv_iload_n hx hb dX8_isSheet_0 rfl (lv_at hl 0 rfl) ?_
  refine lv_if_lt (tgt := 13) hx hb dX8_isSheet_1 (by decide) (fun c1 => ?_) (fun c1 => ?_)
  · replace hf := ow_if_t c1 hf
    refine lv_iconst (v := 0) hx hb dX8_isSheet_13 (by decide) ?_
    exact ow_zret hx hb hr (Or.inl rfl) hW hf dX8_isSheet_14 hlocks
  · replace hf := ow_if_f c1 hf
    refine lv_iload_n hx hb dX8_isSheet_4 rfl (lv_at hl 0 rfl) ?_
    refine lv_iconst (v := 4) hx hb dX8_isSheet_5 (by decide) ?_
    refine lv_icmp_ge (tgt := 13) hx hb dX8_isSheet_6 (by decide) (fun c6 => ?_) (fun c6 => ?_)
    · replace hf := ow_if_t c6 hf
      refine lv_iconst (v := 0) hx hb dX8_isSheet_13 (by decide) ?_
      exact ow_zret hx hb hr (Or.inl rfl) hW hf dX8_isSheet_14 hlocks
    · replace hf := ow_if_f c6 hf
      refine lv_iconst (v := 1) hx hb dX8_isSheet_9 (by decide) ?_
      refine lv_goto (tgt := 14) hx hb dX8_isSheet_10 (by decide) ?_
      exact ow_zret hx hb hr (Or.inr rfl) hW hf dX8_isSheet_14 hlocks
set_option maxHeartbeats 40000000 in
set_option maxRecDepth 100000 in
theorem c_X8_refusalOfSheet (l : Launch) (Z : ow_Z) (fu : Nat) (a1 : Int32) (σ : ow_S) (rr : Int32) (σr : ow_S) (hf : f_X8_refusalOfSheet fu a1 σ = some (rr, σr)) : Met l yX8_refusalOfSheet wsX8_refusalOfSheet { frames := 2, cells := 0, slots := 0, locals := 80 } (ow_Pc Z 0 56 [.ref (ow_ad Z 0), .int a1] σ) (ow_Qi Z 0 56 rr σr) 0 0 (ow_A Z 0 56) := by
  refine Met.ofW (cc := cX8_refusalOfSheet) (maxL := 2) (ret := (some .int)) (by decide) rfl ?_
  intro p e s m args below meth c s₁ B hml hv
  obtain ⟨hav, hB⟩ := hv
  obtain ⟨hG, hW⟩ := ow_begin hB
  have hx := B.exec
  have hb := B.bytes
  have hr := B.returns
  have hts := atoms_spec (ws := wsX8_refusalOfSheet) B.pre
  have hown : s.vm.findClass RX8 = some m.cls := findClass_of_methodNamed B.named
  have hlocks := B.notSynchronized
  have hinX5 : ∀ w ∈ wsX50, w ∈ wsX8_refusalOfSheet := by decide +kernel
  have hinX8 : ∀ w ∈ wsX80, w ∈ wsX8_refusalOfSheet := by decide +kernel
  have hl := lv_entry ([.ref (ow_ad Z 0), .int a1]) (n := 2) (Nat.le_of_ble_eq_true rfl)
  refine W.eq (g2 := F0 m 0 ((lg_sl ([.ref (ow_ad Z 0), .int a1]) ++ List.replicate (2 - (lg_sl ([.ref (ow_ad Z 0), .int a1])).length) Slot.unset).toArray) []) (by rw [hav]; exact lg_entry_eq _ _ _) ?_
  generalize (lg_sl ([.ref (ow_ad Z 0), .int a1]) ++ List.replicate (2 - (lg_sl ([.ref (ow_ad Z 0), .int a1])).length) Slot.unset).toArray = ls at hl ⊢
  have hl : lv_has ls 2 [(0, .ref (ow_ad Z 0)), (1, .int a1)] := hl
  unfold f_X8_refusalOfSheet at hf
  refine lv_iload_n hx hb dX8_refusalOfSheet_0 rfl (lv_at hl 1 rfl) ?_
  obtain ⟨r_1, σ_1, hc1, hf⟩ := ow_cl_i hf
  refine ow_callz (va_runS (As := [.int a1]) (rest := []) ⟨hx, hb, hml, hown, hts⟩ (c_X8_isSheet l Z fu a1 σ r_1 σ_1 hc1) (va_cwS 1 hts gX8_refusalOfSheet_X8_isSheet rfl rfl rfl (by decide +kernel) ⟨Nat.le_of_ble_eq_true rfl, Nat.le_of_ble_eq_true rfl⟩) (ow_preS hG hW) rfl rfl hl.1 rfl (lv_room (Nat.le_of_ble_eq_true rfl)) dX8_refusalOfSheet_1 ⟨Nat.zero_le _, Nat.zero_le _⟩) hW (fun b1 H locs hW => ?_)
  refine lv_if_ne (tgt := 10) hx hb dX8_refusalOfSheet_4 (by decide) (fun c4 => ?_) (fun c4 => ?_)
  · replace hf := ow_if_f c4 hf
    refine lv_aload_n hx hb dX8_refusalOfSheet_10 rfl (lv_at hl 0 rfl) ?_
    refine ow_getV (ci := 8) (C := RX8) (T := TX8) (N := 15) hx hb hts hown hG hW ow_i0 (by decide) rfl hinX8 9 (by decide) (fk := 2) rfl (hts (.fieldLink RX8 63 "FiftyOneCards" "sheets" "[LFiftyOneCards$Sheet;") (by decide +kernel)) (v := .ref (ow_ad Z 15)) (ow_vR hW ow_i0.1 ow_i0.2.1 rfl) dX8_refusalOfSheet_11 ?_
    refine lv_iload_n hx hb dX8_refusalOfSheet_14 rfl (lv_at hl 1 rfl) ?_
    refine ow_rld (f := fun j => 48 + 2 * j) (ct := 5) hx hb hG hW ow_i15 ⟨by decide, by decide⟩ rfl ow_ra15 hf dX8_refusalOfSheet_15 (fun h_15 hf hi15 => ?_)
    obtain ⟨r_16, σ_16, hc16, hf⟩ := ow_cl_i hf
    refine ow_callz (va_runVN (As := []) (rest := []) ⟨hx, hb, hml, hown, hts⟩ (c_X5_isMissing l Z fu h_15 hi15 σ_1 r_16 σ_16 hc16) ⟨va_cnB (host := "FiftyOneCards") 0 hts ggX8_refusalOfSheet_X5_isMissing rfl rfl rfl (ow_nwp hG (.methodLinkNest RX8 309 yX5_isMissing "FiftyOneCards") (by decide +kernel)) (hts (.initialized RX5) (by decide +kernel)) (by decide +kernel) ⟨Nat.le_of_ble_eq_true rfl, Nat.le_of_ble_eq_true rfl⟩, hts (.instanceMethod yX5_isMissing) (by decide +kernel), hts (.selects RX5 yX5_isMissing yX5_isMissing) (by decide +kernel)⟩ (ow_preV hG hW hi15 (by decide) rfl) rfl rfl hl.1 rfl (lv_room (Nat.le_of_ble_eq_true rfl)) dX8_refusalOfSheet_16 ⟨Nat.zero_le _, Nat.zero_le _⟩) hW (fun b16 H locs hW => ?_)
    refine lv_if_eq (tgt := 25) hx hb dX8_refusalOfSheet_19 (by decide) (fun c19 => ?_) (fun c19 => ?_)
    · replace hf := ow_if_t c19 hf
      refine lv_aload_n hx hb dX8_refusalOfSheet_25 rfl (lv_at hl 0 rfl) ?_
      refine ow_getV (ci := 8) (C := RX8) (T := TX8) (N := 15) hx hb hts hown hG hW ow_i0 (by decide) rfl hinX8 9 (by decide) (fk := 2) rfl (hts (.fieldLink RX8 63 "FiftyOneCards" "sheets" "[LFiftyOneCards$Sheet;") (by decide +kernel)) (v := .ref (ow_ad Z 15)) (ow_vR hW ow_i0.1 ow_i0.2.1 rfl) dX8_refusalOfSheet_26 ?_
      refine lv_iload_n hx hb dX8_refusalOfSheet_29 rfl (lv_at hl 1 rfl) ?_
      refine ow_rld (f := fun j => 48 + 2 * j) (ct := 5) hx hb hG hW ow_i15 ⟨by decide, by decide⟩ rfl ow_ra15 hf dX8_refusalOfSheet_30 (fun h_30 hf hi30 => ?_)
      refine ow_getVN (ci := 5) (C := RX5) (T := TX5) (N := 3) hx hb hts hown hG hW hi30 (by decide) rfl hinX5 2 (by decide) (fk := 0) rfl (ow_nwp hG (.fieldLinkNest RX8 352 "FiftyOneCards$Sheet" "size" "I" "FiftyOneCards") (by decide +kernel)) (v := .int (σ_16.1 h_30 2)) rfl dX8_refusalOfSheet_31 ?_
      refine lv_aload_n hx hb dX8_refusalOfSheet_34 rfl (lv_at hl 0 rfl) ?_
      refine ow_getV (ci := 8) (C := RX8) (T := TX8) (N := 15) hx hb hts hown hG hW ow_i0 (by decide) rfl hinX8 11 (by decide) (fk := 0) rfl (hts (.fieldLink RX8 74 "FiftyOneCards" "pack" "I") (by decide +kernel)) (v := .int (σ_16.1 0 11)) rfl dX8_refusalOfSheet_35 ?_
      refine lv_icmp_le (tgt := 46) hx hb dX8_refusalOfSheet_38 (by decide) (fun c38 => ?_) (fun c38 => ?_)
      · replace hf := ow_if_t c38 hf
        refine lv_iconst (v := 0) hx hb dX8_refusalOfSheet_46 (by decide) ?_
        exact ow_iret hx hb hr hW hf dX8_refusalOfSheet_47 hlocks
      · replace hf := ow_if_f c38 hf
        refine lv_bipush (v := -2) hx hb dX8_refusalOfSheet_41 (by decide) ?_
        refine lv_goto (tgt := 47) hx hb dX8_refusalOfSheet_43 (by decide) ?_
        exact ow_iret hx hb hr hW hf dX8_refusalOfSheet_47 hlocks
    · replace hf := ow_if_f c19 hf
      refine lv_bipush (v := -11) hx hb dX8_refusalOfSheet_22 (by decide) ?_
      exact ow_iret hx hb hr hW hf dX8_refusalOfSheet_24 hlocks
  · replace hf := ow_if_t c4 hf
    refine lv_bipush (v := -2) hx hb dX8_refusalOfSheet_7 (by decide) ?_
    exact ow_iret hx hb hr hW hf dX8_refusalOfSheet_9 hlocks
set_option maxHeartbeats 40000000 in
set_option maxRecDepth 100000 in
theorem c_X8_refusalOfSayings (l : Launch) (Z : ow_Z) (fu : Nat) (a1 : Int32) (a2 : Int32) (σ : ow_S) (rr : Int32) (σr : ow_S) (hf : f_X8_refusalOfSayings fu a1 a2 σ = some (rr, σr)) : Met l yX8_refusalOfSayings wsX8_refusalOfSayings { frames := 3, cells := 0, slots := 0, locals := 101 } (ow_Pc Z 0 56 [.ref (ow_ad Z 0), .int a1, .int a2] σ) (ow_Qi Z 0 56 rr σr) 0 0 (ow_A Z 0 56) := by
  refine Met.ofW (cc := cX8_refusalOfSayings) (maxL := 4) (ret := (some .int)) (by decide) rfl ?_
  intro p e s m args below meth c s₁ B hml hv
  obtain ⟨hav, hB⟩ := hv
  obtain ⟨hG, hW⟩ := ow_begin hB
  have hx := B.exec
  have hb := B.bytes
  have hr := B.returns
  have hts := atoms_spec (ws := wsX8_refusalOfSayings) B.pre
  have hown : s.vm.findClass RX8 = some m.cls := findClass_of_methodNamed B.named
  have hlocks := B.notSynchronized
  have hl := lv_entry ([.ref (ow_ad Z 0), .int a1, .int a2]) (n := 4) (Nat.le_of_ble_eq_true rfl)
  refine W.eq (g2 := F0 m 0 ((lg_sl ([.ref (ow_ad Z 0), .int a1, .int a2]) ++ List.replicate (4 - (lg_sl ([.ref (ow_ad Z 0), .int a1, .int a2])).length) Slot.unset).toArray) []) (by rw [hav]; exact lg_entry_eq _ _ _) ?_
  generalize (lg_sl ([.ref (ow_ad Z 0), .int a1, .int a2]) ++ List.replicate (4 - (lg_sl ([.ref (ow_ad Z 0), .int a1, .int a2])).length) Slot.unset).toArray = ls at hl ⊢
  have hl : lv_has ls 4 [(0, .ref (ow_ad Z 0)), (1, .int a1), (2, .int a2)] := hl
  unfold f_X8_refusalOfSayings at hf
  refine lv_aload_n hx hb dX8_refusalOfSayings_0 rfl (lv_at hl 0 rfl) ?_
  refine lv_iload_n hx hb dX8_refusalOfSayings_1 rfl (lv_at hl 1 rfl) ?_
  obtain ⟨r_2, σ_2, hc2, hf⟩ := ow_cl_i hf
  refine ow_calli (va_runV (As := [.int a1]) (rest := []) ⟨hx, hb, hml, hown, hts⟩ (c_X8_refusalOfSheet l Z fu a1 σ r_2 σ_2 hc2) (cwV 1 hts gX8_refusalOfSayings_X8_refusalOfSheet rfl rfl rfl (by decide +kernel) ⟨Nat.le_of_ble_eq_true rfl, Nat.le_of_ble_eq_true rfl⟩) (ow_preV hG hW ow_i0 (by decide) rfl) rfl rfl hl.1 rfl (lv_room (Nat.le_of_ble_eq_true rfl)) dX8_refusalOfSayings_2 ⟨Nat.zero_le _, Nat.zero_le _⟩) hW (fun H locs hW => ?_)
  refine lv_istore_n (lv' := [(3, .int r_2), (0, .ref (ow_ad Z 0)), (1, .int a1), (2, .int a2)]) hx hb dX8_refusalOfSayings_5 rfl hl (by decide) rfl (fun ls hl => ?_)
  refine lv_iload_n hx hb dX8_refusalOfSayings_6 rfl (lv_at hl 0 rfl) ?_
  refine lv_if_eq (tgt := 12) hx hb dX8_refusalOfSayings_7 (by decide) (fun c7 => ?_) (fun c7 => ?_)
  · replace hf := ow_if_t c7 hf
    refine lv_aload_n hx hb dX8_refusalOfSayings_12 rfl (lv_at hl 1 rfl) ?_
    refine lv_iload_n hx hb dX8_refusalOfSayings_13 rfl (lv_at hl 3 rfl) ?_
    obtain ⟨r_14, σ_14, hc14, hf⟩ := ow_cl_i hf
    refine ow_callz (va_runV (As := [.int a2]) (rest := []) ⟨hx, hb, hml, hown, hts⟩ (c_X8_isHead l Z fu a2 σ_2 r_14 σ_14 hc14) (cwV 1 hts gX8_refusalOfSayings_X8_isHead rfl rfl rfl (by decide +kernel) ⟨Nat.le_of_ble_eq_true rfl, Nat.le_of_ble_eq_true rfl⟩) (ow_preV hG hW ow_i0 (by decide) rfl) rfl rfl hl.1 rfl (lv_room (Nat.le_of_ble_eq_true rfl)) dX8_refusalOfSayings_14 ⟨Nat.zero_le _, Nat.zero_le _⟩) hW (fun b14 H locs hW => ?_)
    refine lv_if_eq (tgt := 24) hx hb dX8_refusalOfSayings_17 (by decide) (fun c17 => ?_) (fun c17 => ?_)
    · replace hf := ow_if_t c17 hf
      refine lv_bipush (v := -5) hx hb dX8_refusalOfSayings_24 (by decide) ?_
      exact ow_iret hx hb hr hW hf dX8_refusalOfSayings_26 hlocks
    · replace hf := ow_if_f c17 hf
      refine lv_iconst (v := 0) hx hb dX8_refusalOfSayings_20 (by decide) ?_
      refine lv_goto (tgt := 26) hx hb dX8_refusalOfSayings_21 (by decide) ?_
      exact ow_iret hx hb hr hW hf dX8_refusalOfSayings_26 hlocks
  · replace hf := ow_if_f c7 hf
    refine lv_iload_n hx hb dX8_refusalOfSayings_10 rfl (lv_at hl 0 rfl) ?_
    exact ow_iret hx hb hr hW hf dX8_refusalOfSayings_11 hlocks
set_option maxHeartbeats 40000000 in
set_option maxRecDepth 100000 in
theorem c_X8_firstUnlike (l : Launch) (Z : ow_Z) (fu : Nat) (a1 : Nat) (ha1 : ow_in 0 56 a1 5) (a2 : Nat) (ha2 : ow_in 0 56 a2 0) (a3 : Nat) (ha3 : ow_in 0 56 a3 6) (σ : ow_S) (rr : Int32) (σr : ow_S) (hf : f_X8_firstUnlike fu a1 a2 a3 σ = some (rr, σr)) : Met l yX8_firstUnlike wsX8_firstUnlike { frames := 7, cells := 0, slots := 0, locals := 205 } (ow_Pc Z 0 56 [.ref (ow_ad Z 0), .ref (ow_ad Z a1), .ref (ow_ad Z a2), .ref (ow_ad Z a3)] σ) (ow_Qi Z 0 56 rr σr) 0 0 (ow_A Z 0 56) := by
  refine Met.ofW (cc := cX8_firstUnlike) (maxL := 5) (ret := (some .int)) (by decide) rfl ?_
  intro p e s m args below meth c s₁ B hml hv
  obtain ⟨hav, hB⟩ := hv
  obtain ⟨hG, hW⟩ := ow_begin hB
  have hx := B.exec
  have hb := B.bytes
  have hr := B.returns
  have hts := atoms_spec (ws := wsX8_firstUnlike) B.pre
  have hown : s.vm.findClass RX8 = some m.cls := findClass_of_methodNamed B.named
  have hlocks := B.notSynchronized
  have hinX5 : ∀ w ∈ wsX50, w ∈ wsX8_firstUnlike := by decide +kernel
  have hJ3 : ∀ (fn : Nat), ∀ (r1 : Nat) (hr1 : ow_in 0 56 r1 5) (r2 : Nat) (hr2 : ow_in 0 56 r2 0) (r3 : Nat) (hr3 : ow_in 0 56 r3 6) (x4 : Int32) (σ : ow_S) (H : Heap) (locs : List Loc) (ls : Array Slot), L_X8_firstUnlike_3 fu fn r1 r2 r3 x4 σ = some (rr, σr) → ow_Wd Z 0 56 σ s H locs → lv_has ls 5 [(0, .ref (ow_ad Z 0)), (1, .ref (ow_ad Z r1)), (2, .ref (ow_ad Z r2)), (3, .ref (ow_ad Z r3)), (4, .int x4)] → W p l e (headSpec wsX8_firstUnlike { frames := 7, cells := 0, slots := 0, locals := 205 }).room s m args below meth c H locs 0 0 (MQ below (ow_Qi Z 0 56 rr σr) args s 0 0 (ow_A Z 0 56)) (F0 m 3 ls []) := by
    intro fn
    induction fn with
    | zero => intro r1 hr1 r2 hr2 r3 hr3 x4 σ H locs ls hf hW hl; simp [L_X8_firstUnlike_3] at hf
    | succ fn ih =>
      intro r1 hr1 r2 hr2 r3 hr3 x4 σ H locs ls hf hW hl
      rw [L_X8_firstUnlike_3] at hf
      refine lv_iload hx hb dX8_firstUnlike_3 (lv_at hl 4 rfl) ?_
      refine lv_aload_n hx hb dX8_firstUnlike_5 rfl (lv_at hl 1 rfl) ?_
      refine ow_getVN (ci := 5) (C := RX5) (T := TX5) (N := 3) hx hb hts hown hG hW hr1 (by decide) rfl hinX5 2 (by decide) (fk := 0) rfl (ow_nwp hG (.fieldLinkNest RX8 352 "FiftyOneCards$Sheet" "size" "I" "FiftyOneCards") (by decide +kernel)) (v := .int (σ.1 r1 2)) rfl dX8_firstUnlike_6 ?_
      refine lv_icmp_ge (tgt := 42) hx hb dX8_firstUnlike_9 (by decide) (fun c9 => ?_) (fun c9 => ?_)
      · replace hf := ow_if_t c9 hf
        refine lv_iconst (v := -1) hx hb dX8_firstUnlike_42 (by decide) ?_
        exact ow_iret hx hb hr hW hf dX8_firstUnlike_43 hlocks
      · replace hf := ow_if_f c9 hf
        refine lv_aload_n hx hb dX8_firstUnlike_12 rfl (lv_at hl 0 rfl) ?_
        refine lv_iload hx hb dX8_firstUnlike_13 (lv_at hl 4 rfl) ?_
        refine lv_iconst (v := 1) hx hb dX8_firstUnlike_15 (by decide) ?_
        refine lv_iadd hx hb dX8_firstUnlike_16 ?_
        refine lv_iconst (v := 0) hx hb dX8_firstUnlike_17 (by decide) ?_
        refine lv_aload_n hx hb dX8_firstUnlike_18 rfl (lv_at hl 2 rfl) ?_
        refine lv_aload_n hx hb dX8_firstUnlike_19 rfl (lv_at hl 3 rfl) ?_
        obtain ⟨r_20, σ_20, hc20, hf⟩ := ow_cl_i hf
        refine ow_calli (va_runV (As := [.int (x4 + (1 : Int32)), .int (0 : Int32), .ref (ow_ad Z r2), .ref (ow_ad Z r3)]) (rest := []) ⟨hx, hb, hml, hown, hts⟩ (c_X8_saysBut l Z fu (x4 + (1 : Int32)) (0 : Int32) r2 hr2 r3 hr3 σ r_20 σ_20 hc20) (cwV 4 hts gX8_firstUnlike_X8_saysBut rfl rfl rfl (by decide +kernel) ⟨Nat.le_of_ble_eq_true rfl, Nat.le_of_ble_eq_true rfl⟩) (ow_preV hG hW ow_i0 (by decide) rfl) rfl rfl hl.1 rfl (lv_room (Nat.le_of_ble_eq_true rfl)) dX8_firstUnlike_20 ⟨Nat.zero_le _, Nat.zero_le _⟩) hW (fun H locs hW => ?_)
        refine lv_aload_n hx hb dX8_firstUnlike_23 rfl (lv_at hl 1 rfl) ?_
        refine ow_getVN (ci := 5) (C := RX5) (T := TX5) (N := 3) hx hb hts hown hG hW hr1 (by decide) rfl hinX5 0 (by decide) (fk := 2) rfl (ow_nwp hG (.fieldLinkNest RX8 321 "FiftyOneCards$Sheet" "cells" "[I" "FiftyOneCards") (by decide +kernel)) (v := .ref (ow_ad Z (r1 + 1))) (ow_vR hW hr1.1 hr1.2.1 (ow_she hr1).1) dX8_firstUnlike_24 ?_
        refine lv_iload hx hb dX8_firstUnlike_27 (lv_at hl 4 rfl) ?_
        obtain ⟨q29, hf⟩ := ow_ck_i hf
        refine ow_ild (q := x4.toNatClampNeg) hx hb hG hW (ow_she hr1).2.1 (ow_she hr1).2.2 q29 rfl dX8_firstUnlike_29 ?_
        refine lv_icmp_eq (tgt := 36) hx hb dX8_firstUnlike_30 (by decide) (fun c30 => ?_) (fun c30 => ?_)
        · replace hf := ow_if_t c30 hf
          refine ow_iinc (d := 1) (lv' := fun z => [(4, .int z), (0, .ref (ow_ad Z 0)), (1, .ref (ow_ad Z r1)), (2, .ref (ow_ad Z r2)), (3, .ref (ow_ad Z r3))]) hx hb hf dX8_firstUnlike_36 hl (k := 4) rfl (by decide) (by decide) (fun z => rfl) (fun x4_36 hf ls hl => ?_)
          refine lv_goto (tgt := 3) hx hb dX8_firstUnlike_39 (by decide) ?_
          exact ih r1 hr1 r2 hr2 r3 hr3 x4_36 σ_20 _ _ _ hf hW (lv_sub hl [1, 2, 3, 4, 0] rfl)
        · replace hf := ow_if_f c30 hf
          refine lv_iload hx hb dX8_firstUnlike_33 (lv_at hl 4 rfl) ?_
          exact ow_iret hx hb hr hW hf dX8_firstUnlike_35 hlocks
  have hl := lv_entry ([.ref (ow_ad Z 0), .ref (ow_ad Z a1), .ref (ow_ad Z a2), .ref (ow_ad Z a3)]) (n := 5) (Nat.le_of_ble_eq_true rfl)
  refine W.eq (g2 := F0 m 0 ((lg_sl ([.ref (ow_ad Z 0), .ref (ow_ad Z a1), .ref (ow_ad Z a2), .ref (ow_ad Z a3)]) ++ List.replicate (5 - (lg_sl ([.ref (ow_ad Z 0), .ref (ow_ad Z a1), .ref (ow_ad Z a2), .ref (ow_ad Z a3)])).length) Slot.unset).toArray) []) (by rw [hav]; exact lg_entry_eq _ _ _) ?_
  generalize (lg_sl ([.ref (ow_ad Z 0), .ref (ow_ad Z a1), .ref (ow_ad Z a2), .ref (ow_ad Z a3)]) ++ List.replicate (5 - (lg_sl ([.ref (ow_ad Z 0), .ref (ow_ad Z a1), .ref (ow_ad Z a2), .ref (ow_ad Z a3)])).length) Slot.unset).toArray = ls at hl ⊢
  have hl : lv_has ls 5 [(0, .ref (ow_ad Z 0)), (1, .ref (ow_ad Z a1)), (2, .ref (ow_ad Z a2)), (3, .ref (ow_ad Z a3))] := hl
  unfold f_X8_firstUnlike at hf
  refine lv_iconst (v := 0) hx hb dX8_firstUnlike_0 (by decide) ?_
  refine lv_istore (lv' := [(4, .int (0 : Int32)), (0, .ref (ow_ad Z 0)), (1, .ref (ow_ad Z a1)), (2, .ref (ow_ad Z a2)), (3, .ref (ow_ad Z a3))]) hx hb dX8_firstUnlike_1 hl (by decide) rfl (fun ls hl => ?_)
  exact hJ3 fu a1 ha1 a2 ha2 a3 ha3 (0 : Int32) σ _ _ _ hf hW (lv_sub hl [1, 2, 3, 4, 0] rfl)
set_option maxHeartbeats 40000000 in
set_option maxRecDepth 100000 in
theorem c_X8_judge (l : Launch) (Z : ow_Z) (fu : Nat) (a1 : Int32) (a2 : Int32) (σ : ow_S) (rr : Int32) (σr : ow_S) (hf : f_X8_judge fu a1 a2 σ = some (rr, σr)) : Met l yX8_judge wsX8_judge { frames := 8, cells := 0, slots := 0, locals := 229 } (ow_Pc Z 0 56 [.ref (ow_ad Z 0), .int a1, .int a2] σ) (ow_Qi Z 0 56 rr σr) 0 0 (ow_A Z 0 56) := by
  refine Met.ofW (cc := cX8_judge) (maxL := 4) (ret := (some .int)) (by decide) rfl ?_
  intro p e s m args below meth c s₁ B hml hv
  obtain ⟨hav, hB⟩ := hv
  obtain ⟨hG, hW⟩ := ow_begin hB
  have hx := B.exec
  have hb := B.bytes
  have hr := B.returns
  have hts := atoms_spec (ws := wsX8_judge) B.pre
  have hown : s.vm.findClass RX8 = some m.cls := findClass_of_methodNamed B.named
  have hlocks := B.notSynchronized
  have hinX8 : ∀ w ∈ wsX80, w ∈ wsX8_judge := by decide +kernel
  have hl := lv_entry ([.ref (ow_ad Z 0), .int a1, .int a2]) (n := 4) (Nat.le_of_ble_eq_true rfl)
  refine W.eq (g2 := F0 m 0 ((lg_sl ([.ref (ow_ad Z 0), .int a1, .int a2]) ++ List.replicate (4 - (lg_sl ([.ref (ow_ad Z 0), .int a1, .int a2])).length) Slot.unset).toArray) []) (by rw [hav]; exact lg_entry_eq _ _ _) ?_
  generalize (lg_sl ([.ref (ow_ad Z 0), .int a1, .int a2]) ++ List.replicate (4 - (lg_sl ([.ref (ow_ad Z 0), .int a1, .int a2])).length) Slot.unset).toArray = ls at hl ⊢
  have hl : lv_has ls 4 [(0, .ref (ow_ad Z 0)), (1, .int a1), (2, .int a2)] := hl
  unfold f_X8_judge at hf
  refine lv_aload_n hx hb dX8_judge_0 rfl (lv_at hl 0 rfl) ?_
  refine lv_iload_n hx hb dX8_judge_1 rfl (lv_at hl 1 rfl) ?_
  refine lv_iload_n hx hb dX8_judge_2 rfl (lv_at hl 2 rfl) ?_
  obtain ⟨r_3, σ_3, hc3, hf⟩ := ow_cl_i hf
  refine ow_calli (va_runV (As := [.int a1, .int a2]) (rest := []) ⟨hx, hb, hml, hown, hts⟩ (c_X8_refusalOfSayings l Z fu a1 a2 σ r_3 σ_3 hc3) (cwV 2 hts gX8_judge_X8_refusalOfSayings rfl rfl rfl (by decide +kernel) ⟨Nat.le_of_ble_eq_true rfl, Nat.le_of_ble_eq_true rfl⟩) (ow_preV hG hW ow_i0 (by decide) rfl) rfl rfl hl.1 rfl (lv_room (Nat.le_of_ble_eq_true rfl)) dX8_judge_3 ⟨Nat.zero_le _, Nat.zero_le _⟩) hW (fun H locs hW => ?_)
  refine lv_istore_n (lv' := [(3, .int r_3), (0, .ref (ow_ad Z 0)), (1, .int a1), (2, .int a2)]) hx hb dX8_judge_6 rfl hl (by decide) rfl (fun ls hl => ?_)
  refine lv_iload_n hx hb dX8_judge_7 rfl (lv_at hl 0 rfl) ?_
  refine lv_if_eq (tgt := 15) hx hb dX8_judge_8 (by decide) (fun c8 => ?_) (fun c8 => ?_)
  · replace hf := ow_if_t c8 hf
    refine lv_aload_n hx hb dX8_judge_15 rfl (lv_at hl 1 rfl) ?_
    refine lv_aload_n hx hb dX8_judge_16 rfl (lv_at hl 1 rfl) ?_
    refine ow_getV (ci := 8) (C := RX8) (T := TX8) (N := 15) hx hb hts hown hG hW ow_i0 (by decide) rfl hinX8 9 (by decide) (fk := 2) rfl (hts (.fieldLink RX8 63 "FiftyOneCards" "sheets" "[LFiftyOneCards$Sheet;") (by decide +kernel)) (v := .ref (ow_ad Z 15)) (ow_vR hW ow_i0.1 ow_i0.2.1 rfl) dX8_judge_17 ?_
    refine lv_iload_n hx hb dX8_judge_20 rfl (lv_at hl 2 rfl) ?_
    refine ow_rld (f := fun j => 48 + 2 * j) (ct := 5) hx hb hG hW ow_i15 ⟨by decide, by decide⟩ rfl ow_ra15 hf dX8_judge_21 (fun h_21 hf hi21 => ?_)
    refine lv_aload_n hx hb dX8_judge_22 rfl (lv_at hl 1 rfl) ?_
    refine ow_getV (ci := 8) (C := RX8) (T := TX8) (N := 15) hx hb hts hown hG hW ow_i0 (by decide) rfl hinX8 2 (by decide) (fk := 2) rfl (hts (.fieldLink RX8 21 "FiftyOneCards" "heads" "[LFiftyOneCards$Head;") (by decide +kernel)) (v := .ref (ow_ad Z 5)) (ow_vR hW ow_i0.1 ow_i0.2.1 rfl) dX8_judge_23 ?_
    refine lv_iload_n hx hb dX8_judge_26 rfl (lv_at hl 3 rfl) ?_
    refine ow_rld (f := fun j => 25 + j) (ct := 0) hx hb hG hW ow_i5 ⟨by decide, by decide⟩ rfl ow_ra5 hf dX8_judge_27 (fun h_27 hf hi27 => ?_)
    refine lv_aload_n hx hb dX8_judge_28 rfl (lv_at hl 1 rfl) ?_
    obtain ⟨r_29, σ_29, hc29, hf⟩ := ow_cl_i hf
    refine ow_callr (va_runV (As := []) (rest := [.ref (ow_ad Z h_27), .ref (ow_ad Z h_21), .ref (ow_ad Z 0)]) ⟨hx, hb, hml, hown, hts⟩ (c_X8_lawText l Z fu σ_3 r_29 σ_29 hc29) (cwV 0 hts gX8_judge_X8_lawText rfl rfl rfl (by decide +kernel) ⟨Nat.le_of_ble_eq_true rfl, Nat.le_of_ble_eq_true rfl⟩) (ow_preV hG hW ow_i0 (by decide) rfl) rfl rfl hl.1 rfl (lv_room (Nat.le_of_ble_eq_true rfl)) dX8_judge_29 ⟨Nat.zero_le _, Nat.zero_le _⟩) hW (fun b29 H locs hW => ?_)
    obtain ⟨r_32, σ_32, hc32, hf⟩ := ow_cl_i hf
    refine ow_calli (va_runV (As := [.ref (ow_ad Z h_21), .ref (ow_ad Z h_27), .ref (ow_ad Z r_29)]) (rest := []) ⟨hx, hb, hml, hown, hts⟩ (c_X8_firstUnlike l Z fu h_21 hi21 h_27 hi27 r_29 b29 σ_29 r_32 σ_32 hc32) (cwV 3 hts gX8_judge_X8_firstUnlike rfl rfl rfl (by decide +kernel) ⟨Nat.le_of_ble_eq_true rfl, Nat.le_of_ble_eq_true rfl⟩) (ow_preV hG hW ow_i0 (by decide) rfl) rfl rfl hl.1 rfl (lv_room (Nat.le_of_ble_eq_true rfl)) dX8_judge_32 ⟨Nat.zero_le _, Nat.zero_le _⟩) hW (fun H locs hW => ?_)
    exact ow_iret hx hb hr hW hf dX8_judge_35 hlocks
  · replace hf := ow_if_f c8 hf
    refine lv_iload_n hx hb dX8_judge_11 rfl (lv_at hl 0 rfl) ?_
    refine lv_goto (tgt := 35) hx hb dX8_judge_12 (by decide) ?_
    exact ow_iret hx hb hr hW hf dX8_judge_35 hlocks
set_option maxHeartbeats 40000000 in
set_option maxRecDepth 100000 in
theorem c_X8_kinds (l : Launch) (Z : ow_Z) (fu : Nat) (a1 : Int32) (a2 : Int32) (a3 : Int32) (σ : ow_S) (rr : Int32) (σr : ow_S) (hf : f_X8_kinds fu a1 a2 a3 σ = some (rr, σr)) : Met l yX8_kinds wsX8_kinds { frames := 8, cells := 0, slots := 0, locals := 229 } (ow_Pc Z 0 56 [.ref (ow_ad Z 0), .int a1, .int a2, .int a3] σ) (ow_Qi Z 0 56 rr σr) 0 0 (ow_A Z 0 56) := by
  refine Met.ofW (cc := cX8_kinds) (maxL := 8) (ret := (some .int)) (by decide) rfl ?_
  intro p e s m args below meth c s₁ B hml hv
  obtain ⟨hav, hB⟩ := hv
  obtain ⟨hG, hW⟩ := ow_begin hB
  have hx := B.exec
  have hb := B.bytes
  have hr := B.returns
  have hts := atoms_spec (ws := wsX8_kinds) B.pre
  have hown : s.vm.findClass RX8 = some m.cls := findClass_of_methodNamed B.named
  have hlocks := B.notSynchronized
  have hinX0 : ∀ w ∈ wsX00, w ∈ wsX8_kinds := by decide +kernel
  have hinX8 : ∀ w ∈ wsX80, w ∈ wsX8_kinds := by decide +kernel
  have hJ158 : ∀ (k78 : Int32 → Int32 → Int32 → Int32 → Int32 → ow_S → Option (Int32 × ow_S)) (hk78 : ∀ (x1 : Int32) (x3 : Int32) (x5 : Int32) (x6 : Int32) (x7 : Int32) (σ : ow_S) (H : Heap) (locs : List Loc) (ls : Array Slot), k78 x1 x3 x5 x6 x7 σ = some (rr, σr) → ow_Wd Z 0 56 σ s H locs → lv_has ls 8 [(0, .ref (ow_ad Z 0)), (1, .int x1), (3, .int x3), (5, .int x5), (6, .int x6), (7, .int x7)] → W p l e (headSpec wsX8_kinds { frames := 8, cells := 0, slots := 0, locals := 229 }).room s m args below meth c H locs 0 0 (MQ below (ow_Qi Z 0 56 rr σr) args s 0 0 (ow_A Z 0 56)) (F0 m 78 ls [])), ∀ (x1 : Int32) (x3 : Int32) (x5 : Int32) (x6 : Int32) (x7 : Int32) (σ : ow_S) (H : Heap) (locs : List Loc) (ls : Array Slot), L_X8_kinds_158 fu k78 x1 x3 x5 x6 x7 σ = some (rr, σr) → ow_Wd Z 0 56 σ s H locs → lv_has ls 8 [(0, .ref (ow_ad Z 0)), (1, .int x1), (3, .int x3), (5, .int x5), (6, .int x6), (7, .int x7)] → W p l e (headSpec wsX8_kinds { frames := 8, cells := 0, slots := 0, locals := 229 }).room s m args below meth c H locs 0 0 (MQ below (ow_Qi Z 0 56 rr σr) args s 0 0 (ow_A Z 0 56)) (F0 m 158 ls []) := by
    intro k78 hk78 x1 x3 x5 x6 x7 σ H locs ls hf hW hl
    unfold L_X8_kinds_158 at hf
    refine ow_iinc (d := 1) (lv' := fun z => [(7, .int z), (0, .ref (ow_ad Z 0)), (1, .int x1), (3, .int x3), (5, .int x5), (6, .int x6)]) hx hb hf dX8_kinds_158 hl (k := 5) rfl (by decide) (by decide) (fun z => rfl) (fun x7_158 hf ls hl => ?_)
    refine lv_goto (tgt := 78) hx hb dX8_kinds_161 (by decide) ?_
    exact hk78 x1 x3 x5 x6 x7_158 σ _ _ _ hf hW (lv_sub hl [1, 2, 3, 4, 5, 0] rfl)
  have hJ127 : ∀ (k78 : Int32 → Int32 → Int32 → Int32 → Int32 → ow_S → Option (Int32 × ow_S)) (hk78 : ∀ (x1 : Int32) (x3 : Int32) (x5 : Int32) (x6 : Int32) (x7 : Int32) (σ : ow_S) (H : Heap) (locs : List Loc) (ls : Array Slot), k78 x1 x3 x5 x6 x7 σ = some (rr, σr) → ow_Wd Z 0 56 σ s H locs → lv_has ls 8 [(0, .ref (ow_ad Z 0)), (1, .int x1), (3, .int x3), (5, .int x5), (6, .int x6), (7, .int x7)] → W p l e (headSpec wsX8_kinds { frames := 8, cells := 0, slots := 0, locals := 229 }).room s m args below meth c H locs 0 0 (MQ below (ow_Qi Z 0 56 rr σr) args s 0 0 (ow_A Z 0 56)) (F0 m 78 ls [])), ∀ (x1 : Int32) (x3 : Int32) (x5 : Int32) (x6 : Int32) (x7 : Int32) (σ : ow_S) (H : Heap) (locs : List Loc) (ls : Array Slot), L_X8_kinds_127 fu k78 x1 x3 x5 x6 x7 σ = some (rr, σr) → ow_Wd Z 0 56 σ s H locs → lv_has ls 8 [(0, .ref (ow_ad Z 0)), (1, .int x1), (3, .int x3), (5, .int x5), (6, .int x6), (7, .int x7)] → W p l e (headSpec wsX8_kinds { frames := 8, cells := 0, slots := 0, locals := 229 }).room s m args below meth c H locs 0 0 (MQ below (ow_Qi Z 0 56 rr σr) args s 0 0 (ow_A Z 0 56)) (F0 m 127 ls []) := by
    intro k78 hk78 x1 x3 x5 x6 x7 σ H locs ls hf hW hl
    unfold L_X8_kinds_127 at hf
    refine lv_aload_n hx hb dX8_kinds_127 rfl (lv_at hl 0 rfl) ?_
    refine lv_aload_n hx hb dX8_kinds_128 rfl (lv_at hl 0 rfl) ?_
    refine ow_getV (ci := 8) (C := RX8) (T := TX8) (N := 15) hx hb hts hown hG hW ow_i0 (by decide) rfl hinX8 9 (by decide) (fk := 2) rfl (hts (.fieldLink RX8 63 "FiftyOneCards" "sheets" "[LFiftyOneCards$Sheet;") (by decide +kernel)) (v := .ref (ow_ad Z 15)) (ow_vR hW ow_i0.1 ow_i0.2.1 rfl) dX8_kinds_129 ?_
    refine lv_iload_n hx hb dX8_kinds_132 rfl (lv_at hl 1 rfl) ?_
    refine ow_rld (f := fun j => 48 + 2 * j) (ct := 5) hx hb hG hW ow_i15 ⟨by decide, by decide⟩ rfl ow_ra15 hf dX8_kinds_133 (fun h_133 hf hi133 => ?_)
    refine lv_aload_n hx hb dX8_kinds_134 rfl (lv_at hl 0 rfl) ?_
    refine ow_getV (ci := 8) (C := RX8) (T := TX8) (N := 15) hx hb hts hown hG hW ow_i0 (by decide) rfl hinX8 3 (by decide) (fk := 2) rfl (hts (.fieldLink RX8 26 "FiftyOneCards" "trial" "LFiftyOneCards$Head;") (by decide +kernel)) (v := .ref (ow_ad Z 6)) (ow_vR hW ow_i0.1 ow_i0.2.1 rfl) dX8_kinds_135 ?_
    refine lv_aload_n hx hb dX8_kinds_138 rfl (lv_at hl 0 rfl) ?_
    obtain ⟨r_139, σ_139, hc139, hf⟩ := ow_cl_i hf
    refine ow_callr (va_runV (As := []) (rest := [.ref (ow_ad Z 6), .ref (ow_ad Z h_133), .ref (ow_ad Z 0)]) ⟨hx, hb, hml, hown, hts⟩ (c_X8_lawText l Z fu σ r_139 σ_139 hc139) (cwV 0 hts gX8_kinds_X8_lawText rfl rfl rfl (by decide +kernel) ⟨Nat.le_of_ble_eq_true rfl, Nat.le_of_ble_eq_true rfl⟩) (ow_preV hG hW ow_i0 (by decide) rfl) rfl rfl hl.1 rfl (lv_room (Nat.le_of_ble_eq_true rfl)) dX8_kinds_139 ⟨Nat.zero_le _, Nat.zero_le _⟩) hW (fun b139 H locs hW => ?_)
    obtain ⟨r_142, σ_142, hc142, hf⟩ := ow_cl_i hf
    refine ow_calli (va_runV (As := [.ref (ow_ad Z h_133), .ref (ow_ad Z 6), .ref (ow_ad Z r_139)]) (rest := []) ⟨hx, hb, hml, hown, hts⟩ (c_X8_firstUnlike l Z fu h_133 hi133 6 ow_i6 r_139 b139 σ_139 r_142 σ_142 hc142) (cwV 3 hts gX8_kinds_X8_firstUnlike rfl rfl rfl (by decide +kernel) ⟨Nat.le_of_ble_eq_true rfl, Nat.le_of_ble_eq_true rfl⟩) (ow_preV hG hW ow_i0 (by decide) rfl) rfl rfl hl.1 rfl (lv_room (Nat.le_of_ble_eq_true rfl)) dX8_kinds_142 ⟨Nat.zero_le _, Nat.zero_le _⟩) hW (fun H locs hW => ?_)
    refine lv_iconst (v := -1) hx hb dX8_kinds_145 (by decide) ?_
    refine lv_icmp_ne (tgt := 158) hx hb dX8_kinds_146 (by decide) (fun c146 => ?_) (fun c146 => ?_)
    · replace hf := ow_if_f c146 hf
      exact hJ158 k78 hk78 x1 x3 x5 x6 x7 σ_142 _ _ _ hf hW (lv_sub hl [0, 1, 2, 3, 4, 5] rfl)
    · replace hf := ow_if_t c146 hf
      refine lv_iload hx hb dX8_kinds_149 (lv_at hl 3 rfl) ?_
      refine lv_iconst (v := 1) hx hb dX8_kinds_151 (by decide) ?_
      refine lv_iload hx hb dX8_kinds_152 (lv_at hl 5 rfl) ?_
      refine lv_ishl hx hb dX8_kinds_154 ?_
      refine lv_ior hx hb dX8_kinds_155 ?_
      refine ow_topi hf (fun x5_156 hf => ?_)
      refine lv_istore (lv' := [(5, .int x5_156), (0, .ref (ow_ad Z 0)), (1, .int x1), (3, .int x3), (6, .int x6), (7, .int x7)]) hx hb dX8_kinds_156 hl (by decide) rfl (fun ls hl => ?_)
      exact hJ158 k78 hk78 x1 x3 x5_156 x6 x7 σ_142 _ _ _ hf hW (lv_sub hl [1, 2, 3, 0, 4, 5] rfl)
  have hJ78 : ∀ (fn : Nat), ∀ (x1 : Int32) (x3 : Int32) (x5 : Int32) (x6 : Int32) (x7 : Int32) (σ : ow_S) (H : Heap) (locs : List Loc) (ls : Array Slot), L_X8_kinds_78 fu fn x1 x3 x5 x6 x7 σ = some (rr, σr) → ow_Wd Z 0 56 σ s H locs → lv_has ls 8 [(0, .ref (ow_ad Z 0)), (1, .int x1), (3, .int x3), (5, .int x5), (6, .int x6), (7, .int x7)] → W p l e (headSpec wsX8_kinds { frames := 8, cells := 0, slots := 0, locals := 229 }).room s m args below meth c H locs 0 0 (MQ below (ow_Qi Z 0 56 rr σr) args s 0 0 (ow_A Z 0 56)) (F0 m 78 ls []) := by
    intro fn
    induction fn with
    | zero => intro x1 x3 x5 x6 x7 σ H locs ls hf hW hl; simp [L_X8_kinds_78] at hf
    | succ fn ih =>
      intro x1 x3 x5 x6 x7 σ H locs ls hf hW hl
      rw [L_X8_kinds_78] at hf
      refine lv_iload hx hb dX8_kinds_78 (lv_at hl 5 rfl) ?_
      refine lv_iload hx hb dX8_kinds_80 (lv_at hl 4 rfl) ?_
      refine lv_icmp_gt (tgt := 164) hx hb dX8_kinds_82 (by decide) (fun c82 => ?_) (fun c82 => ?_)
      · replace hf := ow_if_t c82 hf
        refine lv_iload hx hb dX8_kinds_164 (lv_at hl 3 rfl) ?_
        exact ow_iret hx hb hr hW hf dX8_kinds_166 hlocks
      · replace hf := ow_if_f c82 hf
        refine lv_iload_n hx hb dX8_kinds_85 rfl (lv_at hl 2 rfl) ?_
        refine lv_if_ne (tgt := 101) hx hb dX8_kinds_86 (by decide) (fun c86 => ?_) (fun c86 => ?_)
        · replace hf := ow_if_f c86 hf
          refine lv_iload_n hx hb dX8_kinds_101 rfl (lv_at hl 2 rfl) ?_
          refine lv_iconst (v := 1) hx hb dX8_kinds_102 (by decide) ?_
          refine lv_icmp_ne (tgt := 118) hx hb dX8_kinds_103 (by decide) (fun c103 => ?_) (fun c103 => ?_)
          · replace hf := ow_if_f c103 hf
            refine lv_aload_n hx hb dX8_kinds_118 rfl (lv_at hl 0 rfl) ?_
            refine ow_getV (ci := 8) (C := RX8) (T := TX8) (N := 15) hx hb hts hown hG hW ow_i0 (by decide) rfl hinX8 3 (by decide) (fk := 2) rfl (hts (.fieldLink RX8 26 "FiftyOneCards" "trial" "LFiftyOneCards$Head;") (by decide +kernel)) (v := .ref (ow_ad Z 6)) (ow_vR hW ow_i0.1 ow_i0.2.1 rfl) dX8_kinds_119 ?_
            refine lv_iload hx hb dX8_kinds_122 (lv_at hl 5 rfl) ?_
            refine ow_putIN (ci := 0) (C := RX0) (T := TX0) (N := 5) hx hb hts hown hG hW ow_i6 (by decide) rfl hinX0 tyX0 tyX0_ok nmX0 2 (by decide) rfl (ow_nwp hG (.fieldLinkNest RX8 197 "FiftyOneCards$Head" "bits" "I" "FiftyOneCards") (by decide +kernel)) rfl rfl rfl hf dX8_kinds_124 (fun σ_124 H locs hf hW => ?_)
            exact hJ127 (L_X8_kinds_78 fu fn) ih x1 x3 x5 x6 x7 σ_124 _ _ _ hf hW (lv_sub hl [0, 1, 2, 3, 4, 5] rfl)
          · replace hf := ow_if_t c103 hf
            refine lv_aload_n hx hb dX8_kinds_106 rfl (lv_at hl 0 rfl) ?_
            refine ow_getV (ci := 8) (C := RX8) (T := TX8) (N := 15) hx hb hts hown hG hW ow_i0 (by decide) rfl hinX8 3 (by decide) (fk := 2) rfl (hts (.fieldLink RX8 26 "FiftyOneCards" "trial" "LFiftyOneCards$Head;") (by decide +kernel)) (v := .ref (ow_ad Z 6)) (ow_vR hW ow_i0.1 ow_i0.2.1 rfl) dX8_kinds_107 ?_
            refine lv_iload hx hb dX8_kinds_110 (lv_at hl 5 rfl) ?_
            refine ow_putIN (ci := 0) (C := RX0) (T := TX0) (N := 5) hx hb hts hown hG hW ow_i6 (by decide) rfl hinX0 tyX0 tyX0_ok nmX0 1 (by decide) rfl (ow_nwp hG (.fieldLinkNest RX8 194 "FiftyOneCards$Head" "more" "I" "FiftyOneCards") (by decide +kernel)) rfl rfl rfl hf dX8_kinds_112 (fun σ_112 H locs hf hW => ?_)
            refine lv_goto (tgt := 127) hx hb dX8_kinds_115 (by decide) ?_
            exact hJ127 (L_X8_kinds_78 fu fn) ih x1 x3 x5 x6 x7 σ_112 _ _ _ hf hW (lv_sub hl [0, 1, 2, 3, 4, 5] rfl)
        · replace hf := ow_if_t c86 hf
          refine lv_aload_n hx hb dX8_kinds_89 rfl (lv_at hl 0 rfl) ?_
          refine ow_getV (ci := 8) (C := RX8) (T := TX8) (N := 15) hx hb hts hown hG hW ow_i0 (by decide) rfl hinX8 3 (by decide) (fk := 2) rfl (hts (.fieldLink RX8 26 "FiftyOneCards" "trial" "LFiftyOneCards$Head;") (by decide +kernel)) (v := .ref (ow_ad Z 6)) (ow_vR hW ow_i0.1 ow_i0.2.1 rfl) dX8_kinds_90 ?_
          refine lv_iload hx hb dX8_kinds_93 (lv_at hl 5 rfl) ?_
          refine ow_putIN (ci := 0) (C := RX0) (T := TX0) (N := 5) hx hb hts hown hG hW ow_i6 (by decide) rfl hinX0 tyX0 tyX0_ok nmX0 0 (by decide) rfl (ow_nwp hG (.fieldLinkNest RX8 191 "FiftyOneCards$Head" "kind" "I" "FiftyOneCards") (by decide +kernel)) rfl rfl rfl hf dX8_kinds_95 (fun σ_95 H locs hf hW => ?_)
          refine lv_goto (tgt := 127) hx hb dX8_kinds_98 (by decide) ?_
          exact hJ127 (L_X8_kinds_78 fu fn) ih x1 x3 x5 x6 x7 σ_95 _ _ _ hf hW (lv_sub hl [0, 1, 2, 3, 4, 5] rfl)
  have hJ76 : ∀ (x1 : Int32) (x3 : Int32) (x5 : Int32) (x6 : Int32) (s0 : Int32) (σ : ow_S) (H : Heap) (locs : List Loc) (ls : Array Slot), L_X8_kinds_76 fu x1 x3 x5 x6 s0 σ = some (rr, σr) → ow_Wd Z 0 56 σ s H locs → lv_has ls 8 [(0, .ref (ow_ad Z 0)), (1, .int x1), (3, .int x3), (5, .int x5), (6, .int x6)] → W p l e (headSpec wsX8_kinds { frames := 8, cells := 0, slots := 0, locals := 229 }).room s m args below meth c H locs 0 0 (MQ below (ow_Qi Z 0 56 rr σr) args s 0 0 (ow_A Z 0 56)) (F0 m 76 ls [.int s0]) := by
    intro x1 x3 x5 x6 s0 σ H locs ls hf hW hl
    unfold L_X8_kinds_76 at hf
    refine lv_istore (lv' := [(7, .int s0), (0, .ref (ow_ad Z 0)), (1, .int x1), (3, .int x3), (5, .int x5), (6, .int x6)]) hx hb dX8_kinds_76 hl (by decide) rfl (fun ls hl => ?_)
    exact hJ78 fu x1 x3 x5 x6 s0 σ _ _ _ hf hW (lv_sub hl [1, 2, 3, 4, 5, 0] rfl)
  have hJ64 : ∀ (x1 : Int32) (x3 : Int32) (x5 : Int32) (s0 : Int32) (σ : ow_S) (H : Heap) (locs : List Loc) (ls : Array Slot), L_X8_kinds_64 fu x1 x3 x5 s0 σ = some (rr, σr) → ow_Wd Z 0 56 σ s H locs → lv_has ls 8 [(0, .ref (ow_ad Z 0)), (1, .int x1), (3, .int x3), (5, .int x5)] → W p l e (headSpec wsX8_kinds { frames := 8, cells := 0, slots := 0, locals := 229 }).room s m args below meth c H locs 0 0 (MQ below (ow_Qi Z 0 56 rr σr) args s 0 0 (ow_A Z 0 56)) (F0 m 64 ls [.int s0]) := by
    intro x1 x3 x5 s0 σ H locs ls hf hW hl
    unfold L_X8_kinds_64 at hf
    refine lv_istore (lv' := [(6, .int s0), (0, .ref (ow_ad Z 0)), (1, .int x1), (3, .int x3), (5, .int x5)]) hx hb dX8_kinds_64 hl (by decide) rfl (fun ls hl => ?_)
    refine lv_iload_n hx hb dX8_kinds_66 rfl (lv_at hl 3 rfl) ?_
    refine lv_iconst (v := 2) hx hb dX8_kinds_67 (by decide) ?_
    refine lv_icmp_ne (tgt := 75) hx hb dX8_kinds_68 (by decide) (fun c68 => ?_) (fun c68 => ?_)
    · replace hf := ow_if_f c68 hf
      refine lv_iconst (v := 0) hx hb dX8_kinds_75 (by decide) ?_
      exact hJ76 x1 x3 x5 s0 (0 : Int32) σ _ _ _ hf hW (lv_sub hl [1, 2, 3, 4, 0] rfl)
    · replace hf := ow_if_t c68 hf
      refine lv_iconst (v := 1) hx hb dX8_kinds_71 (by decide) ?_
      refine lv_goto (tgt := 76) hx hb dX8_kinds_72 (by decide) ?_
      exact hJ76 x1 x3 x5 s0 (1 : Int32) σ _ _ _ hf hW (lv_sub hl [1, 2, 3, 4, 0] rfl)
  have hl := lv_entry ([.ref (ow_ad Z 0), .int a1, .int a2, .int a3]) (n := 8) (Nat.le_of_ble_eq_true rfl)
  refine W.eq (g2 := F0 m 0 ((lg_sl ([.ref (ow_ad Z 0), .int a1, .int a2, .int a3]) ++ List.replicate (8 - (lg_sl ([.ref (ow_ad Z 0), .int a1, .int a2, .int a3])).length) Slot.unset).toArray) []) (by rw [hav]; exact lg_entry_eq _ _ _) ?_
  generalize (lg_sl ([.ref (ow_ad Z 0), .int a1, .int a2, .int a3]) ++ List.replicate (8 - (lg_sl ([.ref (ow_ad Z 0), .int a1, .int a2, .int a3])).length) Slot.unset).toArray = ls at hl ⊢
  have hl : lv_has ls 8 [(0, .ref (ow_ad Z 0)), (1, .int a1), (2, .int a2), (3, .int a3)] := hl
  unfold f_X8_kinds at hf
  refine lv_aload_n hx hb dX8_kinds_0 rfl (lv_at hl 0 rfl) ?_
  refine lv_iload_n hx hb dX8_kinds_1 rfl (lv_at hl 1 rfl) ?_
  refine lv_iload_n hx hb dX8_kinds_2 rfl (lv_at hl 2 rfl) ?_
  obtain ⟨r_3, σ_3, hc3, hf⟩ := ow_cl_i hf
  refine ow_calli (va_runV (As := [.int a1, .int a2]) (rest := []) ⟨hx, hb, hml, hown, hts⟩ (c_X8_refusalOfSayings l Z fu a1 a2 σ r_3 σ_3 hc3) (cwV 2 hts gX8_kinds_X8_refusalOfSayings rfl rfl rfl (by decide +kernel) ⟨Nat.le_of_ble_eq_true rfl, Nat.le_of_ble_eq_true rfl⟩) (ow_preV hG hW ow_i0 (by decide) rfl) rfl rfl hl.1 rfl (lv_room (Nat.le_of_ble_eq_true rfl)) dX8_kinds_3 ⟨Nat.zero_le _, Nat.zero_le _⟩) hW (fun H locs hW => ?_)
  refine lv_istore (lv' := [(4, .int r_3), (0, .ref (ow_ad Z 0)), (1, .int a1), (2, .int a2), (3, .int a3)]) hx hb dX8_kinds_6 hl (by decide) rfl (fun ls hl => ?_)
  refine lv_iload hx hb dX8_kinds_8 (lv_at hl 0 rfl) ?_
  refine lv_if_eq (tgt := 16) hx hb dX8_kinds_10 (by decide) (fun c10 => ?_) (fun c10 => ?_)
  · replace hf := ow_if_t c10 hf
    refine lv_iload_n hx hb dX8_kinds_16 rfl (lv_at hl 4 rfl) ?_
    refine lv_if_lt (tgt := 25) hx hb dX8_kinds_17 (by decide) (fun c17 => ?_) (fun c17 => ?_)
    · replace hf := ow_if_t c17 hf
      refine lv_bipush (v := -7) hx hb dX8_kinds_25 (by decide) ?_
      exact ow_iret hx hb hr hW hf dX8_kinds_27 hlocks
    · replace hf := ow_if_f c17 hf
      refine lv_iload_n hx hb dX8_kinds_20 rfl (lv_at hl 4 rfl) ?_
      refine lv_iconst (v := 2) hx hb dX8_kinds_21 (by decide) ?_
      refine lv_icmp_le (tgt := 28) hx hb dX8_kinds_22 (by decide) (fun c22 => ?_) (fun c22 => ?_)
      · replace hf := ow_if_t c22 hf
        refine lv_aload_n hx hb dX8_kinds_28 rfl (lv_at hl 1 rfl) ?_
        refine ow_getV (ci := 8) (C := RX8) (T := TX8) (N := 15) hx hb hts hown hG hW ow_i0 (by decide) rfl hinX8 3 (by decide) (fk := 2) rfl (hts (.fieldLink RX8 26 "FiftyOneCards" "trial" "LFiftyOneCards$Head;") (by decide +kernel)) (v := .ref (ow_ad Z 6)) (ow_vR hW ow_i0.1 ow_i0.2.1 rfl) dX8_kinds_29 ?_
        refine lv_aload_n hx hb dX8_kinds_32 rfl (lv_at hl 1 rfl) ?_
        refine ow_getV (ci := 8) (C := RX8) (T := TX8) (N := 15) hx hb hts hown hG hW ow_i0 (by decide) rfl hinX8 2 (by decide) (fk := 2) rfl (hts (.fieldLink RX8 21 "FiftyOneCards" "heads" "[LFiftyOneCards$Head;") (by decide +kernel)) (v := .ref (ow_ad Z 5)) (ow_vR hW ow_i0.1 ow_i0.2.1 rfl) dX8_kinds_33 ?_
        refine lv_iload_n hx hb dX8_kinds_36 rfl (lv_at hl 3 rfl) ?_
        refine ow_rld (f := fun j => 25 + j) (ct := 0) hx hb hG hW ow_i5 ⟨by decide, by decide⟩ rfl ow_ra5 hf dX8_kinds_37 (fun h_37 hf hi37 => ?_)
        obtain ⟨σ_38, hc38, hf⟩ := ow_cv_i hf
        refine ow_callv (va_runVN (As := [.ref (ow_ad Z h_37)]) (rest := []) ⟨hx, hb, hml, hown, hts⟩ (c_X0_become l Z fu 6 ow_i6 h_37 hi37 σ_3 σ_38  hc38) ⟨va_cnB (host := "FiftyOneCards") 1 hts ggX8_kinds_X0_become rfl rfl rfl (ow_nwp hG (.methodLinkNest RX8 238 yX0_become "FiftyOneCards") (by decide +kernel)) (hts (.initialized RX0) (by decide +kernel)) (by decide +kernel) ⟨Nat.le_of_ble_eq_true rfl, Nat.le_of_ble_eq_true rfl⟩, hts (.instanceMethod yX0_become) (by decide +kernel), hts (.selects RX0 yX0_become yX0_become) (by decide +kernel)⟩ (ow_preV hG hW ow_i6 (by decide) rfl) rfl rfl hl.1 rfl (lv_room (Nat.le_of_ble_eq_true rfl)) dX8_kinds_38 ⟨Nat.zero_le _, Nat.zero_le _⟩) hW (fun H locs hW => ?_)
        refine lv_iconst (v := 0) hx hb dX8_kinds_41 (by decide) ?_
        refine lv_istore (lv' := [(5, .int (0 : Int32)), (4, .int r_3), (0, .ref (ow_ad Z 0)), (1, .int a1), (2, .int a2), (3, .int a3)]) hx hb dX8_kinds_42 hl (by decide) rfl (fun ls hl => ?_)
        refine lv_iload_n hx hb dX8_kinds_44 rfl (lv_at hl 5 rfl) ?_
        refine lv_if_ne (tgt := 52) hx hb dX8_kinds_45 (by decide) (fun c45 => ?_) (fun c45 => ?_)
        · replace hf := ow_if_f c45 hf
          refine lv_iload_n hx hb dX8_kinds_52 rfl (lv_at hl 5 rfl) ?_
          refine lv_iconst (v := 1) hx hb dX8_kinds_53 (by decide) ?_
          refine lv_icmp_ne (tgt := 62) hx hb dX8_kinds_54 (by decide) (fun c54 => ?_) (fun c54 => ?_)
          · replace hf := ow_if_f c54 hf
            refine lv_bipush (v := 16) hx hb dX8_kinds_62 (by decide) ?_
            exact hJ64 a1 a3 (0 : Int32) (16 : Int32) σ_38 _ _ _ hf hW (lv_sub hl [2, 3, 5, 0] rfl)
          · replace hf := ow_if_t c54 hf
            refine lv_bipush (v := 9) hx hb dX8_kinds_57 (by decide) ?_
            refine lv_goto (tgt := 64) hx hb dX8_kinds_59 (by decide) ?_
            exact hJ64 a1 a3 (0 : Int32) (9 : Int32) σ_38 _ _ _ hf hW (lv_sub hl [2, 3, 5, 0] rfl)
        · replace hf := ow_if_t c45 hf
          refine lv_iconst (v := 5) hx hb dX8_kinds_48 (by decide) ?_
          refine lv_goto (tgt := 64) hx hb dX8_kinds_49 (by decide) ?_
          exact hJ64 a1 a3 (0 : Int32) (5 : Int32) σ_38 _ _ _ hf hW (lv_sub hl [2, 3, 5, 0] rfl)
      · replace hf := ow_if_f c22 hf
        refine lv_bipush (v := -7) hx hb dX8_kinds_25 (by decide) ?_
        exact ow_iret hx hb hr hW hf dX8_kinds_27 hlocks
  · replace hf := ow_if_f c10 hf
    refine lv_iload hx hb dX8_kinds_13 (lv_at hl 0 rfl) ?_
    exact ow_iret hx hb hr hW hf dX8_kinds_15 hlocks
set_option maxHeartbeats 40000000 in
set_option maxRecDepth 100000 in
theorem c_X8_begins (l : Launch) (Z : ow_Z) (fu : Nat) (a1 : Int32) (a2 : Int32) (a3 : Int32) (σ : ow_S) (rr : Int32) (σr : ow_S) (hf : f_X8_begins fu a1 a2 a3 σ = some (rr, σr)) : Met l yX8_begins wsX8_begins { frames := 8, cells := 0, slots := 0, locals := 229 } (ow_Pc Z 0 56 [.ref (ow_ad Z 0), .int a1, .int a2, .int a3] σ) (ow_Qi Z 0 56 rr σr) 0 0 (ow_A Z 0 56) := by
  refine Met.ofW (cc := cX8_begins) (maxL := 8) (ret := (some .int)) (by decide) rfl ?_
  intro p e s m args below meth c s₁ B hml hv
  obtain ⟨hav, hB⟩ := hv
  obtain ⟨hG, hW⟩ := ow_begin hB
  have hx := B.exec
  have hb := B.bytes
  have hr := B.returns
  have hts := atoms_spec (ws := wsX8_begins) B.pre
  have hown : s.vm.findClass RX8 = some m.cls := findClass_of_methodNamed B.named
  have hlocks := B.notSynchronized
  have hinX0 : ∀ w ∈ wsX00, w ∈ wsX8_begins := by decide +kernel
  have hinX8 : ∀ w ∈ wsX80, w ∈ wsX8_begins := by decide +kernel
  have hJ102 : ∀ (k50 : Int32 → Int32 → Int32 → Int32 → Int32 → ow_S → Option (Int32 × ow_S)) (hk50 : ∀ (x1 : Int32) (x3 : Int32) (x5 : Int32) (x6 : Int32) (x7 : Int32) (σ : ow_S) (H : Heap) (locs : List Loc) (ls : Array Slot), k50 x1 x3 x5 x6 x7 σ = some (rr, σr) → ow_Wd Z 0 56 σ s H locs → lv_has ls 8 [(0, .ref (ow_ad Z 0)), (1, .int x1), (3, .int x3), (5, .int x5), (6, .int x6), (7, .int x7)] → W p l e (headSpec wsX8_begins { frames := 8, cells := 0, slots := 0, locals := 229 }).room s m args below meth c H locs 0 0 (MQ below (ow_Qi Z 0 56 rr σr) args s 0 0 (ow_A Z 0 56)) (F0 m 50 ls [])), ∀ (x1 : Int32) (x3 : Int32) (x5 : Int32) (x6 : Int32) (x7 : Int32) (σ : ow_S) (H : Heap) (locs : List Loc) (ls : Array Slot), L_X8_begins_102 fu k50 x1 x3 x5 x6 x7 σ = some (rr, σr) → ow_Wd Z 0 56 σ s H locs → lv_has ls 8 [(0, .ref (ow_ad Z 0)), (1, .int x1), (3, .int x3), (5, .int x5), (6, .int x6), (7, .int x7)] → W p l e (headSpec wsX8_begins { frames := 8, cells := 0, slots := 0, locals := 229 }).room s m args below meth c H locs 0 0 (MQ below (ow_Qi Z 0 56 rr σr) args s 0 0 (ow_A Z 0 56)) (F0 m 102 ls []) := by
    intro k50 hk50 x1 x3 x5 x6 x7 σ H locs ls hf hW hl
    unfold L_X8_begins_102 at hf
    refine ow_iinc (d := 1) (lv' := fun z => [(7, .int z), (0, .ref (ow_ad Z 0)), (1, .int x1), (3, .int x3), (5, .int x5), (6, .int x6)]) hx hb hf dX8_begins_102 hl (k := 5) rfl (by decide) (by decide) (fun z => rfl) (fun x7_102 hf ls hl => ?_)
    refine lv_goto (tgt := 50) hx hb dX8_begins_105 (by decide) ?_
    exact hk50 x1 x3 x5 x6 x7_102 σ _ _ _ hf hW (lv_sub hl [1, 2, 3, 4, 5, 0] rfl)
  have hJ50 : ∀ (fn : Nat), ∀ (x1 : Int32) (x3 : Int32) (x5 : Int32) (x6 : Int32) (x7 : Int32) (σ : ow_S) (H : Heap) (locs : List Loc) (ls : Array Slot), L_X8_begins_50 fu fn x1 x3 x5 x6 x7 σ = some (rr, σr) → ow_Wd Z 0 56 σ s H locs → lv_has ls 8 [(0, .ref (ow_ad Z 0)), (1, .int x1), (3, .int x3), (5, .int x5), (6, .int x6), (7, .int x7)] → W p l e (headSpec wsX8_begins { frames := 8, cells := 0, slots := 0, locals := 229 }).room s m args below meth c H locs 0 0 (MQ below (ow_Qi Z 0 56 rr σr) args s 0 0 (ow_A Z 0 56)) (F0 m 50 ls []) := by
    intro fn
    induction fn with
    | zero => intro x1 x3 x5 x6 x7 σ H locs ls hf hW hl; simp [L_X8_begins_50] at hf
    | succ fn ih =>
      intro x1 x3 x5 x6 x7 σ H locs ls hf hW hl
      rw [L_X8_begins_50] at hf
      refine lv_iload hx hb dX8_begins_50 (lv_at hl 5 rfl) ?_
      refine lv_sipush (v := 200) hx hb dX8_begins_52 (by decide) ?_
      refine lv_icmp_gt (tgt := 108) hx hb dX8_begins_55 (by decide) (fun c55 => ?_) (fun c55 => ?_)
      · replace hf := ow_if_t c55 hf
        refine lv_iload_n hx hb dX8_begins_108 rfl (lv_at hl 2 rfl) ?_
        refine lv_if_ne (tgt := 117) hx hb dX8_begins_109 (by decide) (fun c109 => ?_) (fun c109 => ?_)
        · replace hf := ow_if_f c109 hf
          refine lv_iload hx hb dX8_begins_117 (lv_at hl 4 rfl) ?_
          exact ow_iret hx hb hr hW hf dX8_begins_119 hlocks
        · replace hf := ow_if_t c109 hf
          refine lv_iload hx hb dX8_begins_112 (lv_at hl 3 rfl) ?_
          refine lv_goto (tgt := 119) hx hb dX8_begins_114 (by decide) ?_
          exact ow_iret hx hb hr hW hf dX8_begins_119 hlocks
      · replace hf := ow_if_f c55 hf
        refine lv_aload_n hx hb dX8_begins_58 rfl (lv_at hl 0 rfl) ?_
        refine ow_getV (ci := 8) (C := RX8) (T := TX8) (N := 15) hx hb hts hown hG hW ow_i0 (by decide) rfl hinX8 3 (by decide) (fk := 2) rfl (hts (.fieldLink RX8 26 "FiftyOneCards" "trial" "LFiftyOneCards$Head;") (by decide +kernel)) (v := .ref (ow_ad Z 6)) (ow_vR hW ow_i0.1 ow_i0.2.1 rfl) dX8_begins_59 ?_
        refine lv_iload hx hb dX8_begins_62 (lv_at hl 5 rfl) ?_
        refine ow_putIN (ci := 0) (C := RX0) (T := TX0) (N := 5) hx hb hts hown hG hW ow_i6 (by decide) rfl hinX0 tyX0 tyX0_ok nmX0 3 (by decide) rfl (ow_nwp hG (.fieldLinkNest RX8 200 "FiftyOneCards$Head" "first" "I" "FiftyOneCards") (by decide +kernel)) rfl rfl rfl hf dX8_begins_64 (fun σ_64 H locs hf hW => ?_)
        refine lv_aload_n hx hb dX8_begins_67 rfl (lv_at hl 0 rfl) ?_
        refine lv_aload_n hx hb dX8_begins_68 rfl (lv_at hl 0 rfl) ?_
        refine ow_getV (ci := 8) (C := RX8) (T := TX8) (N := 15) hx hb hts hown hG hW ow_i0 (by decide) rfl hinX8 9 (by decide) (fk := 2) rfl (hts (.fieldLink RX8 63 "FiftyOneCards" "sheets" "[LFiftyOneCards$Sheet;") (by decide +kernel)) (v := .ref (ow_ad Z 15)) (ow_vR hW ow_i0.1 ow_i0.2.1 rfl) dX8_begins_69 ?_
        refine lv_iload_n hx hb dX8_begins_72 rfl (lv_at hl 1 rfl) ?_
        refine ow_rld (f := fun j => 48 + 2 * j) (ct := 5) hx hb hG hW ow_i15 ⟨by decide, by decide⟩ rfl ow_ra15 hf dX8_begins_73 (fun h_73 hf hi73 => ?_)
        refine lv_aload_n hx hb dX8_begins_74 rfl (lv_at hl 0 rfl) ?_
        refine ow_getV (ci := 8) (C := RX8) (T := TX8) (N := 15) hx hb hts hown hG hW ow_i0 (by decide) rfl hinX8 3 (by decide) (fk := 2) rfl (hts (.fieldLink RX8 26 "FiftyOneCards" "trial" "LFiftyOneCards$Head;") (by decide +kernel)) (v := .ref (ow_ad Z 6)) (ow_vR hW ow_i0.1 ow_i0.2.1 rfl) dX8_begins_75 ?_
        refine lv_aload_n hx hb dX8_begins_78 rfl (lv_at hl 0 rfl) ?_
        obtain ⟨r_79, σ_79, hc79, hf⟩ := ow_cl_i hf
        refine ow_callr (va_runV (As := []) (rest := [.ref (ow_ad Z 6), .ref (ow_ad Z h_73), .ref (ow_ad Z 0)]) ⟨hx, hb, hml, hown, hts⟩ (c_X8_lawText l Z fu σ_64 r_79 σ_79 hc79) (cwV 0 hts gX8_begins_X8_lawText rfl rfl rfl (by decide +kernel) ⟨Nat.le_of_ble_eq_true rfl, Nat.le_of_ble_eq_true rfl⟩) (ow_preV hG hW ow_i0 (by decide) rfl) rfl rfl hl.1 rfl (lv_room (Nat.le_of_ble_eq_true rfl)) dX8_begins_79 ⟨Nat.zero_le _, Nat.zero_le _⟩) hW (fun b79 H locs hW => ?_)
        obtain ⟨r_82, σ_82, hc82, hf⟩ := ow_cl_i hf
        refine ow_calli (va_runV (As := [.ref (ow_ad Z h_73), .ref (ow_ad Z 6), .ref (ow_ad Z r_79)]) (rest := []) ⟨hx, hb, hml, hown, hts⟩ (c_X8_firstUnlike l Z fu h_73 hi73 6 ow_i6 r_79 b79 σ_79 r_82 σ_82 hc82) (cwV 3 hts gX8_begins_X8_firstUnlike rfl rfl rfl (by decide +kernel) ⟨Nat.le_of_ble_eq_true rfl, Nat.le_of_ble_eq_true rfl⟩) (ow_preV hG hW ow_i0 (by decide) rfl) rfl rfl hl.1 rfl (lv_room (Nat.le_of_ble_eq_true rfl)) dX8_begins_82 ⟨Nat.zero_le _, Nat.zero_le _⟩) hW (fun H locs hW => ?_)
        refine lv_iconst (v := -1) hx hb dX8_begins_85 (by decide) ?_
        refine lv_icmp_ne (tgt := 102) hx hb dX8_begins_86 (by decide) (fun c86 => ?_) (fun c86 => ?_)
        · replace hf := ow_if_f c86 hf
          exact hJ102 (L_X8_begins_50 fu fn) ih x1 x3 x5 x6 x7 σ_82 _ _ _ hf hW (lv_sub hl [0, 1, 2, 3, 4, 5] rfl)
        · replace hf := ow_if_t c86 hf
          refine ow_iinc (d := 1) (lv' := fun z => [(5, .int z), (0, .ref (ow_ad Z 0)), (1, .int x1), (3, .int x3), (6, .int x6), (7, .int x7)]) hx hb hf dX8_begins_89 hl (k := 3) rfl (by decide) (by decide) (fun z => rfl) (fun x5_89 hf ls hl => ?_)
          refine lv_iload hx hb dX8_begins_92 (lv_at hl 4 rfl) ?_
          refine lv_iconst (v := -1) hx hb dX8_begins_94 (by decide) ?_
          refine lv_icmp_ne (tgt := 102) hx hb dX8_begins_95 (by decide) (fun c95 => ?_) (fun c95 => ?_)
          · replace hf := ow_if_f c95 hf
            exact hJ102 (L_X8_begins_50 fu fn) ih x1 x3 x5_89 x6 x7 σ_82 _ _ _ hf hW (lv_sub hl [1, 2, 3, 0, 4, 5] rfl)
          · replace hf := ow_if_t c95 hf
            refine lv_iload hx hb dX8_begins_98 (lv_at hl 5 rfl) ?_
            refine lv_istore (lv' := [(6, .int x7), (5, .int x5_89), (0, .ref (ow_ad Z 0)), (1, .int x1), (3, .int x3), (7, .int x7)]) hx hb dX8_begins_100 hl (by decide) rfl (fun ls hl => ?_)
            exact hJ102 (L_X8_begins_50 fu fn) ih x1 x3 x5_89 x7 x7 σ_82 _ _ _ hf hW (lv_sub hl [2, 3, 4, 1, 0, 5] rfl)
  have hl := lv_entry ([.ref (ow_ad Z 0), .int a1, .int a2, .int a3]) (n := 8) (Nat.le_of_ble_eq_true rfl)
  refine W.eq (g2 := F0 m 0 ((lg_sl ([.ref (ow_ad Z 0), .int a1, .int a2, .int a3]) ++ List.replicate (8 - (lg_sl ([.ref (ow_ad Z 0), .int a1, .int a2, .int a3])).length) Slot.unset).toArray) []) (by rw [hav]; exact lg_entry_eq _ _ _) ?_
  generalize (lg_sl ([.ref (ow_ad Z 0), .int a1, .int a2, .int a3]) ++ List.replicate (8 - (lg_sl ([.ref (ow_ad Z 0), .int a1, .int a2, .int a3])).length) Slot.unset).toArray = ls at hl ⊢
  have hl : lv_has ls 8 [(0, .ref (ow_ad Z 0)), (1, .int a1), (2, .int a2), (3, .int a3)] := hl
  unfold f_X8_begins at hf
  refine lv_aload_n hx hb dX8_begins_0 rfl (lv_at hl 0 rfl) ?_
  refine lv_iload_n hx hb dX8_begins_1 rfl (lv_at hl 1 rfl) ?_
  refine lv_iload_n hx hb dX8_begins_2 rfl (lv_at hl 2 rfl) ?_
  obtain ⟨r_3, σ_3, hc3, hf⟩ := ow_cl_i hf
  refine ow_calli (va_runV (As := [.int a1, .int a2]) (rest := []) ⟨hx, hb, hml, hown, hts⟩ (c_X8_refusalOfSayings l Z fu a1 a2 σ r_3 σ_3 hc3) (cwV 2 hts gX8_begins_X8_refusalOfSayings rfl rfl rfl (by decide +kernel) ⟨Nat.le_of_ble_eq_true rfl, Nat.le_of_ble_eq_true rfl⟩) (ow_preV hG hW ow_i0 (by decide) rfl) rfl rfl hl.1 rfl (lv_room (Nat.le_of_ble_eq_true rfl)) dX8_begins_3 ⟨Nat.zero_le _, Nat.zero_le _⟩) hW (fun H locs hW => ?_)
  refine lv_istore (lv' := [(4, .int r_3), (0, .ref (ow_ad Z 0)), (1, .int a1), (2, .int a2), (3, .int a3)]) hx hb dX8_begins_6 hl (by decide) rfl (fun ls hl => ?_)
  refine lv_iload hx hb dX8_begins_8 (lv_at hl 0 rfl) ?_
  refine lv_if_eq (tgt := 16) hx hb dX8_begins_10 (by decide) (fun c10 => ?_) (fun c10 => ?_)
  · replace hf := ow_if_t c10 hf
    refine lv_iload_n hx hb dX8_begins_16 rfl (lv_at hl 4 rfl) ?_
    refine lv_if_lt (tgt := 25) hx hb dX8_begins_17 (by decide) (fun c17 => ?_) (fun c17 => ?_)
    · replace hf := ow_if_t c17 hf
      refine lv_bipush (v := -7) hx hb dX8_begins_25 (by decide) ?_
      exact ow_iret hx hb hr hW hf dX8_begins_27 hlocks
    · replace hf := ow_if_f c17 hf
      refine lv_iload_n hx hb dX8_begins_20 rfl (lv_at hl 4 rfl) ?_
      refine lv_iconst (v := 1) hx hb dX8_begins_21 (by decide) ?_
      refine lv_icmp_le (tgt := 28) hx hb dX8_begins_22 (by decide) (fun c22 => ?_) (fun c22 => ?_)
      · replace hf := ow_if_t c22 hf
        refine lv_aload_n hx hb dX8_begins_28 rfl (lv_at hl 1 rfl) ?_
        refine ow_getV (ci := 8) (C := RX8) (T := TX8) (N := 15) hx hb hts hown hG hW ow_i0 (by decide) rfl hinX8 3 (by decide) (fk := 2) rfl (hts (.fieldLink RX8 26 "FiftyOneCards" "trial" "LFiftyOneCards$Head;") (by decide +kernel)) (v := .ref (ow_ad Z 6)) (ow_vR hW ow_i0.1 ow_i0.2.1 rfl) dX8_begins_29 ?_
        refine lv_aload_n hx hb dX8_begins_32 rfl (lv_at hl 1 rfl) ?_
        refine ow_getV (ci := 8) (C := RX8) (T := TX8) (N := 15) hx hb hts hown hG hW ow_i0 (by decide) rfl hinX8 2 (by decide) (fk := 2) rfl (hts (.fieldLink RX8 21 "FiftyOneCards" "heads" "[LFiftyOneCards$Head;") (by decide +kernel)) (v := .ref (ow_ad Z 5)) (ow_vR hW ow_i0.1 ow_i0.2.1 rfl) dX8_begins_33 ?_
        refine lv_iload_n hx hb dX8_begins_36 rfl (lv_at hl 3 rfl) ?_
        refine ow_rld (f := fun j => 25 + j) (ct := 0) hx hb hG hW ow_i5 ⟨by decide, by decide⟩ rfl ow_ra5 hf dX8_begins_37 (fun h_37 hf hi37 => ?_)
        obtain ⟨σ_38, hc38, hf⟩ := ow_cv_i hf
        refine ow_callv (va_runVN (As := [.ref (ow_ad Z h_37)]) (rest := []) ⟨hx, hb, hml, hown, hts⟩ (c_X0_become l Z fu 6 ow_i6 h_37 hi37 σ_3 σ_38  hc38) ⟨va_cnB (host := "FiftyOneCards") 1 hts ggX8_begins_X0_become rfl rfl rfl (ow_nwp hG (.methodLinkNest RX8 238 yX0_become "FiftyOneCards") (by decide +kernel)) (hts (.initialized RX0) (by decide +kernel)) (by decide +kernel) ⟨Nat.le_of_ble_eq_true rfl, Nat.le_of_ble_eq_true rfl⟩, hts (.instanceMethod yX0_become) (by decide +kernel), hts (.selects RX0 yX0_become yX0_become) (by decide +kernel)⟩ (ow_preV hG hW ow_i6 (by decide) rfl) rfl rfl hl.1 rfl (lv_room (Nat.le_of_ble_eq_true rfl)) dX8_begins_38 ⟨Nat.zero_le _, Nat.zero_le _⟩) hW (fun H locs hW => ?_)
        refine lv_iconst (v := 0) hx hb dX8_begins_41 (by decide) ?_
        refine lv_istore (lv' := [(5, .int (0 : Int32)), (4, .int r_3), (0, .ref (ow_ad Z 0)), (1, .int a1), (2, .int a2), (3, .int a3)]) hx hb dX8_begins_42 hl (by decide) rfl (fun ls hl => ?_)
        refine lv_iconst (v := -1) hx hb dX8_begins_44 (by decide) ?_
        refine lv_istore (lv' := [(6, .int (-1 : Int32)), (5, .int (0 : Int32)), (4, .int r_3), (0, .ref (ow_ad Z 0)), (1, .int a1), (2, .int a2), (3, .int a3)]) hx hb dX8_begins_45 hl (by decide) rfl (fun ls hl => ?_)
        refine lv_iconst (v := 0) hx hb dX8_begins_47 (by decide) ?_
        refine lv_istore (lv' := [(7, .int (0 : Int32)), (6, .int (-1 : Int32)), (5, .int (0 : Int32)), (4, .int r_3), (0, .ref (ow_ad Z 0)), (1, .int a1), (2, .int a2), (3, .int a3)]) hx hb dX8_begins_48 hl (by decide) rfl (fun ls hl => ?_)
        exact hJ50 fu a1 a3 (0 : Int32) (-1 : Int32) (0 : Int32) σ_38 _ _ _ hf hW (lv_sub hl [4, 5, 7, 2, 1, 0] rfl)
      · replace hf := ow_if_f c22 hf
        refine lv_bipush (v := -7) hx hb dX8_begins_25 (by decide) ?_
        exact ow_iret hx hb hr hW hf dX8_begins_27 hlocks
  · replace hf := ow_if_f c10 hf
    refine lv_iload hx hb dX8_begins_13 (lv_at hl 0 rfl) ?_
    exact ow_iret hx hb hr hW hf dX8_begins_15 hlocks
set_option maxHeartbeats 40000000 in
set_option maxRecDepth 100000 in
theorem c_X8_laws (l : Launch) (Z : ow_Z) (fu : Nat) (a1 : Int32) (a2 : Int32) (σ : ow_S) (rr : Int32) (σr : ow_S) (hf : f_X8_laws fu a1 a2 σ = some (rr, σr)) : Met l yX8_laws wsX8_laws { frames := 8, cells := 0, slots := 0, locals := 229 } (ow_Pc Z 0 56 [.ref (ow_ad Z 0), .int a1, .int a2] σ) (ow_Qi Z 0 56 rr σr) 0 0 (ow_A Z 0 56) := by
  refine Met.ofW (cc := cX8_laws) (maxL := 6) (ret := (some .int)) (by decide) rfl ?_
  intro p e s m args below meth c s₁ B hml hv
  obtain ⟨hav, hB⟩ := hv
  obtain ⟨hG, hW⟩ := ow_begin hB
  have hx := B.exec
  have hb := B.bytes
  have hr := B.returns
  have hts := atoms_spec (ws := wsX8_laws) B.pre
  have hown : s.vm.findClass RX8 = some m.cls := findClass_of_methodNamed B.named
  have hlocks := B.notSynchronized
  have hinX8 : ∀ w ∈ wsX80, w ∈ wsX8_laws := by decide +kernel
  have hJ64 : ∀ (k19 : Int32 → Int32 → Int32 → Int32 → ow_S → Option (Int32 × ow_S)) (hk19 : ∀ (x1 : Int32) (x2 : Int32) (x4 : Int32) (x5 : Int32) (σ : ow_S) (H : Heap) (locs : List Loc) (ls : Array Slot), k19 x1 x2 x4 x5 σ = some (rr, σr) → ow_Wd Z 0 56 σ s H locs → lv_has ls 6 [(0, .ref (ow_ad Z 0)), (1, .int x1), (2, .int x2), (4, .int x4), (5, .int x5)] → W p l e (headSpec wsX8_laws { frames := 8, cells := 0, slots := 0, locals := 229 }).room s m args below meth c H locs 0 0 (MQ below (ow_Qi Z 0 56 rr σr) args s 0 0 (ow_A Z 0 56)) (F0 m 19 ls [])), ∀ (x1 : Int32) (x2 : Int32) (x4 : Int32) (x5 : Int32) (σ : ow_S) (H : Heap) (locs : List Loc) (ls : Array Slot), L_X8_laws_64 fu k19 x1 x2 x4 x5 σ = some (rr, σr) → ow_Wd Z 0 56 σ s H locs → lv_has ls 6 [(0, .ref (ow_ad Z 0)), (1, .int x1), (2, .int x2), (4, .int x4), (5, .int x5)] → W p l e (headSpec wsX8_laws { frames := 8, cells := 0, slots := 0, locals := 229 }).room s m args below meth c H locs 0 0 (MQ below (ow_Qi Z 0 56 rr σr) args s 0 0 (ow_A Z 0 56)) (F0 m 64 ls []) := by
    intro k19 hk19 x1 x2 x4 x5 σ H locs ls hf hW hl
    unfold L_X8_laws_64 at hf
    refine ow_iinc (d := 1) (lv' := fun z => [(5, .int z), (0, .ref (ow_ad Z 0)), (1, .int x1), (2, .int x2), (4, .int x4)]) hx hb hf dX8_laws_64 hl (k := 4) rfl (by decide) (by decide) (fun z => rfl) (fun x5_64 hf ls hl => ?_)
    refine lv_goto (tgt := 19) hx hb dX8_laws_67 (by decide) ?_
    exact hk19 x1 x2 x4 x5_64 σ _ _ _ hf hW (lv_sub hl [1, 2, 3, 4, 0] rfl)
  have hJ19 : ∀ (fn : Nat), ∀ (x1 : Int32) (x2 : Int32) (x4 : Int32) (x5 : Int32) (σ : ow_S) (H : Heap) (locs : List Loc) (ls : Array Slot), L_X8_laws_19 fu fn x1 x2 x4 x5 σ = some (rr, σr) → ow_Wd Z 0 56 σ s H locs → lv_has ls 6 [(0, .ref (ow_ad Z 0)), (1, .int x1), (2, .int x2), (4, .int x4), (5, .int x5)] → W p l e (headSpec wsX8_laws { frames := 8, cells := 0, slots := 0, locals := 229 }).room s m args below meth c H locs 0 0 (MQ below (ow_Qi Z 0 56 rr σr) args s 0 0 (ow_A Z 0 56)) (F0 m 19 ls []) := by
    intro fn
    induction fn with
    | zero => intro x1 x2 x4 x5 σ H locs ls hf hW hl; simp [L_X8_laws_19] at hf
    | succ fn ih =>
      intro x1 x2 x4 x5 σ H locs ls hf hW hl
      rw [L_X8_laws_19] at hf
      refine lv_iload hx hb dX8_laws_19 (lv_at hl 4 rfl) ?_
      refine lv_aload_n hx hb dX8_laws_21 rfl (lv_at hl 0 rfl) ?_
      refine ow_getV (ci := 8) (C := RX8) (T := TX8) (N := 15) hx hb hts hown hG hW ow_i0 (by decide) rfl hinX8 13 (by decide) (fk := 0) rfl (hts (.fieldLink RX8 81 "FiftyOneCards" "textCount" "I") (by decide +kernel)) (v := .int (σ.1 0 13)) rfl dX8_laws_22 ?_
      refine lv_icmp_ge (tgt := 70) hx hb dX8_laws_25 (by decide) (fun c25 => ?_) (fun c25 => ?_)
      · replace hf := ow_if_t c25 hf
        refine lv_iload hx hb dX8_laws_70 (lv_at hl 3 rfl) ?_
        exact ow_iret hx hb hr hW hf dX8_laws_72 hlocks
      · replace hf := ow_if_f c25 hf
        refine lv_aload_n hx hb dX8_laws_28 rfl (lv_at hl 0 rfl) ?_
        refine lv_aload_n hx hb dX8_laws_29 rfl (lv_at hl 0 rfl) ?_
        refine ow_getV (ci := 8) (C := RX8) (T := TX8) (N := 15) hx hb hts hown hG hW ow_i0 (by decide) rfl hinX8 9 (by decide) (fk := 2) rfl (hts (.fieldLink RX8 63 "FiftyOneCards" "sheets" "[LFiftyOneCards$Sheet;") (by decide +kernel)) (v := .ref (ow_ad Z 15)) (ow_vR hW ow_i0.1 ow_i0.2.1 rfl) dX8_laws_30 ?_
        refine lv_iload_n hx hb dX8_laws_33 rfl (lv_at hl 1 rfl) ?_
        refine ow_rld (f := fun j => 48 + 2 * j) (ct := 5) hx hb hG hW ow_i15 ⟨by decide, by decide⟩ rfl ow_ra15 hf dX8_laws_34 (fun h_34 hf hi34 => ?_)
        refine lv_aload_n hx hb dX8_laws_35 rfl (lv_at hl 0 rfl) ?_
        refine ow_getV (ci := 8) (C := RX8) (T := TX8) (N := 15) hx hb hts hown hG hW ow_i0 (by decide) rfl hinX8 2 (by decide) (fk := 2) rfl (hts (.fieldLink RX8 21 "FiftyOneCards" "heads" "[LFiftyOneCards$Head;") (by decide +kernel)) (v := .ref (ow_ad Z 5)) (ow_vR hW ow_i0.1 ow_i0.2.1 rfl) dX8_laws_36 ?_
        refine lv_iload_n hx hb dX8_laws_39 rfl (lv_at hl 2 rfl) ?_
        refine ow_rld (f := fun j => 25 + j) (ct := 0) hx hb hG hW ow_i5 ⟨by decide, by decide⟩ rfl ow_ra5 hf dX8_laws_40 (fun h_40 hf hi40 => ?_)
        refine lv_aload_n hx hb dX8_laws_41 rfl (lv_at hl 0 rfl) ?_
        refine ow_getV (ci := 8) (C := RX8) (T := TX8) (N := 15) hx hb hts hown hG hW ow_i0 (by decide) rfl hinX8 5 (by decide) (fk := 2) rfl (hts (.fieldLink RX8 39 "FiftyOneCards" "texts" "[LFiftyOneCards$Text;") (by decide +kernel)) (v := .ref (ow_ad Z 9)) (ow_vR hW ow_i0.1 ow_i0.2.1 rfl) dX8_laws_42 ?_
        refine lv_iload hx hb dX8_laws_45 (lv_at hl 4 rfl) ?_
        refine ow_rld (f := fun j => 30 + 3 * j) (ct := 6) hx hb hG hW ow_i9 ⟨by decide, by decide⟩ rfl ow_ra9 hf dX8_laws_47 (fun h_47 hf hi47 => ?_)
        obtain ⟨r_48, σ_48, hc48, hf⟩ := ow_cl_i hf
        refine ow_calli (va_runV (As := [.ref (ow_ad Z h_34), .ref (ow_ad Z h_40), .ref (ow_ad Z h_47)]) (rest := []) ⟨hx, hb, hml, hown, hts⟩ (c_X8_firstUnlike l Z fu h_34 hi34 h_40 hi40 h_47 hi47 σ r_48 σ_48 hc48) (cwV 3 hts gX8_laws_X8_firstUnlike rfl rfl rfl (by decide +kernel) ⟨Nat.le_of_ble_eq_true rfl, Nat.le_of_ble_eq_true rfl⟩) (ow_preV hG hW ow_i0 (by decide) rfl) rfl rfl hl.1 rfl (lv_room (Nat.le_of_ble_eq_true rfl)) dX8_laws_48 ⟨Nat.zero_le _, Nat.zero_le _⟩) hW (fun H locs hW => ?_)
        refine lv_iconst (v := -1) hx hb dX8_laws_51 (by decide) ?_
        refine lv_icmp_ne (tgt := 64) hx hb dX8_laws_52 (by decide) (fun c52 => ?_) (fun c52 => ?_)
        · replace hf := ow_if_f c52 hf
          exact hJ64 (L_X8_laws_19 fu fn) ih x1 x2 x4 x5 σ_48 _ _ _ hf hW (lv_sub hl [0, 1, 2, 3, 4] rfl)
        · replace hf := ow_if_t c52 hf
          refine lv_iload hx hb dX8_laws_55 (lv_at hl 3 rfl) ?_
          refine lv_iconst (v := 1) hx hb dX8_laws_57 (by decide) ?_
          refine lv_iload hx hb dX8_laws_58 (lv_at hl 4 rfl) ?_
          refine lv_ishl hx hb dX8_laws_60 ?_
          refine lv_ior hx hb dX8_laws_61 ?_
          refine ow_topi hf (fun x4_62 hf => ?_)
          refine lv_istore (lv' := [(4, .int x4_62), (0, .ref (ow_ad Z 0)), (1, .int x1), (2, .int x2), (5, .int x5)]) hx hb dX8_laws_62 hl (by decide) rfl (fun ls hl => ?_)
          exact hJ64 (L_X8_laws_19 fu fn) ih x1 x2 x4_62 x5 σ_48 _ _ _ hf hW (lv_sub hl [1, 2, 3, 0, 4] rfl)
  have hl := lv_entry ([.ref (ow_ad Z 0), .int a1, .int a2]) (n := 6) (Nat.le_of_ble_eq_true rfl)
  refine W.eq (g2 := F0 m 0 ((lg_sl ([.ref (ow_ad Z 0), .int a1, .int a2]) ++ List.replicate (6 - (lg_sl ([.ref (ow_ad Z 0), .int a1, .int a2])).length) Slot.unset).toArray) []) (by rw [hav]; exact lg_entry_eq _ _ _) ?_
  generalize (lg_sl ([.ref (ow_ad Z 0), .int a1, .int a2]) ++ List.replicate (6 - (lg_sl ([.ref (ow_ad Z 0), .int a1, .int a2])).length) Slot.unset).toArray = ls at hl ⊢
  have hl : lv_has ls 6 [(0, .ref (ow_ad Z 0)), (1, .int a1), (2, .int a2)] := hl
  unfold f_X8_laws at hf
  refine lv_aload_n hx hb dX8_laws_0 rfl (lv_at hl 0 rfl) ?_
  refine lv_iload_n hx hb dX8_laws_1 rfl (lv_at hl 1 rfl) ?_
  refine lv_iload_n hx hb dX8_laws_2 rfl (lv_at hl 2 rfl) ?_
  obtain ⟨r_3, σ_3, hc3, hf⟩ := ow_cl_i hf
  refine ow_calli (va_runV (As := [.int a1, .int a2]) (rest := []) ⟨hx, hb, hml, hown, hts⟩ (c_X8_refusalOfSayings l Z fu a1 a2 σ r_3 σ_3 hc3) (cwV 2 hts gX8_laws_X8_refusalOfSayings rfl rfl rfl (by decide +kernel) ⟨Nat.le_of_ble_eq_true rfl, Nat.le_of_ble_eq_true rfl⟩) (ow_preV hG hW ow_i0 (by decide) rfl) rfl rfl hl.1 rfl (lv_room (Nat.le_of_ble_eq_true rfl)) dX8_laws_3 ⟨Nat.zero_le _, Nat.zero_le _⟩) hW (fun H locs hW => ?_)
  refine lv_istore_n (lv' := [(3, .int r_3), (0, .ref (ow_ad Z 0)), (1, .int a1), (2, .int a2)]) hx hb dX8_laws_6 rfl hl (by decide) rfl (fun ls hl => ?_)
  refine lv_iload_n hx hb dX8_laws_7 rfl (lv_at hl 0 rfl) ?_
  refine lv_if_eq (tgt := 13) hx hb dX8_laws_8 (by decide) (fun c8 => ?_) (fun c8 => ?_)
  · replace hf := ow_if_t c8 hf
    refine lv_iconst (v := 0) hx hb dX8_laws_13 (by decide) ?_
    refine lv_istore (lv' := [(4, .int (0 : Int32)), (3, .int r_3), (0, .ref (ow_ad Z 0)), (1, .int a1), (2, .int a2)]) hx hb dX8_laws_14 hl (by decide) rfl (fun ls hl => ?_)
    refine lv_iconst (v := 0) hx hb dX8_laws_16 (by decide) ?_
    refine lv_istore (lv' := [(5, .int (0 : Int32)), (4, .int (0 : Int32)), (3, .int r_3), (0, .ref (ow_ad Z 0)), (1, .int a1), (2, .int a2)]) hx hb dX8_laws_17 hl (by decide) rfl (fun ls hl => ?_)
    exact hJ19 fu a1 a2 (0 : Int32) (0 : Int32) σ_3 _ _ _ hf hW (lv_sub hl [3, 4, 5, 1, 0] rfl)
  · replace hf := ow_if_f c8 hf
    refine lv_iload_n hx hb dX8_laws_11 rfl (lv_at hl 0 rfl) ?_
    exact ow_iret hx hb hr hW hf dX8_laws_12 hlocks
set_option maxHeartbeats 40000000 in
set_option maxRecDepth 100000 in
theorem c_X8_whose (l : Launch) (Z : ow_Z) (fu : Nat) (a1 : Int32) (σ : ow_S) (rr : Int32) (σr : ow_S) (hf : f_X8_whose fu a1 σ = some (rr, σr)) : Met l yX8_whose wsX8_whose { frames := 8, cells := 0, slots := 0, locals := 229 } (ow_Pc Z 0 56 [.ref (ow_ad Z 0), .int a1] σ) (ow_Qi Z 0 56 rr σr) 0 0 (ow_A Z 0 56) := by
  refine Met.ofW (cc := cX8_whose) (maxL := 5) (ret := (some .int)) (by decide) rfl ?_
  intro p e s m args below meth c s₁ B hml hv
  obtain ⟨hav, hB⟩ := hv
  obtain ⟨hG, hW⟩ := ow_begin hB
  have hx := B.exec
  have hb := B.bytes
  have hr := B.returns
  have hts := atoms_spec (ws := wsX8_whose) B.pre
  have hown : s.vm.findClass RX8 = some m.cls := findClass_of_methodNamed B.named
  have hlocks := B.notSynchronized
  have hinX8 : ∀ w ∈ wsX80, w ∈ wsX8_whose := by decide +kernel
  have hJ58 : ∀ (k17 : Int32 → Int32 → Int32 → ow_S → Option (Int32 × ow_S)) (hk17 : ∀ (x1 : Int32) (x3 : Int32) (x4 : Int32) (σ : ow_S) (H : Heap) (locs : List Loc) (ls : Array Slot), k17 x1 x3 x4 σ = some (rr, σr) → ow_Wd Z 0 56 σ s H locs → lv_has ls 5 [(0, .ref (ow_ad Z 0)), (1, .int x1), (3, .int x3), (4, .int x4)] → W p l e (headSpec wsX8_whose { frames := 8, cells := 0, slots := 0, locals := 229 }).room s m args below meth c H locs 0 0 (MQ below (ow_Qi Z 0 56 rr σr) args s 0 0 (ow_A Z 0 56)) (F0 m 17 ls [])), ∀ (x1 : Int32) (x3 : Int32) (x4 : Int32) (σ : ow_S) (H : Heap) (locs : List Loc) (ls : Array Slot), L_X8_whose_58 fu k17 x1 x3 x4 σ = some (rr, σr) → ow_Wd Z 0 56 σ s H locs → lv_has ls 5 [(0, .ref (ow_ad Z 0)), (1, .int x1), (3, .int x3), (4, .int x4)] → W p l e (headSpec wsX8_whose { frames := 8, cells := 0, slots := 0, locals := 229 }).room s m args below meth c H locs 0 0 (MQ below (ow_Qi Z 0 56 rr σr) args s 0 0 (ow_A Z 0 56)) (F0 m 58 ls []) := by
    intro k17 hk17 x1 x3 x4 σ H locs ls hf hW hl
    unfold L_X8_whose_58 at hf
    refine ow_iinc (d := 1) (lv' := fun z => [(4, .int z), (0, .ref (ow_ad Z 0)), (1, .int x1), (3, .int x3)]) hx hb hf dX8_whose_58 hl (k := 3) rfl (by decide) (by decide) (fun z => rfl) (fun x4_58 hf ls hl => ?_)
    refine lv_goto (tgt := 17) hx hb dX8_whose_61 (by decide) ?_
    exact hk17 x1 x3 x4_58 σ _ _ _ hf hW (lv_sub hl [1, 2, 3, 0] rfl)
  have hJ17 : ∀ (fn : Nat), ∀ (x1 : Int32) (x3 : Int32) (x4 : Int32) (σ : ow_S) (H : Heap) (locs : List Loc) (ls : Array Slot), L_X8_whose_17 fu fn x1 x3 x4 σ = some (rr, σr) → ow_Wd Z 0 56 σ s H locs → lv_has ls 5 [(0, .ref (ow_ad Z 0)), (1, .int x1), (3, .int x3), (4, .int x4)] → W p l e (headSpec wsX8_whose { frames := 8, cells := 0, slots := 0, locals := 229 }).room s m args below meth c H locs 0 0 (MQ below (ow_Qi Z 0 56 rr σr) args s 0 0 (ow_A Z 0 56)) (F0 m 17 ls []) := by
    intro fn
    induction fn with
    | zero => intro x1 x3 x4 σ H locs ls hf hW hl; simp [L_X8_whose_17] at hf
    | succ fn ih =>
      intro x1 x3 x4 σ H locs ls hf hW hl
      rw [L_X8_whose_17] at hf
      refine lv_iload hx hb dX8_whose_17 (lv_at hl 3 rfl) ?_
      refine lv_aload_n hx hb dX8_whose_19 rfl (lv_at hl 0 rfl) ?_
      refine ow_getV (ci := 8) (C := RX8) (T := TX8) (N := 15) hx hb hts hown hG hW ow_i0 (by decide) rfl hinX8 12 (by decide) (fk := 0) rfl (hts (.fieldLink RX8 78 "FiftyOneCards" "headCount" "I") (by decide +kernel)) (v := .int (σ.1 0 12)) rfl dX8_whose_20 ?_
      refine lv_icmp_ge (tgt := 64) hx hb dX8_whose_23 (by decide) (fun c23 => ?_) (fun c23 => ?_)
      · replace hf := ow_if_t c23 hf
        refine lv_iload_n hx hb dX8_whose_64 rfl (lv_at hl 2 rfl) ?_
        exact ow_iret hx hb hr hW hf dX8_whose_65 hlocks
      · replace hf := ow_if_f c23 hf
        refine lv_aload_n hx hb dX8_whose_26 rfl (lv_at hl 0 rfl) ?_
        refine lv_aload_n hx hb dX8_whose_27 rfl (lv_at hl 0 rfl) ?_
        refine ow_getV (ci := 8) (C := RX8) (T := TX8) (N := 15) hx hb hts hown hG hW ow_i0 (by decide) rfl hinX8 9 (by decide) (fk := 2) rfl (hts (.fieldLink RX8 63 "FiftyOneCards" "sheets" "[LFiftyOneCards$Sheet;") (by decide +kernel)) (v := .ref (ow_ad Z 15)) (ow_vR hW ow_i0.1 ow_i0.2.1 rfl) dX8_whose_28 ?_
        refine lv_iload_n hx hb dX8_whose_31 rfl (lv_at hl 1 rfl) ?_
        refine ow_rld (f := fun j => 48 + 2 * j) (ct := 5) hx hb hG hW ow_i15 ⟨by decide, by decide⟩ rfl ow_ra15 hf dX8_whose_32 (fun h_32 hf hi32 => ?_)
        refine lv_aload_n hx hb dX8_whose_33 rfl (lv_at hl 0 rfl) ?_
        refine ow_getV (ci := 8) (C := RX8) (T := TX8) (N := 15) hx hb hts hown hG hW ow_i0 (by decide) rfl hinX8 2 (by decide) (fk := 2) rfl (hts (.fieldLink RX8 21 "FiftyOneCards" "heads" "[LFiftyOneCards$Head;") (by decide +kernel)) (v := .ref (ow_ad Z 5)) (ow_vR hW ow_i0.1 ow_i0.2.1 rfl) dX8_whose_34 ?_
        refine lv_iload hx hb dX8_whose_37 (lv_at hl 3 rfl) ?_
        refine ow_rld (f := fun j => 25 + j) (ct := 0) hx hb hG hW ow_i5 ⟨by decide, by decide⟩ rfl ow_ra5 hf dX8_whose_39 (fun h_39 hf hi39 => ?_)
        refine lv_aload_n hx hb dX8_whose_40 rfl (lv_at hl 0 rfl) ?_
        obtain ⟨r_41, σ_41, hc41, hf⟩ := ow_cl_i hf
        refine ow_callr (va_runV (As := []) (rest := [.ref (ow_ad Z h_39), .ref (ow_ad Z h_32), .ref (ow_ad Z 0)]) ⟨hx, hb, hml, hown, hts⟩ (c_X8_lawText l Z fu σ r_41 σ_41 hc41) (cwV 0 hts gX8_whose_X8_lawText rfl rfl rfl (by decide +kernel) ⟨Nat.le_of_ble_eq_true rfl, Nat.le_of_ble_eq_true rfl⟩) (ow_preV hG hW ow_i0 (by decide) rfl) rfl rfl hl.1 rfl (lv_room (Nat.le_of_ble_eq_true rfl)) dX8_whose_41 ⟨Nat.zero_le _, Nat.zero_le _⟩) hW (fun b41 H locs hW => ?_)
        obtain ⟨r_44, σ_44, hc44, hf⟩ := ow_cl_i hf
        refine ow_calli (va_runV (As := [.ref (ow_ad Z h_32), .ref (ow_ad Z h_39), .ref (ow_ad Z r_41)]) (rest := []) ⟨hx, hb, hml, hown, hts⟩ (c_X8_firstUnlike l Z fu h_32 hi32 h_39 hi39 r_41 b41 σ_41 r_44 σ_44 hc44) (cwV 3 hts gX8_whose_X8_firstUnlike rfl rfl rfl (by decide +kernel) ⟨Nat.le_of_ble_eq_true rfl, Nat.le_of_ble_eq_true rfl⟩) (ow_preV hG hW ow_i0 (by decide) rfl) rfl rfl hl.1 rfl (lv_room (Nat.le_of_ble_eq_true rfl)) dX8_whose_44 ⟨Nat.zero_le _, Nat.zero_le _⟩) hW (fun H locs hW => ?_)
        refine lv_iconst (v := -1) hx hb dX8_whose_47 (by decide) ?_
        refine lv_icmp_ne (tgt := 58) hx hb dX8_whose_48 (by decide) (fun c48 => ?_) (fun c48 => ?_)
        · replace hf := ow_if_f c48 hf
          exact hJ58 (L_X8_whose_17 fu fn) ih x1 x3 x4 σ_44 _ _ _ hf hW (lv_sub hl [0, 1, 2, 3] rfl)
        · replace hf := ow_if_t c48 hf
          refine lv_iload_n hx hb dX8_whose_51 rfl (lv_at hl 2 rfl) ?_
          refine lv_iconst (v := 1) hx hb dX8_whose_52 (by decide) ?_
          refine lv_iload hx hb dX8_whose_53 (lv_at hl 3 rfl) ?_
          refine lv_ishl hx hb dX8_whose_55 ?_
          refine lv_ior hx hb dX8_whose_56 ?_
          refine ow_topi hf (fun x3_57 hf => ?_)
          refine lv_istore_n (lv' := [(3, .int x3_57), (0, .ref (ow_ad Z 0)), (1, .int x1), (4, .int x4)]) hx hb dX8_whose_57 rfl hl (by decide) rfl (fun ls hl => ?_)
          exact hJ58 (L_X8_whose_17 fu fn) ih x1 x3_57 x4 σ_44 _ _ _ hf hW (lv_sub hl [1, 2, 0, 3] rfl)
  have hl := lv_entry ([.ref (ow_ad Z 0), .int a1]) (n := 5) (Nat.le_of_ble_eq_true rfl)
  refine W.eq (g2 := F0 m 0 ((lg_sl ([.ref (ow_ad Z 0), .int a1]) ++ List.replicate (5 - (lg_sl ([.ref (ow_ad Z 0), .int a1])).length) Slot.unset).toArray) []) (by rw [hav]; exact lg_entry_eq _ _ _) ?_
  generalize (lg_sl ([.ref (ow_ad Z 0), .int a1]) ++ List.replicate (5 - (lg_sl ([.ref (ow_ad Z 0), .int a1])).length) Slot.unset).toArray = ls at hl ⊢
  have hl : lv_has ls 5 [(0, .ref (ow_ad Z 0)), (1, .int a1)] := hl
  unfold f_X8_whose at hf
  refine lv_aload_n hx hb dX8_whose_0 rfl (lv_at hl 0 rfl) ?_
  refine lv_iload_n hx hb dX8_whose_1 rfl (lv_at hl 1 rfl) ?_
  obtain ⟨r_2, σ_2, hc2, hf⟩ := ow_cl_i hf
  refine ow_calli (va_runV (As := [.int a1]) (rest := []) ⟨hx, hb, hml, hown, hts⟩ (c_X8_refusalOfSheet l Z fu a1 σ r_2 σ_2 hc2) (cwV 1 hts gX8_whose_X8_refusalOfSheet rfl rfl rfl (by decide +kernel) ⟨Nat.le_of_ble_eq_true rfl, Nat.le_of_ble_eq_true rfl⟩) (ow_preV hG hW ow_i0 (by decide) rfl) rfl rfl hl.1 rfl (lv_room (Nat.le_of_ble_eq_true rfl)) dX8_whose_2 ⟨Nat.zero_le _, Nat.zero_le _⟩) hW (fun H locs hW => ?_)
  refine lv_istore_n (lv' := [(2, .int r_2), (0, .ref (ow_ad Z 0)), (1, .int a1)]) hx hb dX8_whose_5 rfl hl (by decide) rfl (fun ls hl => ?_)
  refine lv_iload_n hx hb dX8_whose_6 rfl (lv_at hl 0 rfl) ?_
  refine lv_if_eq (tgt := 12) hx hb dX8_whose_7 (by decide) (fun c7 => ?_) (fun c7 => ?_)
  · replace hf := ow_if_t c7 hf
    refine lv_iconst (v := 0) hx hb dX8_whose_12 (by decide) ?_
    refine lv_istore_n (lv' := [(3, .int (0 : Int32)), (2, .int r_2), (0, .ref (ow_ad Z 0)), (1, .int a1)]) hx hb dX8_whose_13 rfl hl (by decide) rfl (fun ls hl => ?_)
    refine lv_iconst (v := 0) hx hb dX8_whose_14 (by decide) ?_
    refine lv_istore (lv' := [(4, .int (0 : Int32)), (3, .int (0 : Int32)), (2, .int r_2), (0, .ref (ow_ad Z 0)), (1, .int a1)]) hx hb dX8_whose_15 hl (by decide) rfl (fun ls hl => ?_)
    exact hJ17 fu a1 (0 : Int32) (0 : Int32) σ_2 _ _ _ hf hW (lv_sub hl [3, 4, 1, 0] rfl)
  · replace hf := ow_if_f c7 hf
    refine lv_iload_n hx hb dX8_whose_10 rfl (lv_at hl 0 rfl) ?_
    exact ow_iret hx hb hr hW hf dX8_whose_11 hlocks

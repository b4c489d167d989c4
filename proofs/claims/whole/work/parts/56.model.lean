theorem gd9_0 : ∀ c, 57 ≤ c → c < 76 → gdf ow_0 c := fun c _ _ => gdf_0 c
def s9_1 : ow_S := ow_sI ow_0 56 0 10
theorem gd9_1 : ∀ c, 57 ≤ c → c < 76 → gdf s9_1 c := fun c h1 h2 => ((gd9_0 c (by omega) h2).sI (by omega))
def s9_2 : ow_S := ow_sR s9_1 56 1 (some 57)
theorem gd9_2 : ∀ c, 58 ≤ c → c < 76 → gdf s9_2 c := fun c h1 h2 => ((gd9_1 c (by omega) h2).sR (by omega))
def s9_3 : ow_S := ow_sR s9_2 56 4 (some 58)
theorem gd9_3 : ∀ c, 59 ≤ c → c < 76 → gdf s9_3 c := fun c h1 h2 => ((gd9_2 c (by omega) h2).sR (by omega))
def s9_4 : ow_S := ow_sR s9_3 56 5 (some 59)
theorem gd9_4 : ∀ c, 60 ≤ c → c < 76 → gdf s9_4 c := fun c h1 h2 => ((gd9_3 c (by omega) h2).sR (by omega))
def s9_5 : ow_S := ow_sR s9_4 56 6 (some 60)
theorem gd9_5 : ∀ c, 61 ≤ c → c < 76 → gdf s9_5 c := fun c h1 h2 => ((gd9_4 c (by omega) h2).sR (by omega))
def s9_6 : ow_S := ow_sR s9_5 56 7 (some 61)
theorem gd9_6 : ∀ c, 62 ≤ c → c < 76 → gdf s9_6 c := fun c h1 h2 => ((gd9_5 c (by omega) h2).sR (by omega))
def s9_7 : ow_S := ow_sR s9_6 56 9 (some 62)
theorem gd9_7 : ∀ c, 63 ≤ c → c < 76 → gdf s9_7 c := fun c h1 h2 => ((gd9_6 c (by omega) h2).sR (by omega))
def s9_8 : ow_S := ow_sR s9_7 56 10 (some 63)
theorem gd9_8 : ∀ c, 64 ≤ c → c < 76 → gdf s9_8 c := fun c h1 h2 => ((gd9_7 c (by omega) h2).sR (by omega))
def s9_9 : ow_S := ow_sR s9_8 56 18 (some 64)
theorem gd9_9 : ∀ c, 65 ≤ c → c < 76 → gdf s9_9 c := fun c h1 h2 => ((gd9_8 c (by omega) h2).sR (by omega))
def s9_10 : ow_S := ow_sR s9_9 56 19 (some 65)
theorem gd9_10 : ∀ c, 66 ≤ c → c < 76 → gdf s9_10 c := fun c h1 h2 => ((gd9_9 c (by omega) h2).sR (by omega))
def s9_11 : ow_S := ow_sR (m_fill 66 m9_L66 4 s9_10) 56 20 (some 66)
theorem gd9_11 : ∀ c, 67 ≤ c → c < 76 → gdf s9_11 c := fun c h1 h2 => ((gdf_fill (by omega) _ _ (gd9_10 c (by omega) h2)).sR (by omega))
def s9_12 : ow_S := ow_sR s9_11 56 21 (some 67)
theorem gd9_12 : ∀ c, 68 ≤ c → c < 76 → gdf s9_12 c := fun c h1 h2 => ((gd9_11 c (by omega) h2).sR (by omega))
def s9_13 : ow_S := ow_sR s9_12 56 22 (some 68)
theorem gd9_13 : ∀ c, 69 ≤ c → c < 76 → gdf s9_13 c := fun c h1 h2 => ((gd9_12 c (by omega) h2).sR (by omega))
def s9_14 : ow_S := ow_sR (m_fill 69 m9_L69 40 s9_13) 56 23 (some 69)
theorem gd9_14 : ∀ c, 70 ≤ c → c < 76 → gdf s9_14 c := fun c h1 h2 => ((gdf_fill (by omega) _ _ (gd9_13 c (by omega) h2)).sR (by omega))
def s9_15 : ow_S := ow_sR (m_fill 70 m9_L70 96 s9_14) 56 28 (some 70)
theorem gd9_15 : ∀ c, 71 ≤ c → c < 76 → gdf s9_15 c := fun c h1 h2 => ((gdf_fill (by omega) _ _ (gd9_14 c (by omega) h2)).sR (by omega))
def s9_16 : ow_S := ow_sR s9_15 56 29 (some 71)
theorem gd9_16 : ∀ c, 72 ≤ c → c < 76 → gdf s9_16 c := fun c h1 h2 => ((gd9_15 c (by omega) h2).sR (by omega))
def s9_17 : ow_S := ow_sR s9_16 56 33 (some 72)
theorem gd9_17 : ∀ c, 73 ≤ c → c < 76 → gdf s9_17 c := fun c h1 h2 => ((gd9_16 c (by omega) h2).sR (by omega))
def s9_18 : ow_S := ow_sR s9_17 56 34 (some 73)
theorem gd9_18 : ∀ c, 74 ≤ c → c < 76 → gdf s9_18 c := fun c h1 h2 => ((gd9_17 c (by omega) h2).sR (by omega))
def s9_19 : ow_S := ow_sR s9_18 56 35 (some 74)
theorem gd9_19 : ∀ c, 75 ≤ c → c < 76 → gdf s9_19 c := fun c h1 h2 => ((gd9_18 c (by omega) h2).sR (by omega))
def s9_20 : ow_S := ow_sR s9_19 56 39 (some 75)
theorem gd9_20 : ∀ c, 76 ≤ c → c < 76 → gdf s9_20 c := fun c h1 h2 => ((gd9_19 c (by omega) h2).sR (by omega))
def i_X9 : ow_S := ow_sI (m_cp 40 0 s9_20) 56 8 40
theorem m_cp_2 : ∀ (q i : Nat) (σ : ow_S), (m_cp q i σ).2 = σ.2 := by
  intro q
  induction q with
  | zero => intro i σ; rfl
  | succ q ih => intro i σ; rw [m_cp, ih]; rfl
theorem ok9_rl : ∀ j, j < 41 → ow_rl 56 j ≠ none → s9_20.2.2 56 j = ow_rl 56 j := by decide +kernel
theorem rl_56 : ∀ k, 56 ≤ k → ∀ j, k ≠ 56 ∨ 41 ≤ j → k < 76 → ow_rl k j = none := by
  intro k hk j hj hk2
  have hK : ow_K k = 9 ∨ ow_K k = 10 := by
    have h := (by decide +kernel : ∀ z, z < 20 → ow_K (56 + z) = 9 ∨ ow_K (56 + z) = 10) (k - 56) (by omega)
    rwa [show 56 + (k - 56) = k by omega] at h
  unfold ow_rl
  rw [if_neg (by omega), if_neg (by omega), if_neg (by omega), if_neg (by omega), if_neg (by omega), if_neg (by omega), if_neg (by omega), if_neg (by omega), if_neg (by omega), if_neg (by omega), if_neg (by omega)]
  by_cases c : k = 56
  · rw [if_pos c, List.getD_eq_getElem?_getD, List.getElem?_eq_none (by simp; omega)]; rfl
  · rw [if_neg c]
theorem ok9 : ow_Ok 56 20 i_X9.2.2 := by
  have e : i_X9.2.2 = s9_20.2.2 := by show (m_cp 40 0 s9_20).2.2 = _; rw [m_cp_2]
  rw [e]
  refine ⟨fun k j c h1 h2 h => ?_, fun k t hk h => ?_⟩
  · by_cases hj : k = 56 ∧ j < 41
    · obtain ⟨rfl, hj⟩ := hj
      rw [ok9_rl j hj (by rw [h]; simp), h]
    · rw [rl_56 k h1 j (by omega) (by omega)] at h; cases h
  · exfalso
    rcases hk with rfl | rfl
    · rw [show s9_20.2.2 7 (if 7 = 7 then 6 else 2) = none by decide +kernel] at h; cases h
    · rw [show s9_20.2.2 10 (if 10 = 7 then 6 else 2) = none by decide +kernel] at h; cases h
set_option maxHeartbeats 4000000 in
set_option maxRecDepth 100000 in
theorem k_X9 (l : Launch) (Z : ow_Z) (fu : Nat) (h sz : Nat) (ads0 : List Nat) (hads : ads0 = [h]) (r : Int32) (σr : ow_S) (hf : f_X9_text fu i_X9 = some (r, σr)) : Met l yX9_init wsX9_init { frames := 20, cells := 19, slots := 2574, locals := 1000 } (va_Pc [.ref h] (fun U => gB Z 56 ads0 ow_0 sz U ∧ ow_Gs Z (gA Z 56 ads0 ow_0 sz) U U.heap)) (va_Qv (fun b : List Nat => b.length = 19) (fun b t => va_P Z.1 vwCl (gws Z 56 (ads0 ++ b) σr) t.heap ∧ va_D (gA Z 56 ads0 ow_0 sz) (gws Z 56 (ads0 ++ b) σr) ∧ ow_Ok 56 20 σr.2.2) (gA Z 56 ads0 ow_0 sz)) 19 2574 (gA Z 56 ads0 ow_0 sz) := by
  refine Met.ofW (cc := cX9_init) (maxL := 2) (ret := none) (by decide) rfl ?_
  intro p e s m args below meth c s₁ B hml hv
  obtain ⟨hav, hB, hGs⟩ := hv
  obtain ⟨hA, hG, hW⟩ := gB_begin hB
  have hx := B.exec
  have hb := B.bytes
  have hr := B.returns
  have hts := atoms_spec (ws := wsX9_init) B.pre
  have hown : s.vm.findClass RX9 = some m.cls := findClass_of_methodNamed B.named
  have hlocks := B.notSynchronized
  have hin : meth.name = "<init>" := (name_of_methodNamed B.named B.method).1
  have hinX9 : ∀ w ∈ wsX90, w ∈ wsX9_init := by decide +kernel
  have hl := lv_entry ([.ref h]) (n := 2) (Nat.le_of_ble_eq_true rfl)
  refine W.eq (g2 := F0 m 0 ((lg_sl ([.ref h]) ++ List.replicate (2 - (lg_sl ([.ref h])).length) Slot.unset).toArray) []) (by rw [hav]; exact lg_entry_eq _ _ _) ?_
  generalize (lg_sl ([.ref h]) ++ List.replicate (2 - (lg_sl ([.ref h])).length) Slot.unset).toArray = ls at hl ⊢
  have hl : lv_has ls 2 [(0, .ref h)] := hl
  have hn0 : ads0.length = 1 := by rw [hads]; rfl
  have ha_h : ow_ad (gz Z 56 ads0) 56 = h := by rw [hads]; rfl
  have hp0 : ∃ b, ads0 = ads0 ++ b := ⟨[], (List.append_nil _).symm⟩
  have hJ : ∀ (ads : List Nat) (hn : ads.length = 20) (ha_h : ow_ad (gz Z 56 ads) 56 = h) (q i : Nat) (σ : ow_S) (H : Heap) (locs : List Loc) (ls : Array Slot), i + q = 40 → σ.2.2 56 7 = some 61 → σ.2.2 56 23 = some 69 → gW Z (gA Z 56 ads0 ow_0 sz) 56 ads σ s H locs → lv_has ls 2 [(0, .ref h), (1, .int (nI i))] → (∀ (H : Heap) (locs : List Loc) (ls : Array Slot), gW Z (gA Z 56 ads0 ow_0 sz) 56 ads (m_cp q i σ) s H locs → lv_has ls 2 [(0, .ref h), (1, .int (nI 40))] → W p l e (headSpec wsX9_init { frames := 20, cells := 19, slots := 2574, locals := 1000 }).room s m args below meth c H locs 19 2574 (MQ below (va_Qv (fun b : List Nat => b.length = 19) (fun b t => va_P Z.1 vwCl (gws Z 56 (ads0 ++ b) σr) t.heap ∧ va_D (gA Z 56 ads0 ow_0 sz) (gws Z 56 (ads0 ++ b) σr) ∧ ow_Ok 56 20 σr.2.2) (gA Z 56 ads0 ow_0 sz)) args s 19 2574 (gA Z 56 ads0 ow_0 sz)) (F0 m 1010 ls [])) → W p l e (headSpec wsX9_init { frames := 20, cells := 19, slots := 2574, locals := 1000 }).room s m args below meth c H locs 19 2574 (MQ below (va_Qv (fun b : List Nat => b.length = 19) (fun b t => va_P Z.1 vwCl (gws Z 56 (ads0 ++ b) σr) t.heap ∧ va_D (gA Z 56 ads0 ow_0 sz) (gws Z 56 (ads0 ++ b) σr) ∧ ow_Ok 56 20 σr.2.2) (gA Z 56 ads0 ow_0 sz)) args s 19 2574 (gA Z 56 ads0 ow_0 sz)) (F0 m 986 ls []) := by
    intro ads hn ha_h q
    induction q with
    | zero =>
      intro i σ H locs ls hi h7 h23 hW hl kk
      obtain rfl : i = 40 := by omega
      refine lv_iload_n hx hb dX9_init_986 rfl (lv_at hl 1 rfl) ?_
      refine lv_bipush (v := 40) hx hb dX9_init_987 (by decide) ?_
      refine lv_icmp_ge (tgt := 1010) hx hb dX9_init_989 (by decide) (fun c => ?_) (fun c => absurd (show (40 : Int32) ≤ nI 40 by decide) c)
      exact kk _ _ _ hW hl
    | succ q ih =>
      intro i σ H locs ls hi h7 h23 hW hl kk
      refine lv_iload_n hx hb dX9_init_986 rfl (lv_at hl 1 rfl) ?_
      refine lv_bipush (v := 40) hx hb dX9_init_987 (by decide) ?_
      refine lv_icmp_ge (tgt := 1010) hx hb dX9_init_989 (by decide) (fun c => absurd ((n_le (a := 40) (b := i) (by decide) (by omega)).mp c) (by omega)) (fun c => ?_)
      refine lv_aload_n hx hb dX9_init_992 rfl (lv_at hl 0 rfl) ?_
      refine g_getR (k := 56) (ci := 9) (C := RX9) (T := TX9) (N := 41) hx hb hts hown hG.1 hW ha_h (by decide) (by rw [hn]; decide) rfl (by decide) rfl hinX9 7 (by decide) rfl (hts (.fieldLink RX9 26 "FiftyOneCardsModel" "tape" "[I") (by decide +kernel)) 61 h7 dX9_init_993 ?_
      refine lv_iload_n hx hb dX9_init_996 rfl (lv_at hl 1 rfl) ?_
      refine lv_aload_n hx hb dX9_init_997 rfl (lv_at hl 0 rfl) ?_
      refine g_getR (k := 56) (ci := 9) (C := RX9) (T := TX9) (N := 41) hx hb hts hown hG.1 hW ha_h (by decide) (by rw [hn]; decide) rfl (by decide) rfl hinX9 23 (by decide) rfl (hts (.fieldLink RX9 50 "FiftyOneCardsModel" "law" "[I") (by decide +kernel)) 69 h23 dX9_init_998 ?_
      refine lv_iload_n hx hb dX9_init_1001 rfl (lv_at hl 1 rfl) ?_
      refine g_ild (k := 69) (i := i) (L := 40) hx hb hG.1 hW rfl (by decide) (by rw [hn]; decide) rfl rfl (by omega) (by decide) dX9_init_1002 ?_
      refine g_ist (k := 61) (i := i) (L := 160) hx hb hG.1 hW rfl (by decide) (by rw [hn]; decide) rfl rfl rfl (by omega) (by decide) dX9_init_1003 (fun H locs hW => ?_)
      refine lv_iinc (v := nI (i + 1)) (lv' := [(1, .int (nI (i + 1))), (0, .ref h)]) hx hb dX9_init_1004 hl (k := 1) rfl (by rw [show Int32.ofInt 1 = nI 1 by decide, n_add]) (by decide) rfl (fun ls hl => ?_)
      refine lv_goto (tgt := 986) hx hb dX9_init_1007 (by decide) ?_
      exact ih (i + 1) (ow_sI σ 61 i (σ.1 69 i)) _ _ _ (by omega) h7 h23 hW (lv_sub hl [1, 0] rfl) kk
  refine lv_aload_n hx hb dX9_init_0 rfl (lv_at hl 0 rfl) ?_
  refine W.objInit hx hb hown (hts (.methodLink RX9 1 objectInit) (by decide +kernel)) (hts (.instanceMethod objectInit) (by decide +kernel)) (hts (.code objectInit ⟨#[0xb1]⟩ 1 none) (by decide +kernel)) rfl (by rw [hml]; exact hl.1) rfl dX9_init_1 (Nat.le_of_ble_eq_true rfl) (Nat.le_of_ble_eq_true rfl) ?_
  refine W.eq (g2 := F0 m 4 ls []) rfl ?_
  refine lv_aload_n hx hb dX9_init_4 rfl (lv_at hl 0 rfl) ?_
  refine lv_bipush (v := 10) hx hb dX9_init_5 (by decide) ?_
  refine g_putI (k := 56) (ci := 9) (C := RX9) (T := TX9) (N := 41) hx hb hts hown hG.1 hW ha_h (by decide) (by rw [hn0]; decide) rfl (by decide) rfl hinX9 tyX9 tyX9_ok nmX9 0 (by decide) rfl (hts (.fieldLink RX9 7 "FiftyOneCardsModel" "pack" "I") (by decide +kernel)) rfl rfl rfl dX9_init_7 (fun H locs hW => ?_)
  have hW : gW Z (gA Z 56 ads0 ow_0 sz) 56 ads0 s9_1 s H locs := hW
  refine lv_aload_n hx hb dX9_init_10 rfl (lv_at hl 0 rfl) ?_
  refine lv_bipush (v := 60) hx hb dX9_init_11 (by decide) ?_
  refine g_newa (n := 57) (L := 60) hx hb (hts (.arrayClass .int) (by decide +kernel)) hG.1 hW hA (by rw [hn0]) rfl rfl (gd9_1 57 (by decide) (by decide)) (by decide) (by decide) (Nat.le_of_ble_eq_true rfl) (Nat.le_of_ble_eq_true rfl) (Nat.le_of_ble_eq_true rfl) dX9_init_13 (fun q13 H hW => ?_)
  obtain ⟨ads1, hads1⟩ : ∃ z, z = ads0 ++ [q13] := ⟨_, rfl⟩
  rw [← hads1] at hW
  have hn1 : ads1.length = 2 := by rw [hads1, List.length_append, hn0]; rfl
  have ha_h : ow_ad (gz Z 56 ads1) 56 = h := by rw [hads1]; exact (gz_lt Z 56 ads0 [q13] (by rw [hn0]; decide)).trans ha_h
  have hp1 : ∃ b, ads1 = ads0 ++ b := by obtain ⟨b0, hb0⟩ := hp0; exact ⟨b0 ++ [q13], by rw [hads1, ← List.append_assoc, ← hb0]⟩
  have ha_q13 : ow_ad (gz Z 56 ads1) 57 = q13 := by rw [hads1, show 57 = 56 + ads0.length by rw [hn0]]; exact gz_new Z 56 ads0 q13
  refine g_putR (k := 56) (ci := 9) (C := RX9) (T := TX9) (N := 41) hx hb hts hown hG.1 hW ha_h (by decide) (by rw [hn1]; decide) rfl (by decide) rfl hinX9 tyX9 tyX9_ok nmX9 1 (by decide) rfl (hts (.fieldLink RX9 13 "FiftyOneCardsModel" "row" "[I") (by decide +kernel)) (Or.inr ⟨rfl, hin, rfl⟩) 57 (by rw [hn1]; decide) ha_q13 rfl rfl dX9_init_15 (fun H locs hW => ?_)
  have hW : gW Z (gA Z 56 ads0 ow_0 sz) 56 ads1 s9_2 s H locs := hW
  refine W.widen (k := 1) (n := 60) (by omega) (by omega) ?_
  refine lv_aload_n hx hb dX9_init_18 rfl (lv_at hl 0 rfl) ?_
  refine lv_iconst (v := 5) hx hb dX9_init_19 (by decide) ?_
  refine g_newa (n := 58) (L := 5) hx hb (hts (.arrayClass .int) (by decide +kernel)) hG.1 hW hA (by rw [hn1]) rfl rfl (gd9_2 58 (by decide) (by decide)) (by decide) (by decide) (Nat.le_of_ble_eq_true rfl) (Nat.le_of_ble_eq_true rfl) (Nat.le_of_ble_eq_true rfl) dX9_init_20 (fun q20 H hW => ?_)
  obtain ⟨ads2, hads2⟩ : ∃ z, z = ads1 ++ [q20] := ⟨_, rfl⟩
  rw [← hads2] at hW
  have hn2 : ads2.length = 3 := by rw [hads2, List.length_append, hn1]; rfl
  have ha_h : ow_ad (gz Z 56 ads2) 56 = h := by rw [hads2]; exact (gz_lt Z 56 ads1 [q20] (by rw [hn1]; decide)).trans ha_h
  have hp2 : ∃ b, ads2 = ads0 ++ b := by obtain ⟨b0, hb0⟩ := hp1; exact ⟨b0 ++ [q20], by rw [hads2, ← List.append_assoc, ← hb0]⟩
  have ha_q20 : ow_ad (gz Z 56 ads2) 58 = q20 := by rw [hads2, show 58 = 56 + ads1.length by rw [hn1]]; exact gz_new Z 56 ads1 q20
  refine g_putR (k := 56) (ci := 9) (C := RX9) (T := TX9) (N := 41) hx hb hts hown hG.1 hW ha_h (by decide) (by rw [hn2]; decide) rfl (by decide) rfl hinX9 tyX9 tyX9_ok nmX9 4 (by decide) rfl (hts (.fieldLink RX9 17 "FiftyOneCardsModel" "kind" "[I") (by decide +kernel)) (Or.inr ⟨rfl, hin, rfl⟩) 58 (by rw [hn2]; decide) ha_q20 rfl rfl dX9_init_22 (fun H locs hW => ?_)
  have hW : gW Z (gA Z 56 ads0 ow_0 sz) 56 ads2 s9_3 s H locs := hW
  refine W.widen (k := 2) (n := 65) (by omega) (by omega) ?_
  refine lv_aload_n hx hb dX9_init_25 rfl (lv_at hl 0 rfl) ?_
  refine lv_iconst (v := 5) hx hb dX9_init_26 (by decide) ?_
  refine g_newa (n := 59) (L := 5) hx hb (hts (.arrayClass .int) (by decide +kernel)) hG.1 hW hA (by rw [hn2]) rfl rfl (gd9_3 59 (by decide) (by decide)) (by decide) (by decide) (Nat.le_of_ble_eq_true rfl) (Nat.le_of_ble_eq_true rfl) (Nat.le_of_ble_eq_true rfl) dX9_init_27 (fun q27 H hW => ?_)
  obtain ⟨ads3, hads3⟩ : ∃ z, z = ads2 ++ [q27] := ⟨_, rfl⟩
  rw [← hads3] at hW
  have hn3 : ads3.length = 4 := by rw [hads3, List.length_append, hn2]; rfl
  have ha_h : ow_ad (gz Z 56 ads3) 56 = h := by rw [hads3]; exact (gz_lt Z 56 ads2 [q27] (by rw [hn2]; decide)).trans ha_h
  have hp3 : ∃ b, ads3 = ads0 ++ b := by obtain ⟨b0, hb0⟩ := hp2; exact ⟨b0 ++ [q27], by rw [hads3, ← List.append_assoc, ← hb0]⟩
  have ha_q27 : ow_ad (gz Z 56 ads3) 59 = q27 := by rw [hads3, show 59 = 56 + ads2.length by rw [hn2]]; exact gz_new Z 56 ads2 q27
  refine g_putR (k := 56) (ci := 9) (C := RX9) (T := TX9) (N := 41) hx hb hts hown hG.1 hW ha_h (by decide) (by rw [hn3]; decide) rfl (by decide) rfl hinX9 tyX9 tyX9_ok nmX9 5 (by decide) rfl (hts (.fieldLink RX9 20 "FiftyOneCardsModel" "moreOf" "[I") (by decide +kernel)) (Or.inr ⟨rfl, hin, rfl⟩) 59 (by rw [hn3]; decide) ha_q27 rfl rfl dX9_init_29 (fun H locs hW => ?_)
  have hW : gW Z (gA Z 56 ads0 ow_0 sz) 56 ads3 s9_4 s H locs := hW
  refine W.widen (k := 3) (n := 70) (by omega) (by omega) ?_
  refine lv_aload_n hx hb dX9_init_32 rfl (lv_at hl 0 rfl) ?_
  refine lv_bipush (v := 15) hx hb dX9_init_33 (by decide) ?_
  refine g_newa (n := 60) (L := 15) hx hb (hts (.arrayClass .int) (by decide +kernel)) hG.1 hW hA (by rw [hn3]) rfl rfl (gd9_4 60 (by decide) (by decide)) (by decide) (by decide) (Nat.le_of_ble_eq_true rfl) (Nat.le_of_ble_eq_true rfl) (Nat.le_of_ble_eq_true rfl) dX9_init_35 (fun q35 H hW => ?_)
  obtain ⟨ads4, hads4⟩ : ∃ z, z = ads3 ++ [q35] := ⟨_, rfl⟩
  rw [← hads4] at hW
  have hn4 : ads4.length = 5 := by rw [hads4, List.length_append, hn3]; rfl
  have ha_h : ow_ad (gz Z 56 ads4) 56 = h := by rw [hads4]; exact (gz_lt Z 56 ads3 [q35] (by rw [hn3]; decide)).trans ha_h
  have hp4 : ∃ b, ads4 = ads0 ++ b := by obtain ⟨b0, hb0⟩ := hp3; exact ⟨b0 ++ [q35], by rw [hads4, ← List.append_assoc, ← hb0]⟩
  have ha_q35 : ow_ad (gz Z 56 ads4) 60 = q35 := by rw [hads4, show 60 = 56 + ads3.length by rw [hn3]]; exact gz_new Z 56 ads3 q35
  refine g_putR (k := 56) (ci := 9) (C := RX9) (T := TX9) (N := 41) hx hb hts hown hG.1 hW ha_h (by decide) (by rw [hn4]; decide) rfl (by decide) rfl hinX9 tyX9 tyX9_ok nmX9 6 (by decide) rfl (hts (.fieldLink RX9 23 "FiftyOneCardsModel" "kept" "[I") (by decide +kernel)) (Or.inr ⟨rfl, hin, rfl⟩) 60 (by rw [hn4]; decide) ha_q35 rfl rfl dX9_init_37 (fun H locs hW => ?_)
  have hW : gW Z (gA Z 56 ads0 ow_0 sz) 56 ads4 s9_5 s H locs := hW
  refine W.widen (k := 4) (n := 85) (by omega) (by omega) ?_
  refine lv_aload_n hx hb dX9_init_40 rfl (lv_at hl 0 rfl) ?_
  refine lv_sipush (v := 160) hx hb dX9_init_41 (by decide) ?_
  refine g_newa (n := 61) (L := 160) hx hb (hts (.arrayClass .int) (by decide +kernel)) hG.1 hW hA (by rw [hn4]) rfl rfl (gd9_5 61 (by decide) (by decide)) (by decide) (by decide) (Nat.le_of_ble_eq_true rfl) (Nat.le_of_ble_eq_true rfl) (Nat.le_of_ble_eq_true rfl) dX9_init_44 (fun q44 H hW => ?_)
  obtain ⟨ads5, hads5⟩ : ∃ z, z = ads4 ++ [q44] := ⟨_, rfl⟩
  rw [← hads5] at hW
  have hn5 : ads5.length = 6 := by rw [hads5, List.length_append, hn4]; rfl
  have ha_h : ow_ad (gz Z 56 ads5) 56 = h := by rw [hads5]; exact (gz_lt Z 56 ads4 [q44] (by rw [hn4]; decide)).trans ha_h
  have hp5 : ∃ b, ads5 = ads0 ++ b := by obtain ⟨b0, hb0⟩ := hp4; exact ⟨b0 ++ [q44], by rw [hads5, ← List.append_assoc, ← hb0]⟩
  have ha_q44 : ow_ad (gz Z 56 ads5) 61 = q44 := by rw [hads5, show 61 = 56 + ads4.length by rw [hn4]]; exact gz_new Z 56 ads4 q44
  refine g_putR (k := 56) (ci := 9) (C := RX9) (T := TX9) (N := 41) hx hb hts hown hG.1 hW ha_h (by decide) (by rw [hn5]; decide) rfl (by decide) rfl hinX9 tyX9 tyX9_ok nmX9 7 (by decide) rfl (hts (.fieldLink RX9 26 "FiftyOneCardsModel" "tape" "[I") (by decide +kernel)) (Or.inr ⟨rfl, hin, rfl⟩) 61 (by rw [hn5]; decide) ha_q44 rfl rfl dX9_init_46 (fun H locs hW => ?_)
  have hW : gW Z (gA Z 56 ads0 ow_0 sz) 56 ads5 s9_6 s H locs := hW
  refine W.widen (k := 5) (n := 245) (by omega) (by omega) ?_
  refine lv_aload_n hx hb dX9_init_49 rfl (lv_at hl 0 rfl) ?_
  refine lv_sipush (v := 1200) hx hb dX9_init_50 (by decide) ?_
  refine g_newa (n := 62) (L := 1200) hx hb (hts (.arrayClass .int) (by decide +kernel)) hG.1 hW hA (by rw [hn5]) rfl rfl (gd9_6 62 (by decide) (by decide)) (by decide) (by decide) (Nat.le_of_ble_eq_true rfl) (Nat.le_of_ble_eq_true rfl) (Nat.le_of_ble_eq_true rfl) dX9_init_53 (fun q53 H hW => ?_)
  obtain ⟨ads6, hads6⟩ : ∃ z, z = ads5 ++ [q53] := ⟨_, rfl⟩
  rw [← hads6] at hW
  have hn6 : ads6.length = 7 := by rw [hads6, List.length_append, hn5]; rfl
  have ha_h : ow_ad (gz Z 56 ads6) 56 = h := by rw [hads6]; exact (gz_lt Z 56 ads5 [q53] (by rw [hn5]; decide)).trans ha_h
  have hp6 : ∃ b, ads6 = ads0 ++ b := by obtain ⟨b0, hb0⟩ := hp5; exact ⟨b0 ++ [q53], by rw [hads6, ← List.append_assoc, ← hb0]⟩
  have ha_q53 : ow_ad (gz Z 56 ads6) 62 = q53 := by rw [hads6, show 62 = 56 + ads5.length by rw [hn5]]; exact gz_new Z 56 ads5 q53
  refine g_putR (k := 56) (ci := 9) (C := RX9) (T := TX9) (N := 41) hx hb hts hown hG.1 hW ha_h (by decide) (by rw [hn6]; decide) rfl (by decide) rfl hinX9 tyX9 tyX9_ok nmX9 9 (by decide) rfl (hts (.fieldLink RX9 29 "FiftyOneCardsModel" "codes" "[I") (by decide +kernel)) (Or.inr ⟨rfl, hin, rfl⟩) 62 (by rw [hn6]; decide) ha_q53 rfl rfl dX9_init_55 (fun H locs hW => ?_)
  have hW : gW Z (gA Z 56 ads0 ow_0 sz) 56 ads6 s9_7 s H locs := hW
  refine W.widen (k := 6) (n := 1445) (by omega) (by omega) ?_
  refine lv_aload_n hx hb dX9_init_58 rfl (lv_at hl 0 rfl) ?_
  refine lv_bipush (v := 24) hx hb dX9_init_59 (by decide) ?_
  refine g_newa (n := 63) (L := 24) hx hb (hts (.arrayClass .int) (by decide +kernel)) hG.1 hW hA (by rw [hn6]) rfl rfl (gd9_7 63 (by decide) (by decide)) (by decide) (by decide) (Nat.le_of_ble_eq_true rfl) (Nat.le_of_ble_eq_true rfl) (Nat.le_of_ble_eq_true rfl) dX9_init_61 (fun q61 H hW => ?_)
  obtain ⟨ads7, hads7⟩ : ∃ z, z = ads6 ++ [q61] := ⟨_, rfl⟩
  rw [← hads7] at hW
  have hn7 : ads7.length = 8 := by rw [hads7, List.length_append, hn6]; rfl
  have ha_h : ow_ad (gz Z 56 ads7) 56 = h := by rw [hads7]; exact (gz_lt Z 56 ads6 [q61] (by rw [hn6]; decide)).trans ha_h
  have hp7 : ∃ b, ads7 = ads0 ++ b := by obtain ⟨b0, hb0⟩ := hp6; exact ⟨b0 ++ [q61], by rw [hads7, ← List.append_assoc, ← hb0]⟩
  have ha_q61 : ow_ad (gz Z 56 ads7) 63 = q61 := by rw [hads7, show 63 = 56 + ads6.length by rw [hn6]]; exact gz_new Z 56 ads6 q61
  refine g_putR (k := 56) (ci := 9) (C := RX9) (T := TX9) (N := 41) hx hb hts hown hG.1 hW ha_h (by decide) (by rw [hn7]; decide) rfl (by decide) rfl hinX9 tyX9 tyX9_ok nmX9 10 (by decide) rfl (hts (.fieldLink RX9 32 "FiftyOneCardsModel" "starts" "[I") (by decide +kernel)) (Or.inr ⟨rfl, hin, rfl⟩) 63 (by rw [hn7]; decide) ha_q61 rfl rfl dX9_init_63 (fun H locs hW => ?_)
  have hW : gW Z (gA Z 56 ads0 ow_0 sz) 56 ads7 s9_8 s H locs := hW
  refine W.widen (k := 7) (n := 1469) (by omega) (by omega) ?_
  refine lv_aload_n hx hb dX9_init_66 rfl (lv_at hl 0 rfl) ?_
  refine lv_bipush (v := 60) hx hb dX9_init_67 (by decide) ?_
  refine g_newa (n := 64) (L := 60) hx hb (hts (.arrayClass .int) (by decide +kernel)) hG.1 hW hA (by rw [hn7]) rfl rfl (gd9_8 64 (by decide) (by decide)) (by decide) (by decide) (Nat.le_of_ble_eq_true rfl) (Nat.le_of_ble_eq_true rfl) (Nat.le_of_ble_eq_true rfl) dX9_init_69 (fun q69 H hW => ?_)
  obtain ⟨ads8, hads8⟩ : ∃ z, z = ads7 ++ [q69] := ⟨_, rfl⟩
  rw [← hads8] at hW
  have hn8 : ads8.length = 9 := by rw [hads8, List.length_append, hn7]; rfl
  have ha_h : ow_ad (gz Z 56 ads8) 56 = h := by rw [hads8]; exact (gz_lt Z 56 ads7 [q69] (by rw [hn7]; decide)).trans ha_h
  have hp8 : ∃ b, ads8 = ads0 ++ b := by obtain ⟨b0, hb0⟩ := hp7; exact ⟨b0 ++ [q69], by rw [hads8, ← List.append_assoc, ← hb0]⟩
  have ha_q69 : ow_ad (gz Z 56 ads8) 64 = q69 := by rw [hads8, show 64 = 56 + ads7.length by rw [hn7]]; exact gz_new Z 56 ads7 q69
  refine g_putR (k := 56) (ci := 9) (C := RX9) (T := TX9) (N := 41) hx hb hts hown hG.1 hW ha_h (by decide) (by rw [hn8]; decide) rfl (by decide) rfl hinX9 tyX9 tyX9_ok nmX9 18 (by decide) rfl (hts (.fieldLink RX9 35 "FiftyOneCardsModel" "imageRow" "[I") (by decide +kernel)) (Or.inr ⟨rfl, hin, rfl⟩) 64 (by rw [hn8]; decide) ha_q69 rfl rfl dX9_init_71 (fun H locs hW => ?_)
  have hW : gW Z (gA Z 56 ads0 ow_0 sz) 56 ads8 s9_9 s H locs := hW
  refine W.widen (k := 8) (n := 1529) (by omega) (by omega) ?_
  refine lv_aload_n hx hb dX9_init_74 rfl (lv_at hl 0 rfl) ?_
  refine lv_bipush (v := 15) hx hb dX9_init_75 (by decide) ?_
  refine g_newa (n := 65) (L := 15) hx hb (hts (.arrayClass .int) (by decide +kernel)) hG.1 hW hA (by rw [hn8]) rfl rfl (gd9_9 65 (by decide) (by decide)) (by decide) (by decide) (Nat.le_of_ble_eq_true rfl) (Nat.le_of_ble_eq_true rfl) (Nat.le_of_ble_eq_true rfl) dX9_init_77 (fun q77 H hW => ?_)
  obtain ⟨ads9, hads9⟩ : ∃ z, z = ads8 ++ [q77] := ⟨_, rfl⟩
  rw [← hads9] at hW
  have hn9 : ads9.length = 10 := by rw [hads9, List.length_append, hn8]; rfl
  have ha_h : ow_ad (gz Z 56 ads9) 56 = h := by rw [hads9]; exact (gz_lt Z 56 ads8 [q77] (by rw [hn8]; decide)).trans ha_h
  have hp9 : ∃ b, ads9 = ads0 ++ b := by obtain ⟨b0, hb0⟩ := hp8; exact ⟨b0 ++ [q77], by rw [hads9, ← List.append_assoc, ← hb0]⟩
  have ha_q77 : ow_ad (gz Z 56 ads9) 65 = q77 := by rw [hads9, show 65 = 56 + ads8.length by rw [hn8]]; exact gz_new Z 56 ads8 q77
  refine g_putR (k := 56) (ci := 9) (C := RX9) (T := TX9) (N := 41) hx hb hts hown hG.1 hW ha_h (by decide) (by rw [hn9]; decide) rfl (by decide) rfl hinX9 tyX9 tyX9_ok nmX9 19 (by decide) rfl (hts (.fieldLink RX9 38 "FiftyOneCardsModel" "imageKept" "[I") (by decide +kernel)) (Or.inr ⟨rfl, hin, rfl⟩) 65 (by rw [hn9]; decide) ha_q77 rfl rfl dX9_init_79 (fun H locs hW => ?_)
  have hW : gW Z (gA Z 56 ads0 ow_0 sz) 56 ads9 s9_10 s H locs := hW
  refine W.widen (k := 9) (n := 1544) (by omega) (by omega) ?_
  refine lv_aload_n hx hb dX9_init_82 rfl (lv_at hl 0 rfl) ?_
  refine lv_iconst (v := 4) hx hb dX9_init_83 (by decide) ?_
  refine g_newa (n := 66) (L := 4) hx hb (hts (.arrayClass .int) (by decide +kernel)) hG.1 hW hA (by rw [hn9]) rfl rfl (gd9_10 66 (by decide) (by decide)) (by decide) (by decide) (Nat.le_of_ble_eq_true rfl) (Nat.le_of_ble_eq_true rfl) (Nat.le_of_ble_eq_true rfl) dX9_init_84 (fun q84 H hW => ?_)
  obtain ⟨ads10, hads10⟩ : ∃ z, z = ads9 ++ [q84] := ⟨_, rfl⟩
  rw [← hads10] at hW
  have hn10 : ads10.length = 11 := by rw [hads10, List.length_append, hn9]; rfl
  have ha_h : ow_ad (gz Z 56 ads10) 56 = h := by rw [hads10]; exact (gz_lt Z 56 ads9 [q84] (by rw [hn9]; decide)).trans ha_h
  have hp10 : ∃ b, ads10 = ads0 ++ b := by obtain ⟨b0, hb0⟩ := hp9; exact ⟨b0 ++ [q84], by rw [hads10, ← List.append_assoc, ← hb0]⟩
  have ha_q84 : ow_ad (gz Z 56 ads10) 66 = q84 := by rw [hads10, show 66 = 56 + ads9.length by rw [hn9]]; exact gz_new Z 56 ads9 q84
  refine m9_f66 hx hb hG.1 hW ha_q84 (by rw [hn10]; decide) (fun H locs hW => ?_)
  refine g_putR (k := 56) (ci := 9) (C := RX9) (T := TX9) (N := 41) hx hb hts hown hG.1 hW ha_h (by decide) (by rw [hn10]; decide) rfl (by decide) rfl hinX9 tyX9 tyX9_ok nmX9 20 (by decide) rfl (hts (.fieldLink RX9 41 "FiftyOneCardsModel" "sheetSort" "[I") (by decide +kernel)) (Or.inr ⟨rfl, hin, rfl⟩) 66 (by rw [hn10]; decide) ha_q84 rfl rfl dX9_init_102 (fun H locs hW => ?_)
  have hW : gW Z (gA Z 56 ads0 ow_0 sz) 56 ads10 s9_11 s H locs := hW
  refine W.widen (k := 10) (n := 1548) (by omega) (by omega) ?_
  refine lv_aload_n hx hb dX9_init_105 rfl (lv_at hl 0 rfl) ?_
  refine lv_iconst (v := 4) hx hb dX9_init_106 (by decide) ?_
  refine g_newa (n := 67) (L := 4) hx hb (hts (.arrayClass .int) (by decide +kernel)) hG.1 hW hA (by rw [hn10]) rfl rfl (gd9_11 67 (by decide) (by decide)) (by decide) (by decide) (Nat.le_of_ble_eq_true rfl) (Nat.le_of_ble_eq_true rfl) (Nat.le_of_ble_eq_true rfl) dX9_init_107 (fun q107 H hW => ?_)
  obtain ⟨ads11, hads11⟩ : ∃ z, z = ads10 ++ [q107] := ⟨_, rfl⟩
  rw [← hads11] at hW
  have hn11 : ads11.length = 12 := by rw [hads11, List.length_append, hn10]; rfl
  have ha_h : ow_ad (gz Z 56 ads11) 56 = h := by rw [hads11]; exact (gz_lt Z 56 ads10 [q107] (by rw [hn10]; decide)).trans ha_h
  have hp11 : ∃ b, ads11 = ads0 ++ b := by obtain ⟨b0, hb0⟩ := hp10; exact ⟨b0 ++ [q107], by rw [hads11, ← List.append_assoc, ← hb0]⟩
  have ha_q107 : ow_ad (gz Z 56 ads11) 67 = q107 := by rw [hads11, show 67 = 56 + ads10.length by rw [hn10]]; exact gz_new Z 56 ads10 q107
  refine g_putR (k := 56) (ci := 9) (C := RX9) (T := TX9) (N := 41) hx hb hts hown hG.1 hW ha_h (by decide) (by rw [hn11]; decide) rfl (by decide) rfl hinX9 tyX9 tyX9_ok nmX9 21 (by decide) rfl (hts (.fieldLink RX9 44 "FiftyOneCardsModel" "sheetSize" "[I") (by decide +kernel)) (Or.inr ⟨rfl, hin, rfl⟩) 67 (by rw [hn11]; decide) ha_q107 rfl rfl dX9_init_109 (fun H locs hW => ?_)
  have hW : gW Z (gA Z 56 ads0 ow_0 sz) 56 ads11 s9_12 s H locs := hW
  refine W.widen (k := 11) (n := 1552) (by omega) (by omega) ?_
  refine lv_aload_n hx hb dX9_init_112 rfl (lv_at hl 0 rfl) ?_
  refine lv_sipush (v := 160) hx hb dX9_init_113 (by decide) ?_
  refine g_newa (n := 68) (L := 160) hx hb (hts (.arrayClass .int) (by decide +kernel)) hG.1 hW hA (by rw [hn11]) rfl rfl (gd9_12 68 (by decide) (by decide)) (by decide) (by decide) (Nat.le_of_ble_eq_true rfl) (Nat.le_of_ble_eq_true rfl) (Nat.le_of_ble_eq_true rfl) dX9_init_116 (fun q116 H hW => ?_)
  obtain ⟨ads12, hads12⟩ : ∃ z, z = ads11 ++ [q116] := ⟨_, rfl⟩
  rw [← hads12] at hW
  have hn12 : ads12.length = 13 := by rw [hads12, List.length_append, hn11]; rfl
  have ha_h : ow_ad (gz Z 56 ads12) 56 = h := by rw [hads12]; exact (gz_lt Z 56 ads11 [q116] (by rw [hn11]; decide)).trans ha_h
  have hp12 : ∃ b, ads12 = ads0 ++ b := by obtain ⟨b0, hb0⟩ := hp11; exact ⟨b0 ++ [q116], by rw [hads12, ← List.append_assoc, ← hb0]⟩
  have ha_q116 : ow_ad (gz Z 56 ads12) 68 = q116 := by rw [hads12, show 68 = 56 + ads11.length by rw [hn11]]; exact gz_new Z 56 ads11 q116
  refine g_putR (k := 56) (ci := 9) (C := RX9) (T := TX9) (N := 41) hx hb hts hown hG.1 hW ha_h (by decide) (by rw [hn12]; decide) rfl (by decide) rfl hinX9 tyX9 tyX9_ok nmX9 22 (by decide) rfl (hts (.fieldLink RX9 47 "FiftyOneCardsModel" "cells" "[I") (by decide +kernel)) (Or.inr ⟨rfl, hin, rfl⟩) 68 (by rw [hn12]; decide) ha_q116 rfl rfl dX9_init_118 (fun H locs hW => ?_)
  have hW : gW Z (gA Z 56 ads0 ow_0 sz) 56 ads12 s9_13 s H locs := hW
  refine W.widen (k := 12) (n := 1712) (by omega) (by omega) ?_
  refine lv_aload_n hx hb dX9_init_121 rfl (lv_at hl 0 rfl) ?_
  refine lv_bipush (v := 40) hx hb dX9_init_122 (by decide) ?_
  refine g_newa (n := 69) (L := 40) hx hb (hts (.arrayClass .int) (by decide +kernel)) hG.1 hW hA (by rw [hn12]) rfl rfl (gd9_13 69 (by decide) (by decide)) (by decide) (by decide) (Nat.le_of_ble_eq_true rfl) (Nat.le_of_ble_eq_true rfl) (Nat.le_of_ble_eq_true rfl) dX9_init_124 (fun q124 H hW => ?_)
  obtain ⟨ads13, hads13⟩ : ∃ z, z = ads12 ++ [q124] := ⟨_, rfl⟩
  rw [← hads13] at hW
  have hn13 : ads13.length = 14 := by rw [hads13, List.length_append, hn12]; rfl
  have ha_h : ow_ad (gz Z 56 ads13) 56 = h := by rw [hads13]; exact (gz_lt Z 56 ads12 [q124] (by rw [hn12]; decide)).trans ha_h
  have hp13 : ∃ b, ads13 = ads0 ++ b := by obtain ⟨b0, hb0⟩ := hp12; exact ⟨b0 ++ [q124], by rw [hads13, ← List.append_assoc, ← hb0]⟩
  have ha_q124 : ow_ad (gz Z 56 ads13) 69 = q124 := by rw [hads13, show 69 = 56 + ads12.length by rw [hn12]]; exact gz_new Z 56 ads12 q124
  refine m9_f69 hx hb hG.1 hW ha_q124 (by rw [hn13]; decide) (fun H locs hW => ?_)
  refine g_putR (k := 56) (ci := 9) (C := RX9) (T := TX9) (N := 41) hx hb hts hown hG.1 hW ha_h (by decide) (by rw [hn13]; decide) rfl (by decide) rfl hinX9 tyX9 tyX9_ok nmX9 23 (by decide) rfl (hts (.fieldLink RX9 50 "FiftyOneCardsModel" "law" "[I") (by decide +kernel)) (Or.inr ⟨rfl, hin, rfl⟩) 69 (by rw [hn13]; decide) ha_q124 rfl rfl dX9_init_360 (fun H locs hW => ?_)
  have hW : gW Z (gA Z 56 ads0 ow_0 sz) 56 ads13 s9_14 s H locs := hW
  refine W.widen (k := 13) (n := 1752) (by omega) (by omega) ?_
  refine lv_aload_n hx hb dX9_init_363 rfl (lv_at hl 0 rfl) ?_
  refine lv_bipush (v := 96) hx hb dX9_init_364 (by decide) ?_
  refine g_newa (n := 70) (L := 96) hx hb (hts (.arrayClass .int) (by decide +kernel)) hG.1 hW hA (by rw [hn13]) rfl rfl (gd9_14 70 (by decide) (by decide)) (by decide) (by decide) (Nat.le_of_ble_eq_true rfl) (Nat.le_of_ble_eq_true rfl) (Nat.le_of_ble_eq_true rfl) dX9_init_366 (fun q366 H hW => ?_)
  obtain ⟨ads14, hads14⟩ : ∃ z, z = ads13 ++ [q366] := ⟨_, rfl⟩
  rw [← hads14] at hW
  have hn14 : ads14.length = 15 := by rw [hads14, List.length_append, hn13]; rfl
  have ha_h : ow_ad (gz Z 56 ads14) 56 = h := by rw [hads14]; exact (gz_lt Z 56 ads13 [q366] (by rw [hn13]; decide)).trans ha_h
  have hp14 : ∃ b, ads14 = ads0 ++ b := by obtain ⟨b0, hb0⟩ := hp13; exact ⟨b0 ++ [q366], by rw [hads14, ← List.append_assoc, ← hb0]⟩
  have ha_q366 : ow_ad (gz Z 56 ads14) 70 = q366 := by rw [hads14, show 70 = 56 + ads13.length by rw [hn13]]; exact gz_new Z 56 ads13 q366
  refine m9_f70 hx hb hG.1 hW ha_q366 (by rw [hn14]; decide) (fun H locs hW => ?_)
  refine g_putR (k := 56) (ci := 9) (C := RX9) (T := TX9) (N := 41) hx hb hts hown hG.1 hW ha_h (by decide) (by rw [hn14]; decide) rfl (by decide) rfl hinX9 tyX9 tyX9_ok nmX9 28 (by decide) rfl (hts (.fieldLink RX9 53 "FiftyOneCardsModel" "words" "[I") (by decide +kernel)) (Or.inr ⟨rfl, hin, rfl⟩) 70 (by rw [hn14]; decide) ha_q366 rfl rfl dX9_init_938 (fun H locs hW => ?_)
  have hW : gW Z (gA Z 56 ads0 ow_0 sz) 56 ads14 s9_15 s H locs := hW
  refine W.widen (k := 14) (n := 1848) (by omega) (by omega) ?_
  refine lv_aload_n hx hb dX9_init_941 rfl (lv_at hl 0 rfl) ?_
  refine lv_sipush (v := 200) hx hb dX9_init_942 (by decide) ?_
  refine g_newa (n := 71) (L := 200) hx hb (hts (.arrayClass .int) (by decide +kernel)) hG.1 hW hA (by rw [hn14]) rfl rfl (gd9_15 71 (by decide) (by decide)) (by decide) (by decide) (Nat.le_of_ble_eq_true rfl) (Nat.le_of_ble_eq_true rfl) (Nat.le_of_ble_eq_true rfl) dX9_init_945 (fun q945 H hW => ?_)
  obtain ⟨ads15, hads15⟩ : ∃ z, z = ads14 ++ [q945] := ⟨_, rfl⟩
  rw [← hads15] at hW
  have hn15 : ads15.length = 16 := by rw [hads15, List.length_append, hn14]; rfl
  have ha_h : ow_ad (gz Z 56 ads15) 56 = h := by rw [hads15]; exact (gz_lt Z 56 ads14 [q945] (by rw [hn14]; decide)).trans ha_h
  have hp15 : ∃ b, ads15 = ads0 ++ b := by obtain ⟨b0, hb0⟩ := hp14; exact ⟨b0 ++ [q945], by rw [hads15, ← List.append_assoc, ← hb0]⟩
  have ha_q945 : ow_ad (gz Z 56 ads15) 71 = q945 := by rw [hads15, show 71 = 56 + ads14.length by rw [hn14]]; exact gz_new Z 56 ads14 q945
  refine g_putR (k := 56) (ci := 9) (C := RX9) (T := TX9) (N := 41) hx hb hts hown hG.1 hW ha_h (by decide) (by rw [hn15]; decide) rfl (by decide) rfl hinX9 tyX9 tyX9_ok nmX9 29 (by decide) rfl (hts (.fieldLink RX9 56 "FiftyOneCardsModel" "held" "[I") (by decide +kernel)) (Or.inr ⟨rfl, hin, rfl⟩) 71 (by rw [hn15]; decide) ha_q945 rfl rfl dX9_init_947 (fun H locs hW => ?_)
  have hW : gW Z (gA Z 56 ads0 ow_0 sz) 56 ads15 s9_16 s H locs := hW
  refine W.widen (k := 15) (n := 2048) (by omega) (by omega) ?_
  refine lv_aload_n hx hb dX9_init_950 rfl (lv_at hl 0 rfl) ?_
  refine lv_sipush (v := 200) hx hb dX9_init_951 (by decide) ?_
  refine g_newa (n := 72) (L := 200) hx hb (hts (.arrayClass .int) (by decide +kernel)) hG.1 hW hA (by rw [hn15]) rfl rfl (gd9_16 72 (by decide) (by decide)) (by decide) (by decide) (Nat.le_of_ble_eq_true rfl) (Nat.le_of_ble_eq_true rfl) (Nat.le_of_ble_eq_true rfl) dX9_init_954 (fun q954 H hW => ?_)
  obtain ⟨ads16, hads16⟩ : ∃ z, z = ads15 ++ [q954] := ⟨_, rfl⟩
  rw [← hads16] at hW
  have hn16 : ads16.length = 17 := by rw [hads16, List.length_append, hn15]; rfl
  have ha_h : ow_ad (gz Z 56 ads16) 56 = h := by rw [hads16]; exact (gz_lt Z 56 ads15 [q954] (by rw [hn15]; decide)).trans ha_h
  have hp16 : ∃ b, ads16 = ads0 ++ b := by obtain ⟨b0, hb0⟩ := hp15; exact ⟨b0 ++ [q954], by rw [hads16, ← List.append_assoc, ← hb0]⟩
  have ha_q954 : ow_ad (gz Z 56 ads16) 72 = q954 := by rw [hads16, show 72 = 56 + ads15.length by rw [hn15]]; exact gz_new Z 56 ads15 q954
  refine g_putR (k := 56) (ci := 9) (C := RX9) (T := TX9) (N := 41) hx hb hts hown hG.1 hW ha_h (by decide) (by rw [hn16]; decide) rfl (by decide) rfl hinX9 tyX9 tyX9_ok nmX9 33 (by decide) rfl (hts (.fieldLink RX9 59 "FiftyOneCardsModel" "stack" "[I") (by decide +kernel)) (Or.inr ⟨rfl, hin, rfl⟩) 72 (by rw [hn16]; decide) ha_q954 rfl rfl dX9_init_956 (fun H locs hW => ?_)
  have hW : gW Z (gA Z 56 ads0 ow_0 sz) 56 ads16 s9_17 s H locs := hW
  refine W.widen (k := 16) (n := 2248) (by omega) (by omega) ?_
  refine lv_aload_n hx hb dX9_init_959 rfl (lv_at hl 0 rfl) ?_
  refine lv_bipush (v := 6) hx hb dX9_init_960 (by decide) ?_
  refine g_newa (n := 73) (L := 6) hx hb (hts (.arrayClass .int) (by decide +kernel)) hG.1 hW hA (by rw [hn16]) rfl rfl (gd9_17 73 (by decide) (by decide)) (by decide) (by decide) (Nat.le_of_ble_eq_true rfl) (Nat.le_of_ble_eq_true rfl) (Nat.le_of_ble_eq_true rfl) dX9_init_962 (fun q962 H hW => ?_)
  obtain ⟨ads17, hads17⟩ : ∃ z, z = ads16 ++ [q962] := ⟨_, rfl⟩
  rw [← hads17] at hW
  have hn17 : ads17.length = 18 := by rw [hads17, List.length_append, hn16]; rfl
  have ha_h : ow_ad (gz Z 56 ads17) 56 = h := by rw [hads17]; exact (gz_lt Z 56 ads16 [q962] (by rw [hn16]; decide)).trans ha_h
  have hp17 : ∃ b, ads17 = ads0 ++ b := by obtain ⟨b0, hb0⟩ := hp16; exact ⟨b0 ++ [q962], by rw [hads17, ← List.append_assoc, ← hb0]⟩
  have ha_q962 : ow_ad (gz Z 56 ads17) 73 = q962 := by rw [hads17, show 73 = 56 + ads16.length by rw [hn16]]; exact gz_new Z 56 ads16 q962
  refine g_putR (k := 56) (ci := 9) (C := RX9) (T := TX9) (N := 41) hx hb hts hown hG.1 hW ha_h (by decide) (by rw [hn17]; decide) rfl (by decide) rfl hinX9 tyX9 tyX9_ok nmX9 34 (by decide) rfl (hts (.fieldLink RX9 62 "FiftyOneCardsModel" "named" "[I") (by decide +kernel)) (Or.inr ⟨rfl, hin, rfl⟩) 73 (by rw [hn17]; decide) ha_q962 rfl rfl dX9_init_964 (fun H locs hW => ?_)
  have hW : gW Z (gA Z 56 ads0 ow_0 sz) 56 ads17 s9_18 s H locs := hW
  refine W.widen (k := 17) (n := 2254) (by omega) (by omega) ?_
  refine lv_aload_n hx hb dX9_init_967 rfl (lv_at hl 0 rfl) ?_
  refine lv_bipush (v := 60) hx hb dX9_init_968 (by decide) ?_
  refine g_newa (n := 74) (L := 60) hx hb (hts (.arrayClass .int) (by decide +kernel)) hG.1 hW hA (by rw [hn17]) rfl rfl (gd9_18 74 (by decide) (by decide)) (by decide) (by decide) (Nat.le_of_ble_eq_true rfl) (Nat.le_of_ble_eq_true rfl) (Nat.le_of_ble_eq_true rfl) dX9_init_970 (fun q970 H hW => ?_)
  obtain ⟨ads18, hads18⟩ : ∃ z, z = ads17 ++ [q970] := ⟨_, rfl⟩
  rw [← hads18] at hW
  have hn18 : ads18.length = 19 := by rw [hads18, List.length_append, hn17]; rfl
  have ha_h : ow_ad (gz Z 56 ads18) 56 = h := by rw [hads18]; exact (gz_lt Z 56 ads17 [q970] (by rw [hn17]; decide)).trans ha_h
  have hp18 : ∃ b, ads18 = ads0 ++ b := by obtain ⟨b0, hb0⟩ := hp17; exact ⟨b0 ++ [q970], by rw [hads18, ← List.append_assoc, ← hb0]⟩
  have ha_q970 : ow_ad (gz Z 56 ads18) 74 = q970 := by rw [hads18, show 74 = 56 + ads17.length by rw [hn17]]; exact gz_new Z 56 ads17 q970
  refine g_putR (k := 56) (ci := 9) (C := RX9) (T := TX9) (N := 41) hx hb hts hown hG.1 hW ha_h (by decide) (by rw [hn18]; decide) rfl (by decide) rfl hinX9 tyX9 tyX9_ok nmX9 35 (by decide) rfl (hts (.fieldLink RX9 65 "FiftyOneCardsModel" "goes" "[I") (by decide +kernel)) (Or.inr ⟨rfl, hin, rfl⟩) 74 (by rw [hn18]; decide) ha_q970 rfl rfl dX9_init_972 (fun H locs hW => ?_)
  have hW : gW Z (gA Z 56 ads0 ow_0 sz) 56 ads18 s9_19 s H locs := hW
  refine W.widen (k := 18) (n := 2314) (by omega) (by omega) ?_
  refine lv_aload_n hx hb dX9_init_975 rfl (lv_at hl 0 rfl) ?_
  refine lv_sipush (v := 260) hx hb dX9_init_976 (by decide) ?_
  refine g_newa (n := 75) (L := 260) hx hb (hts (.arrayClass .int) (by decide +kernel)) hG.1 hW hA (by rw [hn18]) rfl rfl (gd9_19 75 (by decide) (by decide)) (by decide) (by decide) (Nat.le_of_ble_eq_true rfl) (Nat.le_of_ble_eq_true rfl) (Nat.le_of_ble_eq_true rfl) dX9_init_979 (fun q979 H hW => ?_)
  obtain ⟨ads19, hads19⟩ : ∃ z, z = ads18 ++ [q979] := ⟨_, rfl⟩
  rw [← hads19] at hW
  have hn19 : ads19.length = 20 := by rw [hads19, List.length_append, hn18]; rfl
  have ha_h : ow_ad (gz Z 56 ads19) 56 = h := by rw [hads19]; exact (gz_lt Z 56 ads18 [q979] (by rw [hn18]; decide)).trans ha_h
  have hp19 : ∃ b, ads19 = ads0 ++ b := by obtain ⟨b0, hb0⟩ := hp18; exact ⟨b0 ++ [q979], by rw [hads19, ← List.append_assoc, ← hb0]⟩
  have ha_q979 : ow_ad (gz Z 56 ads19) 75 = q979 := by rw [hads19, show 75 = 56 + ads18.length by rw [hn18]]; exact gz_new Z 56 ads18 q979
  refine g_putR (k := 56) (ci := 9) (C := RX9) (T := TX9) (N := 41) hx hb hts hown hG.1 hW ha_h (by decide) (by rw [hn19]; decide) rfl (by decide) rfl hinX9 tyX9 tyX9_ok nmX9 39 (by decide) rfl (hts (.fieldLink RX9 68 "FiftyOneCardsModel" "pairs" "[I") (by decide +kernel)) (Or.inr ⟨rfl, hin, rfl⟩) 75 (by rw [hn19]; decide) ha_q979 rfl rfl dX9_init_981 (fun H locs hW => ?_)
  have hW : gW Z (gA Z 56 ads0 ow_0 sz) 56 ads19 s9_20 s H locs := hW
  refine W.widen (k := 19) (n := 2574) (by omega) (by omega) ?_
  refine lv_iconst (v := 0) hx hb dX9_init_984 (by decide) ?_
  refine lv_istore_n (lv' := [(1, .int (nI 0)), (0, .ref h)]) hx hb dX9_init_985 rfl hl (by decide) rfl (fun ls hl => ?_)
  refine hJ ads19 hn19 ha_h 40 0 s9_20 _ _ _ rfl (by decide +kernel) (by decide +kernel) hW (lv_sub hl [1, 0] rfl) (fun H locs ls hW hl => ?_)
  refine lv_aload_n hx hb dX9_init_1010 rfl (lv_at hl 0 rfl) ?_
  refine lv_bipush (v := 40) hx hb dX9_init_1011 (by decide) ?_
  refine g_putI (k := 56) (ci := 9) (C := RX9) (T := TX9) (N := 41) hx hb hts hown hG.1 hW ha_h (by decide) (by rw [hn19]; decide) rfl (by decide) rfl hinX9 tyX9 tyX9_ok nmX9 8 (by decide) rfl (hts (.fieldLink RX9 71 "FiftyOneCardsModel" "taped" "I") (by decide +kernel)) rfl rfl rfl dX9_init_1013 (fun H locs hW => ?_)
  have hO : oW (gz Z 56 ads19) (gA Z 56 ads0 ow_0 sz) 56 20 i_X9 s H locs := gW_oW hW hn19 ok9
  have hG2 : ow_G (gz Z 56 ads19) (gA Z 56 ads0 ow_0 sz) s s.heap := ⟨hG, hGs⟩
  have hl : lv_has ls 2 [(0, .ref (ow_ad (gz Z 56 ads19) 56)), (1, .int (nI 40))] := by rw [ha_h]; exact hl
  refine lv_aload_n hx hb dX9_init_1016 rfl (lv_at hl 0 rfl) ?_
  refine o_calli (va_runV (As := []) (rest := []) ⟨hx, hb, hml, hown, hts⟩ (c_X9_text l (gz Z 56 ads19) fu i_X9 r σr hf) (cwV 0 hts gX9_init_X9_text rfl rfl rfl (by decide +kernel) ⟨(Nat.le_of_ble_eq_true rfl), (Nat.le_of_ble_eq_true rfl)⟩) (o_preV hG2 hO ow_i56 (by decide) rfl) rfl rfl hl.1 rfl (lv_room (Nat.le_of_ble_eq_true rfl)) dX9_init_1017 ⟨(Nat.le_of_ble_eq_true rfl), (Nat.le_of_ble_eq_true rfl)⟩) hO (fun H locs hW _ _ => ?_)
  refine lv_pop hx hb dX9_init_1020 rfl ?_
  obtain ⟨b, hb9⟩ := hp19
  have hlb9 : b.length = 19 := by have := hn19; rw [hb9, List.length_append, hn0] at this; omega
  have hws : gws Z 56 (ads0 ++ b) σr = ow_W (gz Z 56 ads19) 56 20 σr := by unfold gws; rw [← hb9, hn19]
  exact W.vret hx hb hr (fun t ht hWm => ⟨⟨b, rfl, hlb9, by rw [ht, hws]; exact hW.1, by rw [hws]; exact hW.2.1.weaken (fun k q _ h => hW.2.2.2.2 _ h), hW.2.2.2.1⟩, hW.2.2.1.F ht⟩) hW.2.2.1.2.2 dX9_init_1021 hlocks

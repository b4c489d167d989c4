theorem gd8_0 : ∀ c, 1 ≤ c → c < 56 → gdf ow_0 c := fun c _ _ => gdf_0 c
def s8_1 : ow_S := ow_sR (i_X4 1 ow_0) 0 0 (some 1)
theorem gd8_1 : ∀ c, 3 ≤ c → c < 56 → gdf s8_1 c := fun c h1 h2 => (((gd8_0 c (by omega) h2).iX4 (by omega)).sR (by omega))
def s8_2 : ow_S := ow_sR (i_X4 3 s8_1) 0 1 (some 3)
theorem gd8_2 : ∀ c, 5 ≤ c → c < 56 → gdf s8_2 c := fun c h1 h2 => (((gd8_1 c (by omega) h2).iX4 (by omega)).sR (by omega))
def s8_3 : ow_S := ow_sR s8_2 0 2 (some 5)
theorem gd8_3 : ∀ c, 6 ≤ c → c < 56 → gdf s8_3 c := fun c h1 h2 => ((gd8_2 c (by omega) h2).sR (by omega))
def s8_4 : ow_S := ow_sR (i_X0 6 s8_3) 0 3 (some 6)
theorem gd8_4 : ∀ c, 7 ≤ c → c < 56 → gdf s8_4 c := fun c h1 h2 => (((gd8_3 c (by omega) h2).iX0 (by omega)).sR (by omega))
def s8_5 : ow_S := ow_sR (i_X3 7 s8_4) 0 4 (some 7)
theorem gd8_5 : ∀ c, 9 ≤ c → c < 56 → gdf s8_5 c := fun c h1 h2 => (((gd8_4 c (by omega) h2).iX3 (by omega)).sR (by omega))
def s8_6 : ow_S := ow_sR s8_5 0 5 (some 9)
theorem gd8_6 : ∀ c, 10 ≤ c → c < 56 → gdf s8_6 c := fun c h1 h2 => ((gd8_5 c (by omega) h2).sR (by omega))
def s8_7 : ow_S := ow_sR (i_X7 10 s8_6) 0 6 (some 10)
theorem gd8_7 : ∀ c, 13 ≤ c → c < 56 → gdf s8_7 c := fun c h1 h2 => (((gd8_6 c (by omega) h2).iX7 (by omega)).sR (by omega))
def s8_8 : ow_S := ow_sR (i_X2 13 s8_7) 0 7 (some 13)
theorem gd8_8 : ∀ c, 14 ≤ c → c < 56 → gdf s8_8 c := fun c h1 h2 => (((gd8_7 c (by omega) h2).iX2 (by omega)).sR (by omega))
def s8_9 : ow_S := ow_sR s8_8 0 8 (some 14)
theorem gd8_9 : ∀ c, 15 ≤ c → c < 56 → gdf s8_9 c := fun c h1 h2 => ((gd8_8 c (by omega) h2).sR (by omega))
def s8_10 : ow_S := ow_sR s8_9 0 9 (some 15)
theorem gd8_10 : ∀ c, 16 ≤ c → c < 56 → gdf s8_10 c := fun c h1 h2 => ((gd8_9 c (by omega) h2).sR (by omega))
def s8_11 : ow_S := ow_sR (i_X1  s8_10) 0 10 (some 16)
theorem gd8_11 : ∀ c, 25 ≤ c → c < 56 → gdf s8_11 c := fun c h1 h2 => ((gdf.iX1 (gd8_10 c (by omega) h2) (by omega)).sR (by omega))
def s8_12 : ow_S := ow_sI s8_11 0 11 10
theorem gd8_12 : ∀ c, 25 ≤ c → c < 56 → gdf s8_12 c := fun c h1 h2 => ((gd8_11 c (by omega) h2).sI (by omega))
def s8_13 : ow_S := ow_sI s8_12 0 12 0
theorem gd8_13 : ∀ c, 25 ≤ c → c < 56 → gdf s8_13 c := fun c h1 h2 => ((gd8_12 c (by omega) h2).sI (by omega))
def s8_14 : ow_S := ow_sI s8_13 0 13 0
theorem gd8_14 : ∀ c, 25 ≤ c → c < 56 → gdf s8_14 c := fun c h1 h2 => ((gd8_13 c (by omega) h2).sI (by omega))
def s8_15 : ow_S := ow_sI s8_14 0 14 0
theorem gd8_15 : ∀ c, 25 ≤ c → c < 56 → gdf s8_15 c := fun c h1 h2 => ((gd8_14 c (by omega) h2).sI (by omega))
def s8_16 : ow_S := i_lp 5 25 1 i_X0 5 0 s8_15
theorem gd8_16 : ∀ c, 30 ≤ c → c < 56 → gdf s8_16 c := fun c h1 h2 => gdf_lp (f := i_X0) (fun h hk => h.iX0 hk) (by decide) 5 0 _ c (by omega) (by omega) (by omega) (gd8_15 c (by omega) h2)
def s8_17 : ow_S := i_lp 9 30 3 i_X6 6 0 s8_16
theorem gd8_17 : ∀ c, 48 ≤ c → c < 56 → gdf s8_17 c := fun c h1 h2 => gdf_lp (f := i_X6) (fun h hk => h.iX6 hk) (by decide) 6 0 _ c (by omega) (by omega) (by omega) (gd8_16 c (by omega) h2)
def s8_18 : ow_S := i_lp 15 48 2 i_X5 4 0 s8_17
theorem gd8_18 : ∀ c, 56 ≤ c → c < 56 → gdf s8_18 c := fun c h1 h2 => gdf_lp (f := i_X5) (fun h hk => h.iX5 hk) (by decide) 4 0 _ c (by omega) (by omega) (by omega) (gd8_17 c (by omega) h2)
def i_X8 : ow_S := s8_18
theorem ok8_rl : ∀ k, k < 56 → ∀ j, j < 16 → ow_rl k j ≠ none → i_X8.2.2 k j = ow_rl k j := by decide +kernel
theorem rl_16 : ∀ k, k < 56 → ∀ j, 16 ≤ j → ow_rl k j = none := by
  intro k hk j hj
  unfold ow_rl
  rw [if_neg (by omega), if_neg (by omega), if_neg (by omega), if_neg (by omega), if_neg (by omega), if_neg (by omega), if_neg (by omega), if_neg (by omega), if_neg (by omega), if_neg (by omega), if_neg (by omega), if_neg (by omega)]
theorem ok8 : ow_Ok 0 56 i_X8.2.2 := by
  refine ⟨fun k j c _ hk h => ?_, fun k t hk h => ?_⟩
  · by_cases hj : j < 16
    · rw [ok8_rl k (by omega) j hj (by rw [h]; simp), h]
    · rw [rl_16 k (by omega) j (by omega)] at h; cases h
  · exfalso
    rcases hk with rfl | rfl
    · rw [show i_X8.2.2 7 (if 7 = 7 then 6 else 2) = none by decide +kernel] at h; cases h
    · rw [show i_X8.2.2 10 (if 10 = 7 then 6 else 2) = none by decide +kernel] at h; cases h
/-- what comes when all cells are there: the first text goes on the tape, and is read -/
def f_X8_ini (fu : Nat) : Nat → Int32 → ow_S → Option ow_S
  | 0, _, _ => none
  | fn + 1, x1, σ =>
    if nI (ow_sl.getD 0 0) ≤ x1 then (ow_cl (f_X8_text fu σ) <| fun _ σ => some σ)
    else (ow_ck (ow_bd x1 (ow_sl.getD 0 0)) <| ow_cv (f_X3_take fu (ow_ch 0 x1) σ) <| fun σ => ow_let (x1 + (1 : Int32)) <| fun x1 => f_X8_ini fu fn x1 σ)
set_option maxHeartbeats 2000000 in
set_option maxRecDepth 100000 in
theorem k_X8 (l : Launch) (Z : ow_Z) (fu : Nat) (h sz : Nat) (ads0 : List Nat) (hads : ads0 = [h]) (σr : ow_S) (hf : f_X8_ini fu fu 0 i_X8 = some σr) : Met l yX8_init wsX8_init { frames := 160, cells := 55, slots := 2037, locals := 7000 } (va_Pc [.ref h] (fun U => gB Z 0 ads0 ow_0 sz U ∧ ow_Gs Z (gA Z 0 ads0 ow_0 sz) U U.heap)) (va_Qv (fun b : List Nat => b.length = 55) (fun b t => va_P Z.1 vwCl (gws Z 0 (ads0 ++ b) σr) t.heap ∧ va_D (gA Z 0 ads0 ow_0 sz) (gws Z 0 (ads0 ++ b) σr) ∧ ow_Ok 0 56 σr.2.2) (gA Z 0 ads0 ow_0 sz)) 55 2037 (gA Z 0 ads0 ow_0 sz) := by
  refine Met.ofW (cc := cX8_init) (maxL := 2) (ret := none) (by decide) rfl ?_
  intro p e s m args below meth c s₁ B hml hv
  obtain ⟨hav, hB, hGs⟩ := hv
  obtain ⟨hA, hG, hW⟩ := gB_begin hB
  have hx := B.exec
  have hb := B.bytes
  have hr := B.returns
  have hts := atoms_spec (ws := wsX8_init) B.pre
  have hown : s.vm.findClass RX8 = some m.cls := findClass_of_methodNamed B.named
  have hlocks := B.notSynchronized
  have hin : meth.name = "<init>" := (name_of_methodNamed B.named B.method).1
  have hinX8 : ∀ w ∈ wsX80, w ∈ wsX8_init := by decide +kernel
  have hl := lv_entry ([.ref h]) (n := 2) (Nat.le_of_ble_eq_true rfl)
  refine W.eq (g2 := F0 m 0 ((lg_sl ([.ref h]) ++ List.replicate (2 - (lg_sl ([.ref h])).length) Slot.unset).toArray) []) (by rw [hav]; exact lg_entry_eq _ _ _) ?_
  generalize (lg_sl ([.ref h]) ++ List.replicate (2 - (lg_sl ([.ref h])).length) Slot.unset).toArray = ls at hl ⊢
  have hl : lv_has ls 2 [(0, .ref h)] := hl
  have hn0 : ads0.length = 1 := by rw [hads]; rfl
  have ha_h : ow_ad (gz Z 0 ads0) 0 = h := by rw [hads]; rfl
  have hp0 : ∃ b, ads0 = ads0 ++ b := ⟨[], (List.append_nil _).symm⟩
  have hkhJ138 : ∀ z, z < 5 → ow_K (25 + 1 * z) = 0 := by decide +kernel
  have hJ138 : ∀ (q i : Nat) (ads : List Nat) (σ : ow_S) (H : Heap) (locs : List Loc) (ls : Array Slot) (cl sl : Nat), i + q = 5 → ads.length = 25 + 1 * i → cl + 1 * q ≤ 29 → sl + 5 * q ≤ 863 → (∀ c, 25 + 1 * i ≤ c → c < 56 → gdf σ c) → σ.2.2 0 2 = some 5 → ow_ad (gz Z 0 ads) 0 = h → gW Z (gA Z 0 ads0 ow_0 sz) 0 ads σ s H locs → lv_has ls 2 [(0, .ref h), (1, .int (nI i))] → (∀ (b : List Nat) (H : Heap) (locs : List Loc) (ls : Array Slot), b.length = 1 * q → gW Z (gA Z 0 ads0 ow_0 sz) 0 (ads ++ b) (i_lp 5 25 1 i_X0 q i σ) s H locs → lv_has ls 2 [(0, .ref h), (1, .int (nI 5))] → W p l e (headSpec wsX8_init { frames := 160, cells := 55, slots := 2037, locals := 7000 }).room s m args below meth c H locs 29 863 (MQ below (va_Qv (fun b : List Nat => b.length = 55) (fun b t => va_P Z.1 vwCl (gws Z 0 (ads0 ++ b) σr) t.heap ∧ va_D (gA Z 0 ads0 ow_0 sz) (gws Z 0 (ads0 ++ b) σr) ∧ ow_Ok 0 56 σr.2.2) (gA Z 0 ads0 ow_0 sz)) args s 55 2037 (gA Z 0 ads0 ow_0 sz)) (F0 m 162 ls [])) → W p l e (headSpec wsX8_init { frames := 160, cells := 55, slots := 2037, locals := 7000 }).room s m args below meth c H locs cl sl (MQ below (va_Qv (fun b : List Nat => b.length = 55) (fun b t => va_P Z.1 vwCl (gws Z 0 (ads0 ++ b) σr) t.heap ∧ va_D (gA Z 0 ads0 ow_0 sz) (gws Z 0 (ads0 ++ b) σr) ∧ ow_Ok 0 56 σr.2.2) (gA Z 0 ads0 ow_0 sz)) args s 55 2037 (gA Z 0 ads0 ow_0 sz)) (F0 m 138 ls []) := by
    intro q
    induction q with
    | zero =>
      intro i ads σ H locs ls cl sl hi hn hc hs hgd hf ha_h hW hl kk
      obtain rfl : i = 5 := by omega
      refine lv_iload_n hx hb dX8_init_138 rfl (lv_at hl 1 rfl) ?_
      refine lv_iconst (v := 5) hx hb dX8_init_139 (by decide) ?_
      refine lv_icmp_ge (tgt := 162) hx hb dX8_init_140 (by decide) (fun c => ?_) (fun c => absurd (show (5 : Int32) ≤ nI 5 by decide) c)
      refine W.widen (k := 29) (n := 863) (by omega) (by omega) ?_
      exact kk [] _ _ _ rfl (by rw [List.append_nil]; exact hW) hl
    | succ q ih =>
      intro i ads σ H locs ls cl sl hi hn hc hs hgd hf ha_h hW hl kk
      have hK := hkhJ138 i (by omega)
      refine lv_iload_n hx hb dX8_init_138 rfl (lv_at hl 1 rfl) ?_
      refine lv_iconst (v := 5) hx hb dX8_init_139 (by decide) ?_
      refine lv_icmp_ge (tgt := 162) hx hb dX8_init_140 (by decide) (fun c => absurd ((n_le (a := 5) (b := i) (by decide) (by omega)).mp c) (by omega)) (fun c => ?_)
      refine lv_aload_n hx hb dX8_init_143 rfl (lv_at hl 0 rfl) ?_
      refine g_getR (k := 0) (ci := 8) (C := RX8) (T := TX8) (N := 15) hx hb hts hown hG.1 hW ha_h (by decide) (by rw [hn]; omega) rfl (by decide) rfl hinX8 2 (by decide) rfl (hts (.fieldLink RX8 21 "FiftyOneCards" "heads" "[LFiftyOneCards$Head;") (by decide +kernel)) 5 hf dX8_init_144 ?_
      refine lv_iload_n hx hb dX8_init_147 rfl (lv_at hl 1 rfl) ?_
      refine g_new (ci := 0) (C := RX0) (T := TX0) (N := 5) (n := (25 + 1 * i)) hx hb hts (by decide +kernel) tyX0 tyX0_ok hown (hts (.classLink RX8 19 RX0) (by decide +kernel)) (hts (.instantiable RX0 5) (by decide +kernel)) (hts (.initialized RX0) (by decide +kernel)) hG.1 hW hA rfl (by decide) (by rw [hn]; omega) hK (hgd _ (by omega) (by omega)) (fun j hj => by rcases (show j = 0 ∨ j = 1 ∨ j = 2 ∨ j = 3 ∨ j = 4 by omega) with rfl | rfl | rfl | rfl | rfl <;> rfl) (by show cl + 1 ≤ 55; omega) (by show sl + 5 ≤ 2037; omega) dX8_init_148 (fun q0 H hW => ?_)
      have ha_q : ow_ad (gz Z 0 (ads ++ [q0])) (25 + 1 * i) = q0 := by rw [show (25 + 1 * i) = 0 + ads.length by omega]; exact gz_new Z 0 ads q0
      refine lv_dup hx hb dX8_init_151 rfl ?_
      refine g_call (va_runIN (As := []) (rest := [.ref q0, .int (nI i), .ref (ow_ad (gz Z 0 ads) 5)]) ⟨hx, hb, hml, hown, hts⟩ (k_X0 l Z 0 (ads ++ [q0]) σ q0 H.size (25 + 1 * i) (by rw [List.length_append, List.length_singleton]; omega) (Nat.zero_le _) ha_q hK) ⟨va_cnB (host := "FiftyOneCards") 0 hts gX8_init_X0_init_n25 rfl rfl rfl (g_nwp hG (.methodLinkNest RX8 25 yX0_init "FiftyOneCards") (by decide +kernel)) (hts (.initialized RX0) (by decide +kernel)) (by decide +kernel) ⟨(Nat.le_of_ble_eq_true rfl), (Nat.le_of_ble_eq_true rfl)⟩, rfl, hts (.instanceMethod yX0_init) (by decide +kernel)⟩ (g_pre hG hW) rfl rfl hl.1 rfl (lv_room (Nat.le_of_ble_eq_true rfl)) dX8_init_152 ⟨by show cl + 1 + 0 ≤ 55; omega, by show sl + 5 + 0 ≤ 2037; omega⟩) hW hA (fun b H locs hlb hW => ?_)
      have hlen : (ads ++ [q0] ++ b).length = 25 + 1 * (i + 1) := by rw [List.length_append, List.length_append, List.length_singleton, hlb, hn]; omega
      have ha_q2 : ow_ad (gz Z 0 (ads ++ [q0] ++ b)) (25 + 1 * i) = q0 := (gz_lt Z 0 (ads ++ [q0]) b (by rw [List.length_append, List.length_singleton]; omega)).trans ha_q
      have ha_a : ow_ad (gz Z 0 (ads ++ [q0] ++ b)) 5 = ow_ad (gz Z 0 ads) 5 := (gz_lt Z 0 (ads ++ [q0]) b (by rw [List.length_append, List.length_singleton]; omega)).trans (gz_lt Z 0 ads [q0] (by omega))
      have ha_h2 : ow_ad (gz Z 0 (ads ++ [q0] ++ b)) 0 = h := ((gz_lt Z 0 (ads ++ [q0]) b (by rw [List.length_append, List.length_singleton]; omega)).trans (gz_lt Z 0 ads [q0] (by omega))).trans ha_h
      refine g_ast (k := 5) (ci := 11) (kv := (25 + 1 * i)) (cv := 0) (C := RX0) (T := TX0) (N := 5) (L := 5) (i := i) hx hb hG.1 hW ha_a (by decide) (by rw [hlen]; omega) rfl (by decide) ha_q2 (Nat.zero_le _) (by rw [hlen]; omega) hK (by decide) rfl rfl rfl (by omega) (by decide) dX8_init_155 (fun H locs hW => ?_)
      refine lv_iinc (v := nI (i + 1)) (lv' := [(1, .int (nI (i + 1))), (0, .ref h)]) hx hb dX8_init_156 hl (k := 1) rfl (by rw [show Int32.ofInt 1 = nI 1 by decide, n_add]) (by decide) rfl (fun ls hl => ?_)
      refine lv_goto (tgt := 138) hx hb dX8_init_159 (by decide) ?_
      refine ih (i + 1) (ads ++ [q0] ++ b) (ow_sR (i_X0 (25 + 1 * i) σ) 5 i (some (25 + 1 * i))) _ _ _ _ _ (by omega) hlen (by omega) (by omega) (fun c h1 h2 => ((hgd c (by omega) h2).iX0 (by omega)).sR (by omega)) (by rw [rf_sR _ (by decide), rf_i_X0 (by omega)]; exact hf) ha_h2 hW (lv_sub hl [1, 0] rfl) (fun b2 H locs ls hb2 hW hl => ?_)
      refine kk ([q0] ++ b ++ b2) _ _ _ (by rw [List.length_append, List.length_append, List.length_singleton, hlb, hb2]; omega) ?_ hl
      have e : ads ++ ([q0] ++ b ++ b2) = ads ++ [q0] ++ b ++ b2 := by simp only [List.append_assoc]
      rw [e]; exact hW
  have hkhJ164 : ∀ z, z < 6 → ow_K (30 + 3 * z) = 6 ∧ ow_K (30 + 3 * z + 1) = 10 ∧ ow_n (30 + 3 * z + 1) = 160 ∧ ow_K (30 + 3 * z + 2) = 10 ∧ ow_n (30 + 3 * z + 2) = 3 := by decide +kernel
  have hJ164 : ∀ (q i : Nat) (ads : List Nat) (σ : ow_S) (H : Heap) (locs : List Loc) (ls : Array Slot) (cl sl : Nat), i + q = 6 → ads.length = 30 + 3 * i → cl + 3 * q ≤ 47 → sl + 167 * q ≤ 1865 → (∀ c, 30 + 3 * i ≤ c → c < 56 → gdf σ c) → σ.2.2 0 5 = some 9 → ow_ad (gz Z 0 ads) 0 = h → gW Z (gA Z 0 ads0 ow_0 sz) 0 ads σ s H locs → lv_has ls 2 [(0, .ref h), (1, .int (nI i))] → (∀ (b : List Nat) (H : Heap) (locs : List Loc) (ls : Array Slot), b.length = 3 * q → gW Z (gA Z 0 ads0 ow_0 sz) 0 (ads ++ b) (i_lp 9 30 3 i_X6 q i σ) s H locs → lv_has ls 2 [(0, .ref h), (1, .int (nI 6))] → W p l e (headSpec wsX8_init { frames := 160, cells := 55, slots := 2037, locals := 7000 }).room s m args below meth c H locs 47 1865 (MQ below (va_Qv (fun b : List Nat => b.length = 55) (fun b t => va_P Z.1 vwCl (gws Z 0 (ads0 ++ b) σr) t.heap ∧ va_D (gA Z 0 ads0 ow_0 sz) (gws Z 0 (ads0 ++ b) σr) ∧ ow_Ok 0 56 σr.2.2) (gA Z 0 ads0 ow_0 sz)) args s 55 2037 (gA Z 0 ads0 ow_0 sz)) (F0 m 189 ls [])) → W p l e (headSpec wsX8_init { frames := 160, cells := 55, slots := 2037, locals := 7000 }).room s m args below meth c H locs cl sl (MQ below (va_Qv (fun b : List Nat => b.length = 55) (fun b t => va_P Z.1 vwCl (gws Z 0 (ads0 ++ b) σr) t.heap ∧ va_D (gA Z 0 ads0 ow_0 sz) (gws Z 0 (ads0 ++ b) σr) ∧ ow_Ok 0 56 σr.2.2) (gA Z 0 ads0 ow_0 sz)) args s 55 2037 (gA Z 0 ads0 ow_0 sz)) (F0 m 164 ls []) := by
    intro q
    induction q with
    | zero =>
      intro i ads σ H locs ls cl sl hi hn hc hs hgd hf ha_h hW hl kk
      obtain rfl : i = 6 := by omega
      refine lv_iload_n hx hb dX8_init_164 rfl (lv_at hl 1 rfl) ?_
      refine lv_bipush (v := 6) hx hb dX8_init_165 (by decide) ?_
      refine lv_icmp_ge (tgt := 189) hx hb dX8_init_167 (by decide) (fun c => ?_) (fun c => absurd (show (6 : Int32) ≤ nI 6 by decide) c)
      refine W.widen (k := 47) (n := 1865) (by omega) (by omega) ?_
      exact kk [] _ _ _ rfl (by rw [List.append_nil]; exact hW) hl
    | succ q ih =>
      intro i ads σ H locs ls cl sl hi hn hc hs hgd hf ha_h hW hl kk
      have hK := hkhJ164 i (by omega)
      refine lv_iload_n hx hb dX8_init_164 rfl (lv_at hl 1 rfl) ?_
      refine lv_bipush (v := 6) hx hb dX8_init_165 (by decide) ?_
      refine lv_icmp_ge (tgt := 189) hx hb dX8_init_167 (by decide) (fun c => absurd ((n_le (a := 6) (b := i) (by decide) (by omega)).mp c) (by omega)) (fun c => ?_)
      refine lv_aload_n hx hb dX8_init_170 rfl (lv_at hl 0 rfl) ?_
      refine g_getR (k := 0) (ci := 8) (C := RX8) (T := TX8) (N := 15) hx hb hts hown hG.1 hW ha_h (by decide) (by rw [hn]; omega) rfl (by decide) rfl hinX8 5 (by decide) rfl (hts (.fieldLink RX8 39 "FiftyOneCards" "texts" "[LFiftyOneCards$Text;") (by decide +kernel)) 9 hf dX8_init_171 ?_
      refine lv_iload_n hx hb dX8_init_174 rfl (lv_at hl 1 rfl) ?_
      refine g_new (ci := 6) (C := RX6) (T := TX6) (N := 4) (n := (30 + 3 * i)) hx hb hts (by decide +kernel) tyX6 tyX6_ok hown (hts (.classLink RX8 37 RX6) (by decide +kernel)) (hts (.instantiable RX6 4) (by decide +kernel)) (hts (.initialized RX6) (by decide +kernel)) hG.1 hW hA rfl (by decide) (by rw [hn]; omega) hK.1 (hgd _ (by omega) (by omega)) (fun j hj => by rcases (show j = 0 ∨ j = 1 ∨ j = 2 ∨ j = 3 by omega) with rfl | rfl | rfl | rfl <;> rfl) (by show cl + 1 ≤ 55; omega) (by show sl + 4 ≤ 2037; omega) dX8_init_175 (fun q0 H hW => ?_)
      have ha_q : ow_ad (gz Z 0 (ads ++ [q0])) (30 + 3 * i) = q0 := by rw [show (30 + 3 * i) = 0 + ads.length by omega]; exact gz_new Z 0 ads q0
      refine lv_dup hx hb dX8_init_178 rfl ?_
      refine g_call (va_runIN (As := []) (rest := [.ref q0, .int (nI i), .ref (ow_ad (gz Z 0 ads) 9)]) ⟨hx, hb, hml, hown, hts⟩ (k_X6 l Z 0 (ads ++ [q0]) σ q0 H.size (30 + 3 * i) (by rw [List.length_append, List.length_singleton]; omega) (Nat.zero_le _) ha_q hK.1 hK.2.1 hK.2.2.1 (hgd _ (by omega) (by omega)) hK.2.2.2.1 hK.2.2.2.2 (hgd _ (by omega) (by omega))) ⟨va_cnB (host := "FiftyOneCards") 0 hts gX8_init_X6_init_n87 rfl rfl rfl (g_nwp hG (.methodLinkNest RX8 87 yX6_init "FiftyOneCards") (by decide +kernel)) (hts (.initialized RX6) (by decide +kernel)) (by decide +kernel) ⟨(Nat.le_of_ble_eq_true rfl), (Nat.le_of_ble_eq_true rfl)⟩, rfl, hts (.instanceMethod yX6_init) (by decide +kernel)⟩ (g_pre hG hW) rfl rfl hl.1 rfl (lv_room (Nat.le_of_ble_eq_true rfl)) dX8_init_179 ⟨by show cl + 1 + 2 ≤ 55; omega, by show sl + 4 + 163 ≤ 2037; omega⟩) hW hA (fun b H locs hlb hW => ?_)
      have hlen : (ads ++ [q0] ++ b).length = 30 + 3 * (i + 1) := by rw [List.length_append, List.length_append, List.length_singleton, hlb, hn]; omega
      have ha_q2 : ow_ad (gz Z 0 (ads ++ [q0] ++ b)) (30 + 3 * i) = q0 := (gz_lt Z 0 (ads ++ [q0]) b (by rw [List.length_append, List.length_singleton]; omega)).trans ha_q
      have ha_a : ow_ad (gz Z 0 (ads ++ [q0] ++ b)) 9 = ow_ad (gz Z 0 ads) 9 := (gz_lt Z 0 (ads ++ [q0]) b (by rw [List.length_append, List.length_singleton]; omega)).trans (gz_lt Z 0 ads [q0] (by omega))
      have ha_h2 : ow_ad (gz Z 0 (ads ++ [q0] ++ b)) 0 = h := ((gz_lt Z 0 (ads ++ [q0]) b (by rw [List.length_append, List.length_singleton]; omega)).trans (gz_lt Z 0 ads [q0] (by omega))).trans ha_h
      refine g_ast (k := 9) (ci := 13) (kv := (30 + 3 * i)) (cv := 6) (C := RX6) (T := TX6) (N := 4) (L := 6) (i := i) hx hb hG.1 hW ha_a (by decide) (by rw [hlen]; omega) rfl (by decide) ha_q2 (Nat.zero_le _) (by rw [hlen]; omega) hK.1 (by decide) rfl rfl rfl (by omega) (by decide) dX8_init_182 (fun H locs hW => ?_)
      refine lv_iinc (v := nI (i + 1)) (lv' := [(1, .int (nI (i + 1))), (0, .ref h)]) hx hb dX8_init_183 hl (k := 1) rfl (by rw [show Int32.ofInt 1 = nI 1 by decide, n_add]) (by decide) rfl (fun ls hl => ?_)
      refine lv_goto (tgt := 164) hx hb dX8_init_186 (by decide) ?_
      refine ih (i + 1) (ads ++ [q0] ++ b) (ow_sR (i_X6 (30 + 3 * i) σ) 9 i (some (30 + 3 * i))) _ _ _ _ _ (by omega) hlen (by omega) (by omega) (fun c h1 h2 => ((hgd c (by omega) h2).iX6 (by omega)).sR (by omega)) (by rw [rf_sR _ (by decide), rf_i_X6 (by omega)]; exact hf) ha_h2 hW (lv_sub hl [1, 0] rfl) (fun b2 H locs ls hb2 hW hl => ?_)
      refine kk ([q0] ++ b ++ b2) _ _ _ (by rw [List.length_append, List.length_append, List.length_singleton, hlb, hb2]; omega) ?_ hl
      have e : ads ++ ([q0] ++ b ++ b2) = ads ++ [q0] ++ b ++ b2 := by simp only [List.append_assoc]
      rw [e]; exact hW
  have hkhJ191 : ∀ z, z < 4 → ow_K (48 + 2 * z) = 5 ∧ ow_K (48 + 2 * z + 1) = 10 ∧ ow_n (48 + 2 * z + 1) = 40 := by decide +kernel
  have hJ191 : ∀ (q i : Nat) (ads : List Nat) (σ : ow_S) (H : Heap) (locs : List Loc) (ls : Array Slot) (cl sl : Nat), i + q = 4 → ads.length = 48 + 2 * i → cl + 2 * q ≤ 55 → sl + 43 * q ≤ 2037 → (∀ c, 48 + 2 * i ≤ c → c < 56 → gdf σ c) → σ.2.2 0 9 = some 15 → ow_ad (gz Z 0 ads) 0 = h → gW Z (gA Z 0 ads0 ow_0 sz) 0 ads σ s H locs → lv_has ls 2 [(0, .ref h), (1, .int (nI i))] → (∀ (b : List Nat) (H : Heap) (locs : List Loc) (ls : Array Slot), b.length = 2 * q → gW Z (gA Z 0 ads0 ow_0 sz) 0 (ads ++ b) (i_lp 15 48 2 i_X5 q i σ) s H locs → lv_has ls 2 [(0, .ref h), (1, .int (nI 4))] → W p l e (headSpec wsX8_init { frames := 160, cells := 55, slots := 2037, locals := 7000 }).room s m args below meth c H locs 55 2037 (MQ below (va_Qv (fun b : List Nat => b.length = 55) (fun b t => va_P Z.1 vwCl (gws Z 0 (ads0 ++ b) σr) t.heap ∧ va_D (gA Z 0 ads0 ow_0 sz) (gws Z 0 (ads0 ++ b) σr) ∧ ow_Ok 0 56 σr.2.2) (gA Z 0 ads0 ow_0 sz)) args s 55 2037 (gA Z 0 ads0 ow_0 sz)) (F0 m 215 ls [])) → W p l e (headSpec wsX8_init { frames := 160, cells := 55, slots := 2037, locals := 7000 }).room s m args below meth c H locs cl sl (MQ below (va_Qv (fun b : List Nat => b.length = 55) (fun b t => va_P Z.1 vwCl (gws Z 0 (ads0 ++ b) σr) t.heap ∧ va_D (gA Z 0 ads0 ow_0 sz) (gws Z 0 (ads0 ++ b) σr) ∧ ow_Ok 0 56 σr.2.2) (gA Z 0 ads0 ow_0 sz)) args s 55 2037 (gA Z 0 ads0 ow_0 sz)) (F0 m 191 ls []) := by
    intro q
    induction q with
    | zero =>
      intro i ads σ H locs ls cl sl hi hn hc hs hgd hf ha_h hW hl kk
      obtain rfl : i = 4 := by omega
      refine lv_iload_n hx hb dX8_init_191 rfl (lv_at hl 1 rfl) ?_
      refine lv_iconst (v := 4) hx hb dX8_init_192 (by decide) ?_
      refine lv_icmp_ge (tgt := 215) hx hb dX8_init_193 (by decide) (fun c => ?_) (fun c => absurd (show (4 : Int32) ≤ nI 4 by decide) c)
      refine W.widen (k := 55) (n := 2037) (by omega) (by omega) ?_
      exact kk [] _ _ _ rfl (by rw [List.append_nil]; exact hW) hl
    | succ q ih =>
      intro i ads σ H locs ls cl sl hi hn hc hs hgd hf ha_h hW hl kk
      have hK := hkhJ191 i (by omega)
      refine lv_iload_n hx hb dX8_init_191 rfl (lv_at hl 1 rfl) ?_
      refine lv_iconst (v := 4) hx hb dX8_init_192 (by decide) ?_
      refine lv_icmp_ge (tgt := 215) hx hb dX8_init_193 (by decide) (fun c => absurd ((n_le (a := 4) (b := i) (by decide) (by omega)).mp c) (by omega)) (fun c => ?_)
      refine lv_aload_n hx hb dX8_init_196 rfl (lv_at hl 0 rfl) ?_
      refine g_getR (k := 0) (ci := 8) (C := RX8) (T := TX8) (N := 15) hx hb hts hown hG.1 hW ha_h (by decide) (by rw [hn]; omega) rfl (by decide) rfl hinX8 9 (by decide) rfl (hts (.fieldLink RX8 63 "FiftyOneCards" "sheets" "[LFiftyOneCards$Sheet;") (by decide +kernel)) 15 hf dX8_init_197 ?_
      refine lv_iload_n hx hb dX8_init_200 rfl (lv_at hl 1 rfl) ?_
      refine g_new (ci := 5) (C := RX5) (T := TX5) (N := 3) (n := (48 + 2 * i)) hx hb hts (by decide +kernel) tyX5 tyX5_ok hown (hts (.classLink RX8 61 RX5) (by decide +kernel)) (hts (.instantiable RX5 3) (by decide +kernel)) (hts (.initialized RX5) (by decide +kernel)) hG.1 hW hA rfl (by decide) (by rw [hn]; omega) hK.1 (hgd _ (by omega) (by omega)) (fun j hj => by rcases (show j = 0 ∨ j = 1 ∨ j = 2 by omega) with rfl | rfl | rfl <;> rfl) (by show cl + 1 ≤ 55; omega) (by show sl + 3 ≤ 2037; omega) dX8_init_201 (fun q0 H hW => ?_)
      have ha_q : ow_ad (gz Z 0 (ads ++ [q0])) (48 + 2 * i) = q0 := by rw [show (48 + 2 * i) = 0 + ads.length by omega]; exact gz_new Z 0 ads q0
      refine lv_dup hx hb dX8_init_204 rfl ?_
      refine g_call (va_runIN (As := []) (rest := [.ref q0, .int (nI i), .ref (ow_ad (gz Z 0 ads) 15)]) ⟨hx, hb, hml, hown, hts⟩ (k_X5 l Z 0 (ads ++ [q0]) σ q0 H.size (48 + 2 * i) (by rw [List.length_append, List.length_singleton]; omega) (Nat.zero_le _) ha_q hK.1 hK.2.1 hK.2.2 (hgd _ (by omega) (by omega))) ⟨va_cnB (host := "FiftyOneCards") 0 hts gX8_init_X5_init_n88 rfl rfl rfl (g_nwp hG (.methodLinkNest RX8 88 yX5_init "FiftyOneCards") (by decide +kernel)) (hts (.initialized RX5) (by decide +kernel)) (by decide +kernel) ⟨(Nat.le_of_ble_eq_true rfl), (Nat.le_of_ble_eq_true rfl)⟩, rfl, hts (.instanceMethod yX5_init) (by decide +kernel)⟩ (g_pre hG hW) rfl rfl hl.1 rfl (lv_room (Nat.le_of_ble_eq_true rfl)) dX8_init_205 ⟨by show cl + 1 + 1 ≤ 55; omega, by show sl + 3 + 40 ≤ 2037; omega⟩) hW hA (fun b H locs hlb hW => ?_)
      have hlen : (ads ++ [q0] ++ b).length = 48 + 2 * (i + 1) := by rw [List.length_append, List.length_append, List.length_singleton, hlb, hn]; omega
      have ha_q2 : ow_ad (gz Z 0 (ads ++ [q0] ++ b)) (48 + 2 * i) = q0 := (gz_lt Z 0 (ads ++ [q0]) b (by rw [List.length_append, List.length_singleton]; omega)).trans ha_q
      have ha_a : ow_ad (gz Z 0 (ads ++ [q0] ++ b)) 15 = ow_ad (gz Z 0 ads) 15 := (gz_lt Z 0 (ads ++ [q0]) b (by rw [List.length_append, List.length_singleton]; omega)).trans (gz_lt Z 0 ads [q0] (by omega))
      have ha_h2 : ow_ad (gz Z 0 (ads ++ [q0] ++ b)) 0 = h := ((gz_lt Z 0 (ads ++ [q0]) b (by rw [List.length_append, List.length_singleton]; omega)).trans (gz_lt Z 0 ads [q0] (by omega))).trans ha_h
      refine g_ast (k := 15) (ci := 12) (kv := (48 + 2 * i)) (cv := 5) (C := RX5) (T := TX5) (N := 3) (L := 4) (i := i) hx hb hG.1 hW ha_a (by decide) (by rw [hlen]; omega) rfl (by decide) ha_q2 (Nat.zero_le _) (by rw [hlen]; omega) hK.1 (by decide) rfl rfl rfl (by omega) (by decide) dX8_init_208 (fun H locs hW => ?_)
      refine lv_iinc (v := nI (i + 1)) (lv' := [(1, .int (nI (i + 1))), (0, .ref h)]) hx hb dX8_init_209 hl (k := 1) rfl (by rw [show Int32.ofInt 1 = nI 1 by decide, n_add]) (by decide) rfl (fun ls hl => ?_)
      refine lv_goto (tgt := 191) hx hb dX8_init_212 (by decide) ?_
      refine ih (i + 1) (ads ++ [q0] ++ b) (ow_sR (i_X5 (48 + 2 * i) σ) 15 i (some (48 + 2 * i))) _ _ _ _ _ (by omega) hlen (by omega) (by omega) (fun c h1 h2 => ((hgd c (by omega) h2).iX5 (by omega)).sR (by omega)) (by rw [rf_sR _ (by decide), rf_i_X5 (by omega)]; exact hf) ha_h2 hW (lv_sub hl [1, 0] rfl) (fun b2 H locs ls hb2 hW hl => ?_)
      refine kk ([q0] ++ b ++ b2) _ _ _ (by rw [List.length_append, List.length_append, List.length_singleton, hlb, hb2]; omega) ?_ hl
      have e : ads ++ ([q0] ++ b ++ b2) = ads ++ [q0] ++ b ++ b2 := by simp only [List.append_assoc]
      rw [e]; exact hW
  have hT : ∀ (ads : List Nat) (hn : ads.length = 56) (hp : ∃ b, ads = ads0 ++ b) (fn : Nat) (x1 : Int32) (σ : ow_S) (H : Heap) (locs : List Loc) (ls : Array Slot), f_X8_ini fu fn x1 σ = some σr → oW (gz Z 0 ads) (gA Z 0 ads0 ow_0 sz) 0 56 σ s H locs → lv_has ls 2 [(0, .ref (ow_ad (gz Z 0 ads) 0)), (1, .int x1)] → W p l e (headSpec wsX8_init { frames := 160, cells := 55, slots := 2037, locals := 7000 }).room s m args below meth c H locs 55 2037 (MQ below (va_Qv (fun b : List Nat => b.length = 55) (fun b t => va_P Z.1 vwCl (gws Z 0 (ads0 ++ b) σr) t.heap ∧ va_D (gA Z 0 ads0 ow_0 sz) (gws Z 0 (ads0 ++ b) σr) ∧ ow_Ok 0 56 σr.2.2) (gA Z 0 ads0 ow_0 sz)) args s 55 2037 (gA Z 0 ads0 ow_0 sz)) (F0 m 217 ls []) := by
    intro ads hn hp fn
    have hG2 : ow_G (gz Z 0 ads) (gA Z 0 ads0 ow_0 sz) s s.heap := ⟨hG, hGs⟩
    induction fn with
    | zero => intro x1 σ H locs ls hf hW hl; simp [f_X8_ini] at hf
    | succ fn ih =>
      intro x1 σ H locs ls hf hW hl
      rw [f_X8_ini] at hf
      refine lv_iload_n hx hb dX8_init_217 rfl (lv_at hl 1 rfl) ?_
      refine va_ldcS (own := RX8) (tx := "first a - item ; second b + 1 ; says a ;") (q := ow_adK (gz Z 0 ads) 0) hx hb hown (hG2.1.2.2.1 0 (by decide)) dX8_init_218 ?_
      refine o_calli (va_runV (As := []) (rest := [.int x1]) ⟨hx, hb, hml, hown, hts⟩ (c_J0_length l (gz Z 0 ads) 0 56 0 (by decide) σ) (cwV 0 hts gX8_init_J0_length_8abf5 rfl rfl rfl (by decide +kernel) ⟨(Nat.le_of_ble_eq_true rfl), (Nat.le_of_ble_eq_true rfl)⟩) (o_preK hG2 hW (by decide)) rfl rfl hl.1 rfl (lv_room (Nat.le_of_ble_eq_true rfl)) dX8_init_220 ⟨(Nat.le_of_ble_eq_true rfl), (Nat.le_of_ble_eq_true rfl)⟩) hW (fun H locs hW _ _ => ?_)
      refine lv_icmp_ge (tgt := 245) hx hb dX8_init_223 (by decide) (fun c223 => ?_) (fun c223 => ?_)
      · replace hf := ow_if_t c223 hf
        obtain ⟨r0, σ0, hc0, hf⟩ := ow_cl_i hf
        cases hf
        refine lv_aload_n hx hb dX8_init_245 rfl (lv_at hl 0 rfl) ?_
        refine o_calli (va_runV (As := []) (rest := []) ⟨hx, hb, hml, hown, hts⟩ (c_X8_text l (gz Z 0 ads) fu σ r0 σr hc0) (cwV 0 hts gX8_init_X8_text rfl rfl rfl (by decide +kernel) ⟨(Nat.le_of_ble_eq_true rfl), (Nat.le_of_ble_eq_true rfl)⟩) (o_preV hG2 hW ow_i0 (by decide) rfl) rfl rfl hl.1 rfl (lv_room (Nat.le_of_ble_eq_true rfl)) dX8_init_246 ⟨(Nat.le_of_ble_eq_true rfl), (Nat.le_of_ble_eq_true rfl)⟩) hW (fun H locs hW _ _ => ?_)
        refine lv_pop hx hb dX8_init_249 rfl ?_
        obtain ⟨b, hb9⟩ := hp
        have hlb9 : b.length = 55 := by rw [hb9, List.length_append, hn0] at hn; omega
        have hws : gws Z 0 (ads0 ++ b) σr = ow_W (gz Z 0 ads) 0 56 σr := by unfold gws; rw [← hb9, hn]
        exact W.vret hx hb hr (fun t ht hWm => ⟨⟨b, rfl, hlb9, by rw [ht, hws]; exact hW.1, by rw [hws]; exact hW.2.1.weaken (fun k q _ h => hW.2.2.2.2 _ h), hW.2.2.2.1⟩, hW.2.2.1.F ht⟩) hW.2.2.1.2.2 dX8_init_250 hlocks
      · replace hf := ow_if_f c223 hf
        obtain ⟨hbd, hf⟩ := ow_ck_i hf
        obtain ⟨σ0, hc0, hf⟩ := ow_cv_i hf
        refine lv_aload_n hx hb dX8_init_226 rfl (lv_at hl 0 rfl) ?_
        refine va_get (D := Z.1) (ci := 8) (C := RX8) (T := TX8) (N := 15) hx hb hts hinX8 hown hG.1 hW.1 0 (by rw [ow_W_at (gz Z 0 ads) (lo := 0) (n := 56) σ (k := 0) (by decide) (by decide), ow_E_obj _ σ (ci := 8) rfl (by decide)]) rfl 4 (by decide) (hts (.fieldLink RX8 33 "FiftyOneCards" "reader" "LFiftyOneCards$Reader;") (by decide +kernel)) (fun _ h9 => h9) (v := .ref (ow_ad (gz Z 0 ads) 7)) (by rw [ow_fs_get _ σ 0 (j := 4) (fk := 2) rfl, ow_vS (hW.2.2.2.1.1 0 4 7 (by decide) (by decide) (by decide +kernel))]) dX8_init_227 ?_
        refine va_ldcS (own := RX8) (tx := "first a - item ; second b + 1 ; says a ;") (q := ow_adK (gz Z 0 ads) 0) hx hb hown (hG2.1.2.2.1 0 (by decide)) dX8_init_230 ?_
        refine lv_iload_n hx hb dX8_init_232 rfl (lv_at hl 1 rfl) ?_
        refine o_calli (va_runV (As := [.int x1]) (rest := [.ref (ow_ad (gz Z 0 ads) 7)]) ⟨hx, hb, hml, hown, hts⟩ (c_J0_charAt l (gz Z 0 ads) 0 56 0 (by decide) x1 hbd σ) (cwV 1 hts gX8_init_J0_charAt_5068e rfl rfl rfl (by decide +kernel) ⟨(Nat.le_of_ble_eq_true rfl), (Nat.le_of_ble_eq_true rfl)⟩) (o_preK hG2 hW (by decide)) rfl rfl hl.1 rfl (lv_room (Nat.le_of_ble_eq_true rfl)) dX8_init_233 ⟨(Nat.le_of_ble_eq_true rfl), (Nat.le_of_ble_eq_true rfl)⟩) hW (fun H locs hW _ _ => ?_)
        refine o_callv (va_runVN (As := [.int (ow_ch 0 x1)]) (rest := []) ⟨hx, hb, hml, hown, hts⟩ (c_X3_take l (gz Z 0 ads) fu (ow_ch 0 x1) σ σ0 hc0) ⟨va_cnB (host := "FiftyOneCards") 1 hts ggX8_init_X3_take rfl rfl rfl (g_nwp hG (.methodLinkNest RX8 101 yX3_take "FiftyOneCards") (by decide +kernel)) (hts (.initialized RX3) (by decide +kernel)) (by decide +kernel) ⟨(Nat.le_of_ble_eq_true rfl), (Nat.le_of_ble_eq_true rfl)⟩, hts (.instanceMethod yX3_take) (by decide +kernel), hts (.selects RX3 yX3_take yX3_take) (by decide +kernel)⟩ (o_preV hG2 hW ow_i7 (by decide) rfl) rfl rfl hl.1 rfl (lv_room (Nat.le_of_ble_eq_true rfl)) dX8_init_236 ⟨(Nat.le_of_ble_eq_true rfl), (Nat.le_of_ble_eq_true rfl)⟩) hW (fun H locs hW _ _ => ?_)
        refine ow_iinc (d := 1) (lv' := fun z => [(1, .int z), (0, .ref (ow_ad (gz Z 0 ads) 0))]) hx hb hf dX8_init_239 hl (k := 1) rfl (by decide) (by decide) (fun z => rfl) (fun z hf ls hl => ?_)
        refine lv_goto (tgt := 217) hx hb dX8_init_242 (by decide) ?_
        exact ih z σ0 _ _ _ hf hW (lv_sub hl [1, 0] rfl)
  refine lv_aload_n hx hb dX8_init_0 rfl (lv_at hl 0 rfl) ?_
  refine W.objInit hx hb hown (hts (.methodLink RX8 1 objectInit) (by decide +kernel)) (hts (.instanceMethod objectInit) (by decide +kernel)) (hts (.code objectInit ⟨#[0xb1]⟩ 1 none) (by decide +kernel)) rfl (by rw [hml]; exact hl.1) rfl dX8_init_1 (Nat.le_of_ble_eq_true rfl) (Nat.le_of_ble_eq_true rfl) ?_
  refine W.eq (g2 := F0 m 4 ls []) rfl ?_
  refine lv_aload_n hx hb dX8_init_4 rfl (lv_at hl 0 rfl) ?_
  refine g_new (ci := 4) (C := RX4) (T := TX4) (N := 2) (n := 1) hx hb hts (by decide +kernel) tyX4 tyX4_ok hown (hts (.classLink RX8 7 RX4) (by decide +kernel)) (hts (.instantiable RX4 2) (by decide +kernel)) (hts (.initialized RX4) (by decide +kernel)) hG.1 hW hA rfl (by decide) (by rw [hn0]) rfl (gd8_0 1 (by decide) (by decide)) (fun j hj => by rcases (show j = 0 ∨ j = 1 by omega) with rfl | rfl <;> rfl) (Nat.le_of_ble_eq_true rfl) (Nat.le_of_ble_eq_true rfl) dX8_init_5 (fun q5 H hW => ?_)
  obtain ⟨ads1, hads1⟩ : ∃ z, z = ads0 ++ [q5] := ⟨_, rfl⟩
  rw [← hads1] at hW
  have hn1 : ads1.length = 2 := by rw [hads1, List.length_append, hn0]; (try rw [hlb]); (try rfl)
  have ha_h : ow_ad (gz Z 0 ads1) 0 = h := by rw [hads1]; exact (gz_lt Z 0 ads0 [q5] (by rw [hn0]; decide)).trans ha_h
  have hp1 : ∃ b, ads1 = ads0 ++ b := by obtain ⟨b0, hb0⟩ := hp0; exact ⟨b0 ++ [q5], by rw [hads1, ← List.append_assoc, ← hb0]⟩
  have ha_q5 : ow_ad (gz Z 0 ads1) 1 = q5 := by rw [hads1, show 1 = 0 + ads0.length by rw [hn0]]; exact gz_new Z 0 ads0 q5
  refine lv_dup hx hb dX8_init_8 rfl ?_
  refine g_call (va_runIN (As := []) (rest := [.ref q5, .ref h]) ⟨hx, hb, hml, hown, hts⟩ (k_X4 l Z 0 ads1 ow_0 q5 H.size 1 (by rw [hn1]) (by decide) ha_q5 rfl rfl rfl (gd8_0 2 (by decide) (by decide))) ⟨va_cnB (host := "FiftyOneCards") 0 hts gX8_init_X4_init_n9 rfl rfl rfl (g_nwp hG (.methodLinkNest RX8 9 yX4_init "FiftyOneCards") (by decide +kernel)) (hts (.initialized RX4) (by decide +kernel)) (by decide +kernel) ⟨(Nat.le_of_ble_eq_true rfl), (Nat.le_of_ble_eq_true rfl)⟩, rfl, hts (.instanceMethod yX4_init) (by decide +kernel)⟩ (g_pre hG hW) rfl rfl hl.1 rfl (lv_room (Nat.le_of_ble_eq_true rfl)) dX8_init_9 ⟨(Nat.le_of_ble_eq_true rfl), (Nat.le_of_ble_eq_true rfl)⟩) hW hA (fun b H locs hlb hW => ?_)
  obtain ⟨ads2, hads2⟩ : ∃ z, z = ads1 ++ b := ⟨_, rfl⟩
  rw [← hads2] at hW
  have hn2 : ads2.length = 3 := by rw [hads2, List.length_append, hn1]; (try rw [hlb]); (try rfl)
  have ha_h : ow_ad (gz Z 0 ads2) 0 = h := by rw [hads2]; exact (gz_lt Z 0 ads1 b (by rw [hn1]; decide)).trans ha_h
  have ha_q5 : ow_ad (gz Z 0 ads2) 1 = q5 := by rw [hads2]; exact (gz_lt Z 0 ads1 b (by rw [hn1]; decide)).trans ha_q5
  have hp2 : ∃ b, ads2 = ads0 ++ b := by obtain ⟨b0, hb0⟩ := hp1; exact ⟨b0 ++ b, by rw [hads2, ← List.append_assoc, ← hb0]⟩
  refine g_putR (k := 0) (ci := 8) (C := RX8) (T := TX8) (N := 15) hx hb hts hown hG.1 hW ha_h (by decide) (by rw [hn2]; decide) rfl (by decide) rfl hinX8 tyX8 tyX8_ok nmX8 0 (by decide) rfl (hts (.fieldLink RX8 10 "FiftyOneCards" "row" "LFiftyOneCards$Row;") (by decide +kernel)) (Or.inr ⟨rfl, hin, rfl⟩) 1 (by rw [hn2]; decide) ha_q5 rfl rfl dX8_init_12 (fun H locs hW => ?_)
  have hW : gW Z (gA Z 0 ads0 ow_0 sz) 0 ads2 s8_1 s H locs := hW
  refine W.widen (k := 2) (n := 62) (by omega) (by omega) ?_
  refine lv_aload_n hx hb dX8_init_15 rfl (lv_at hl 0 rfl) ?_
  refine g_new (ci := 4) (C := RX4) (T := TX4) (N := 2) (n := 3) hx hb hts (by decide +kernel) tyX4 tyX4_ok hown (hts (.classLink RX8 7 RX4) (by decide +kernel)) (hts (.instantiable RX4 2) (by decide +kernel)) (hts (.initialized RX4) (by decide +kernel)) hG.1 hW hA rfl (by decide) (by rw [hn2]) rfl (gd8_1 3 (by decide) (by decide)) (fun j hj => by rcases (show j = 0 ∨ j = 1 by omega) with rfl | rfl <;> rfl) (Nat.le_of_ble_eq_true rfl) (Nat.le_of_ble_eq_true rfl) dX8_init_16 (fun q16 H hW => ?_)
  obtain ⟨ads3, hads3⟩ : ∃ z, z = ads2 ++ [q16] := ⟨_, rfl⟩
  rw [← hads3] at hW
  have hn3 : ads3.length = 4 := by rw [hads3, List.length_append, hn2]; (try rw [hlb]); (try rfl)
  have ha_h : ow_ad (gz Z 0 ads3) 0 = h := by rw [hads3]; exact (gz_lt Z 0 ads2 [q16] (by rw [hn2]; decide)).trans ha_h
  have hp3 : ∃ b, ads3 = ads0 ++ b := by obtain ⟨b0, hb0⟩ := hp2; exact ⟨b0 ++ [q16], by rw [hads3, ← List.append_assoc, ← hb0]⟩
  have ha_q16 : ow_ad (gz Z 0 ads3) 3 = q16 := by rw [hads3, show 3 = 0 + ads2.length by rw [hn2]]; exact gz_new Z 0 ads2 q16
  refine lv_dup hx hb dX8_init_19 rfl ?_
  refine g_call (va_runIN (As := []) (rest := [.ref q16, .ref h]) ⟨hx, hb, hml, hown, hts⟩ (k_X4 l Z 0 ads3 s8_1 q16 H.size 3 (by rw [hn3]) (by decide) ha_q16 rfl rfl rfl (gd8_1 4 (by decide) (by decide))) ⟨va_cnB (host := "FiftyOneCards") 0 hts gX8_init_X4_init_n9 rfl rfl rfl (g_nwp hG (.methodLinkNest RX8 9 yX4_init "FiftyOneCards") (by decide +kernel)) (hts (.initialized RX4) (by decide +kernel)) (by decide +kernel) ⟨(Nat.le_of_ble_eq_true rfl), (Nat.le_of_ble_eq_true rfl)⟩, rfl, hts (.instanceMethod yX4_init) (by decide +kernel)⟩ (g_pre hG hW) rfl rfl hl.1 rfl (lv_room (Nat.le_of_ble_eq_true rfl)) dX8_init_20 ⟨(Nat.le_of_ble_eq_true rfl), (Nat.le_of_ble_eq_true rfl)⟩) hW hA (fun b H locs hlb hW => ?_)
  obtain ⟨ads4, hads4⟩ : ∃ z, z = ads3 ++ b := ⟨_, rfl⟩
  rw [← hads4] at hW
  have hn4 : ads4.length = 5 := by rw [hads4, List.length_append, hn3]; (try rw [hlb]); (try rfl)
  have ha_h : ow_ad (gz Z 0 ads4) 0 = h := by rw [hads4]; exact (gz_lt Z 0 ads3 b (by rw [hn3]; decide)).trans ha_h
  have ha_q16 : ow_ad (gz Z 0 ads4) 3 = q16 := by rw [hads4]; exact (gz_lt Z 0 ads3 b (by rw [hn3]; decide)).trans ha_q16
  have hp4 : ∃ b, ads4 = ads0 ++ b := by obtain ⟨b0, hb0⟩ := hp3; exact ⟨b0 ++ b, by rw [hads4, ← List.append_assoc, ← hb0]⟩
  refine g_putR (k := 0) (ci := 8) (C := RX8) (T := TX8) (N := 15) hx hb hts hown hG.1 hW ha_h (by decide) (by rw [hn4]; decide) rfl (by decide) rfl hinX8 tyX8 tyX8_ok nmX8 1 (by decide) rfl (hts (.fieldLink RX8 16 "FiftyOneCards" "trialRow" "LFiftyOneCards$Row;") (by decide +kernel)) (Or.inr ⟨rfl, hin, rfl⟩) 3 (by rw [hn4]; decide) ha_q16 rfl rfl dX8_init_23 (fun H locs hW => ?_)
  have hW : gW Z (gA Z 0 ads0 ow_0 sz) 0 ads4 s8_2 s H locs := hW
  refine W.widen (k := 4) (n := 124) (by omega) (by omega) ?_
  refine lv_aload_n hx hb dX8_init_26 rfl (lv_at hl 0 rfl) ?_
  refine lv_iconst (v := 5) hx hb dX8_init_27 (by decide) ?_
  refine g_newq (ci := 11) (C := RX0) (n := 5) (L := 5) hx hb hown (hts (.classLink RX8 19 RX0) (by decide +kernel)) hG.2.2.2.1 hG.1 hW hA (by rw [hn4]) rfl (by decide) rfl rfl (gd8_2 5 (by decide) (by decide)) (by decide) (by decide) (Nat.le_of_ble_eq_true rfl) (Nat.le_of_ble_eq_true rfl) (Nat.le_of_ble_eq_true rfl) dX8_init_28 (fun q28 H hW => ?_)
  obtain ⟨ads5, hads5⟩ : ∃ z, z = ads4 ++ [q28] := ⟨_, rfl⟩
  rw [← hads5] at hW
  have hn5 : ads5.length = 6 := by rw [hads5, List.length_append, hn4]; (try rw [hlb]); (try rfl)
  have ha_h : ow_ad (gz Z 0 ads5) 0 = h := by rw [hads5]; exact (gz_lt Z 0 ads4 [q28] (by rw [hn4]; decide)).trans ha_h
  have hp5 : ∃ b, ads5 = ads0 ++ b := by obtain ⟨b0, hb0⟩ := hp4; exact ⟨b0 ++ [q28], by rw [hads5, ← List.append_assoc, ← hb0]⟩
  have ha_q28 : ow_ad (gz Z 0 ads5) 5 = q28 := by rw [hads5, show 5 = 0 + ads4.length by rw [hn4]]; exact gz_new Z 0 ads4 q28
  refine g_putR (k := 0) (ci := 8) (C := RX8) (T := TX8) (N := 15) hx hb hts hown hG.1 hW ha_h (by decide) (by rw [hn5]; decide) rfl (by decide) rfl hinX8 tyX8 tyX8_ok nmX8 2 (by decide) rfl (hts (.fieldLink RX8 21 "FiftyOneCards" "heads" "[LFiftyOneCards$Head;") (by decide +kernel)) (Or.inr ⟨rfl, hin, rfl⟩) 5 (by rw [hn5]; decide) ha_q28 rfl rfl dX8_init_31 (fun H locs hW => ?_)
  have hW : gW Z (gA Z 0 ads0 ow_0 sz) 0 ads5 s8_3 s H locs := hW
  refine W.widen (k := 5) (n := 129) (by omega) (by omega) ?_
  refine lv_aload_n hx hb dX8_init_34 rfl (lv_at hl 0 rfl) ?_
  refine g_new (ci := 0) (C := RX0) (T := TX0) (N := 5) (n := 6) hx hb hts (by decide +kernel) tyX0 tyX0_ok hown (hts (.classLink RX8 19 RX0) (by decide +kernel)) (hts (.instantiable RX0 5) (by decide +kernel)) (hts (.initialized RX0) (by decide +kernel)) hG.1 hW hA rfl (by decide) (by rw [hn5]) rfl (gd8_3 6 (by decide) (by decide)) (fun j hj => by rcases (show j = 0 ∨ j = 1 ∨ j = 2 ∨ j = 3 ∨ j = 4 by omega) with rfl | rfl | rfl | rfl | rfl <;> rfl) (Nat.le_of_ble_eq_true rfl) (Nat.le_of_ble_eq_true rfl) dX8_init_35 (fun q35 H hW => ?_)
  obtain ⟨ads6, hads6⟩ : ∃ z, z = ads5 ++ [q35] := ⟨_, rfl⟩
  rw [← hads6] at hW
  have hn6 : ads6.length = 7 := by rw [hads6, List.length_append, hn5]; (try rw [hlb]); (try rfl)
  have ha_h : ow_ad (gz Z 0 ads6) 0 = h := by rw [hads6]; exact (gz_lt Z 0 ads5 [q35] (by rw [hn5]; decide)).trans ha_h
  have hp6 : ∃ b, ads6 = ads0 ++ b := by obtain ⟨b0, hb0⟩ := hp5; exact ⟨b0 ++ [q35], by rw [hads6, ← List.append_assoc, ← hb0]⟩
  have ha_q35 : ow_ad (gz Z 0 ads6) 6 = q35 := by rw [hads6, show 6 = 0 + ads5.length by rw [hn5]]; exact gz_new Z 0 ads5 q35
  refine lv_dup hx hb dX8_init_38 rfl ?_
  refine g_call (va_runIN (As := []) (rest := [.ref q35, .ref h]) ⟨hx, hb, hml, hown, hts⟩ (k_X0 l Z 0 ads6 s8_3 q35 H.size 6 (by rw [hn6]) (by decide) ha_q35 rfl) ⟨va_cnB (host := "FiftyOneCards") 0 hts gX8_init_X0_init_n25 rfl rfl rfl (g_nwp hG (.methodLinkNest RX8 25 yX0_init "FiftyOneCards") (by decide +kernel)) (hts (.initialized RX0) (by decide +kernel)) (by decide +kernel) ⟨(Nat.le_of_ble_eq_true rfl), (Nat.le_of_ble_eq_true rfl)⟩, rfl, hts (.instanceMethod yX0_init) (by decide +kernel)⟩ (g_pre hG hW) rfl rfl hl.1 rfl (lv_room (Nat.le_of_ble_eq_true rfl)) dX8_init_39 ⟨(Nat.le_of_ble_eq_true rfl), (Nat.le_of_ble_eq_true rfl)⟩) hW hA (fun b H locs hlb hW => ?_)
  rw [List.length_eq_zero_iff.mp hlb, List.append_nil] at hW
  refine g_putR (k := 0) (ci := 8) (C := RX8) (T := TX8) (N := 15) hx hb hts hown hG.1 hW ha_h (by decide) (by rw [hn6]; decide) rfl (by decide) rfl hinX8 tyX8 tyX8_ok nmX8 3 (by decide) rfl (hts (.fieldLink RX8 26 "FiftyOneCards" "trial" "LFiftyOneCards$Head;") (by decide +kernel)) (Or.inr ⟨rfl, hin, rfl⟩) 6 (by rw [hn6]; decide) ha_q35 rfl rfl dX8_init_42 (fun H locs hW => ?_)
  have hW : gW Z (gA Z 0 ads0 ow_0 sz) 0 ads6 s8_4 s H locs := hW
  refine W.widen (k := 6) (n := 134) (by omega) (by omega) ?_
  refine lv_aload_n hx hb dX8_init_45 rfl (lv_at hl 0 rfl) ?_
  refine g_new (ci := 3) (C := RX3) (T := TX3) (N := 7) (n := 7) hx hb hts (by decide +kernel) tyX3 tyX3_ok hown (hts (.classLink RX8 30 RX3) (by decide +kernel)) (hts (.instantiable RX3 7) (by decide +kernel)) (hts (.initialized RX3) (by decide +kernel)) hG.1 hW hA rfl (by decide) (by rw [hn6]) rfl (gd8_4 7 (by decide) (by decide)) (fun j hj => by rcases (show j = 0 ∨ j = 1 ∨ j = 2 ∨ j = 3 ∨ j = 4 ∨ j = 5 ∨ j = 6 by omega) with rfl | rfl | rfl | rfl | rfl | rfl | rfl <;> rfl) (Nat.le_of_ble_eq_true rfl) (Nat.le_of_ble_eq_true rfl) dX8_init_46 (fun q46 H hW => ?_)
  obtain ⟨ads7, hads7⟩ : ∃ z, z = ads6 ++ [q46] := ⟨_, rfl⟩
  rw [← hads7] at hW
  have hn7 : ads7.length = 8 := by rw [hads7, List.length_append, hn6]; (try rw [hlb]); (try rfl)
  have ha_h : ow_ad (gz Z 0 ads7) 0 = h := by rw [hads7]; exact (gz_lt Z 0 ads6 [q46] (by rw [hn6]; decide)).trans ha_h
  have hp7 : ∃ b, ads7 = ads0 ++ b := by obtain ⟨b0, hb0⟩ := hp6; exact ⟨b0 ++ [q46], by rw [hads7, ← List.append_assoc, ← hb0]⟩
  have ha_q46 : ow_ad (gz Z 0 ads7) 7 = q46 := by rw [hads7, show 7 = 0 + ads6.length by rw [hn6]]; exact gz_new Z 0 ads6 q46
  refine lv_dup hx hb dX8_init_49 rfl ?_
  refine g_call (va_runIN (As := []) (rest := [.ref q46, .ref h]) ⟨hx, hb, hml, hown, hts⟩ (k_X3 l Z 0 ads7 s8_4 q46 H.size 7 (by rw [hn7]) (by decide) ha_q46 rfl rfl rfl (gd8_4 8 (by decide) (by decide))) ⟨va_cnB (host := "FiftyOneCards") 0 hts gX8_init_X3_init_n32 rfl rfl rfl (g_nwp hG (.methodLinkNest RX8 32 yX3_init "FiftyOneCards") (by decide +kernel)) (hts (.initialized RX3) (by decide +kernel)) (by decide +kernel) ⟨(Nat.le_of_ble_eq_true rfl), (Nat.le_of_ble_eq_true rfl)⟩, rfl, hts (.instanceMethod yX3_init) (by decide +kernel)⟩ (g_pre hG hW) rfl rfl hl.1 rfl (lv_room (Nat.le_of_ble_eq_true rfl)) dX8_init_50 ⟨(Nat.le_of_ble_eq_true rfl), (Nat.le_of_ble_eq_true rfl)⟩) hW hA (fun b H locs hlb hW => ?_)
  obtain ⟨ads8, hads8⟩ : ∃ z, z = ads7 ++ b := ⟨_, rfl⟩
  rw [← hads8] at hW
  have hn8 : ads8.length = 9 := by rw [hads8, List.length_append, hn7]; (try rw [hlb]); (try rfl)
  have ha_h : ow_ad (gz Z 0 ads8) 0 = h := by rw [hads8]; exact (gz_lt Z 0 ads7 b (by rw [hn7]; decide)).trans ha_h
  have ha_q46 : ow_ad (gz Z 0 ads8) 7 = q46 := by rw [hads8]; exact (gz_lt Z 0 ads7 b (by rw [hn7]; decide)).trans ha_q46
  have hp8 : ∃ b, ads8 = ads0 ++ b := by obtain ⟨b0, hb0⟩ := hp7; exact ⟨b0 ++ b, by rw [hads8, ← List.append_assoc, ← hb0]⟩
  refine g_putR (k := 0) (ci := 8) (C := RX8) (T := TX8) (N := 15) hx hb hts hown hG.1 hW ha_h (by decide) (by rw [hn8]; decide) rfl (by decide) rfl hinX8 tyX8 tyX8_ok nmX8 4 (by decide) rfl (hts (.fieldLink RX8 33 "FiftyOneCards" "reader" "LFiftyOneCards$Reader;") (by decide +kernel)) (Or.inr ⟨rfl, hin, rfl⟩) 7 (by rw [hn8]; decide) ha_q46 rfl rfl dX8_init_53 (fun H locs hW => ?_)
  have hW : gW Z (gA Z 0 ads0 ow_0 sz) 0 ads8 s8_5 s H locs := hW
  refine W.widen (k := 8) (n := 301) (by omega) (by omega) ?_
  refine lv_aload_n hx hb dX8_init_56 rfl (lv_at hl 0 rfl) ?_
  refine lv_bipush (v := 6) hx hb dX8_init_57 (by decide) ?_
  refine g_newq (ci := 13) (C := RX6) (n := 9) (L := 6) hx hb hown (hts (.classLink RX8 37 RX6) (by decide +kernel)) hG.2.2.2.2.2 hG.1 hW hA (by rw [hn8]) rfl (by decide) rfl rfl (gd8_5 9 (by decide) (by decide)) (by decide) (by decide) (Nat.le_of_ble_eq_true rfl) (Nat.le_of_ble_eq_true rfl) (Nat.le_of_ble_eq_true rfl) dX8_init_59 (fun q59 H hW => ?_)
  obtain ⟨ads9, hads9⟩ : ∃ z, z = ads8 ++ [q59] := ⟨_, rfl⟩
  rw [← hads9] at hW
  have hn9 : ads9.length = 10 := by rw [hads9, List.length_append, hn8]; (try rw [hlb]); (try rfl)
  have ha_h : ow_ad (gz Z 0 ads9) 0 = h := by rw [hads9]; exact (gz_lt Z 0 ads8 [q59] (by rw [hn8]; decide)).trans ha_h
  have hp9 : ∃ b, ads9 = ads0 ++ b := by obtain ⟨b0, hb0⟩ := hp8; exact ⟨b0 ++ [q59], by rw [hads9, ← List.append_assoc, ← hb0]⟩
  have ha_q59 : ow_ad (gz Z 0 ads9) 9 = q59 := by rw [hads9, show 9 = 0 + ads8.length by rw [hn8]]; exact gz_new Z 0 ads8 q59
  refine g_putR (k := 0) (ci := 8) (C := RX8) (T := TX8) (N := 15) hx hb hts hown hG.1 hW ha_h (by decide) (by rw [hn9]; decide) rfl (by decide) rfl hinX8 tyX8 tyX8_ok nmX8 5 (by decide) rfl (hts (.fieldLink RX8 39 "FiftyOneCards" "texts" "[LFiftyOneCards$Text;") (by decide +kernel)) (Or.inr ⟨rfl, hin, rfl⟩) 9 (by rw [hn9]; decide) ha_q59 rfl rfl dX8_init_62 (fun H locs hW => ?_)
  have hW : gW Z (gA Z 0 ads0 ow_0 sz) 0 ads9 s8_6 s H locs := hW
  refine W.widen (k := 9) (n := 307) (by omega) (by omega) ?_
  refine lv_aload_n hx hb dX8_init_65 rfl (lv_at hl 0 rfl) ?_
  refine g_new (ci := 7) (C := RX7) (T := TX7) (N := 3) (n := 10) hx hb hts (by decide +kernel) tyX7 tyX7_ok hown (hts (.classLink RX8 43 RX7) (by decide +kernel)) (hts (.instantiable RX7 3) (by decide +kernel)) (hts (.initialized RX7) (by decide +kernel)) hG.1 hW hA rfl (by decide) (by rw [hn9]) rfl (gd8_6 10 (by decide) (by decide)) (fun j hj => by rcases (show j = 0 ∨ j = 1 ∨ j = 2 by omega) with rfl | rfl | rfl <;> rfl) (Nat.le_of_ble_eq_true rfl) (Nat.le_of_ble_eq_true rfl) dX8_init_66 (fun q66 H hW => ?_)
  obtain ⟨ads10, hads10⟩ : ∃ z, z = ads9 ++ [q66] := ⟨_, rfl⟩
  rw [← hads10] at hW
  have hn10 : ads10.length = 11 := by rw [hads10, List.length_append, hn9]; (try rw [hlb]); (try rfl)
  have ha_h : ow_ad (gz Z 0 ads10) 0 = h := by rw [hads10]; exact (gz_lt Z 0 ads9 [q66] (by rw [hn9]; decide)).trans ha_h
  have hp10 : ∃ b, ads10 = ads0 ++ b := by obtain ⟨b0, hb0⟩ := hp9; exact ⟨b0 ++ [q66], by rw [hads10, ← List.append_assoc, ← hb0]⟩
  have ha_q66 : ow_ad (gz Z 0 ads10) 10 = q66 := by rw [hads10, show 10 = 0 + ads9.length by rw [hn9]]; exact gz_new Z 0 ads9 q66
  refine lv_dup hx hb dX8_init_69 rfl ?_
  refine g_call (va_runIN (As := []) (rest := [.ref q66, .ref h]) ⟨hx, hb, hml, hown, hts⟩ (k_X7 l Z 0 ads10 s8_6 q66 H.size 10 (by rw [hn10]) (by decide) ha_q66 rfl rfl rfl (gd8_6 11 (by decide) (by decide)) rfl rfl (gd8_6 12 (by decide) (by decide))) ⟨va_cnB (host := "FiftyOneCards") 0 hts gX8_init_X7_init_n45 rfl rfl rfl (g_nwp hG (.methodLinkNest RX8 45 yX7_init "FiftyOneCards") (by decide +kernel)) (hts (.initialized RX7) (by decide +kernel)) (by decide +kernel) ⟨(Nat.le_of_ble_eq_true rfl), (Nat.le_of_ble_eq_true rfl)⟩, rfl, hts (.instanceMethod yX7_init) (by decide +kernel)⟩ (g_pre hG hW) rfl rfl hl.1 rfl (lv_room (Nat.le_of_ble_eq_true rfl)) dX8_init_70 ⟨(Nat.le_of_ble_eq_true rfl), (Nat.le_of_ble_eq_true rfl)⟩) hW hA (fun b H locs hlb hW => ?_)
  obtain ⟨ads11, hads11⟩ : ∃ z, z = ads10 ++ b := ⟨_, rfl⟩
  rw [← hads11] at hW
  have hn11 : ads11.length = 13 := by rw [hads11, List.length_append, hn10]; (try rw [hlb]); (try rfl)
  have ha_h : ow_ad (gz Z 0 ads11) 0 = h := by rw [hads11]; exact (gz_lt Z 0 ads10 b (by rw [hn10]; decide)).trans ha_h
  have ha_q66 : ow_ad (gz Z 0 ads11) 10 = q66 := by rw [hads11]; exact (gz_lt Z 0 ads10 b (by rw [hn10]; decide)).trans ha_q66
  have hp11 : ∃ b, ads11 = ads0 ++ b := by obtain ⟨b0, hb0⟩ := hp10; exact ⟨b0 ++ b, by rw [hads11, ← List.append_assoc, ← hb0]⟩
  refine g_putR (k := 0) (ci := 8) (C := RX8) (T := TX8) (N := 15) hx hb hts hown hG.1 hW ha_h (by decide) (by rw [hn11]; decide) rfl (by decide) rfl hinX8 tyX8 tyX8_ok nmX8 6 (by decide) rfl (hts (.fieldLink RX8 46 "FiftyOneCards" "walk" "LFiftyOneCards$Walk;") (by decide +kernel)) (Or.inr ⟨rfl, hin, rfl⟩) 10 (by rw [hn11]; decide) ha_q66 rfl rfl dX8_init_73 (fun H locs hW => ?_)
  have hW : gW Z (gA Z 0 ads0 ow_0 sz) 0 ads11 s8_7 s H locs := hW
  refine W.widen (k := 12) (n := 476) (by omega) (by omega) ?_
  refine lv_aload_n hx hb dX8_init_76 rfl (lv_at hl 0 rfl) ?_
  refine g_new (ci := 2) (C := RX2) (T := TX2) (N := 1) (n := 13) hx hb hts (by decide +kernel) tyX2 tyX2_ok hown (hts (.classLink RX8 50 RX2) (by decide +kernel)) (hts (.instantiable RX2 1) (by decide +kernel)) (hts (.initialized RX2) (by decide +kernel)) hG.1 hW hA rfl (by decide) (by rw [hn11]) rfl (gd8_7 13 (by decide) (by decide)) (fun j hj => by rcases (show j = 0 by omega) with rfl <;> rfl) (Nat.le_of_ble_eq_true rfl) (Nat.le_of_ble_eq_true rfl) dX8_init_77 (fun q77 H hW => ?_)
  obtain ⟨ads12, hads12⟩ : ∃ z, z = ads11 ++ [q77] := ⟨_, rfl⟩
  rw [← hads12] at hW
  have hn12 : ads12.length = 14 := by rw [hads12, List.length_append, hn11]; (try rw [hlb]); (try rfl)
  have ha_h : ow_ad (gz Z 0 ads12) 0 = h := by rw [hads12]; exact (gz_lt Z 0 ads11 [q77] (by rw [hn11]; decide)).trans ha_h
  have hp12 : ∃ b, ads12 = ads0 ++ b := by obtain ⟨b0, hb0⟩ := hp11; exact ⟨b0 ++ [q77], by rw [hads12, ← List.append_assoc, ← hb0]⟩
  have ha_q77 : ow_ad (gz Z 0 ads12) 13 = q77 := by rw [hads12, show 13 = 0 + ads11.length by rw [hn11]]; exact gz_new Z 0 ads11 q77
  refine lv_dup hx hb dX8_init_80 rfl ?_
  refine g_call (va_runIN (As := []) (rest := [.ref q77, .ref h]) ⟨hx, hb, hml, hown, hts⟩ (k_X2 l Z 0 ads12 s8_7 q77 H.size 13 (by rw [hn12]) (by decide) ha_q77 rfl) ⟨va_cnB (host := "FiftyOneCards") 0 hts gX8_init_X2_init_n52 rfl rfl rfl (g_nwp hG (.methodLinkNest RX8 52 yX2_init "FiftyOneCards") (by decide +kernel)) (hts (.initialized RX2) (by decide +kernel)) (by decide +kernel) ⟨(Nat.le_of_ble_eq_true rfl), (Nat.le_of_ble_eq_true rfl)⟩, rfl, hts (.instanceMethod yX2_init) (by decide +kernel)⟩ (g_pre hG hW) rfl rfl hl.1 rfl (lv_room (Nat.le_of_ble_eq_true rfl)) dX8_init_81 ⟨(Nat.le_of_ble_eq_true rfl), (Nat.le_of_ble_eq_true rfl)⟩) hW hA (fun b H locs hlb hW => ?_)
  rw [List.length_eq_zero_iff.mp hlb, List.append_nil] at hW
  refine g_putR (k := 0) (ci := 8) (C := RX8) (T := TX8) (N := 15) hx hb hts hown hG.1 hW ha_h (by decide) (by rw [hn12]; decide) rfl (by decide) rfl hinX8 tyX8 tyX8_ok nmX8 7 (by decide) rfl (hts (.fieldLink RX8 53 "FiftyOneCards" "lots" "LFiftyOneCards$Lots;") (by decide +kernel)) (Or.inr ⟨rfl, hin, rfl⟩) 13 (by rw [hn12]; decide) ha_q77 rfl rfl dX8_init_84 (fun H locs hW => ?_)
  have hW : gW Z (gA Z 0 ads0 ow_0 sz) 0 ads12 s8_8 s H locs := hW
  refine W.widen (k := 13) (n := 477) (by omega) (by omega) ?_
  refine lv_aload_n hx hb dX8_init_87 rfl (lv_at hl 0 rfl) ?_
  refine lv_sipush (v := 259) hx hb dX8_init_88 (by decide) ?_
  refine g_newa (n := 14) (L := 259) hx hb (hts (.arrayClass .int) (by decide +kernel)) hG.1 hW hA (by rw [hn12]) rfl rfl (gd8_8 14 (by decide) (by decide)) (by decide) (by decide) (Nat.le_of_ble_eq_true rfl) (Nat.le_of_ble_eq_true rfl) (Nat.le_of_ble_eq_true rfl) dX8_init_91 (fun q91 H hW => ?_)
  obtain ⟨ads13, hads13⟩ : ∃ z, z = ads12 ++ [q91] := ⟨_, rfl⟩
  rw [← hads13] at hW
  have hn13 : ads13.length = 15 := by rw [hads13, List.length_append, hn12]; (try rw [hlb]); (try rfl)
  have ha_h : ow_ad (gz Z 0 ads13) 0 = h := by rw [hads13]; exact (gz_lt Z 0 ads12 [q91] (by rw [hn12]; decide)).trans ha_h
  have hp13 : ∃ b, ads13 = ads0 ++ b := by obtain ⟨b0, hb0⟩ := hp12; exact ⟨b0 ++ [q91], by rw [hads13, ← List.append_assoc, ← hb0]⟩
  have ha_q91 : ow_ad (gz Z 0 ads13) 14 = q91 := by rw [hads13, show 14 = 0 + ads12.length by rw [hn12]]; exact gz_new Z 0 ads12 q91
  refine g_putR (k := 0) (ci := 8) (C := RX8) (T := TX8) (N := 15) hx hb hts hown hG.1 hW ha_h (by decide) (by rw [hn13]; decide) rfl (by decide) rfl hinX8 tyX8 tyX8_ok nmX8 8 (by decide) rfl (hts (.fieldLink RX8 57 "FiftyOneCards" "pairs" "[I") (by decide +kernel)) (Or.inr ⟨rfl, hin, rfl⟩) 14 (by rw [hn13]; decide) ha_q91 rfl rfl dX8_init_93 (fun H locs hW => ?_)
  have hW : gW Z (gA Z 0 ads0 ow_0 sz) 0 ads13 s8_9 s H locs := hW
  refine W.widen (k := 14) (n := 736) (by omega) (by omega) ?_
  refine lv_aload_n hx hb dX8_init_96 rfl (lv_at hl 0 rfl) ?_
  refine lv_iconst (v := 4) hx hb dX8_init_97 (by decide) ?_
  refine g_newq (ci := 12) (C := RX5) (n := 15) (L := 4) hx hb hown (hts (.classLink RX8 61 RX5) (by decide +kernel)) hG.2.2.2.2.1 hG.1 hW hA (by rw [hn13]) rfl (by decide) rfl rfl (gd8_9 15 (by decide) (by decide)) (by decide) (by decide) (Nat.le_of_ble_eq_true rfl) (Nat.le_of_ble_eq_true rfl) (Nat.le_of_ble_eq_true rfl) dX8_init_98 (fun q98 H hW => ?_)
  obtain ⟨ads14, hads14⟩ : ∃ z, z = ads13 ++ [q98] := ⟨_, rfl⟩
  rw [← hads14] at hW
  have hn14 : ads14.length = 16 := by rw [hads14, List.length_append, hn13]; (try rw [hlb]); (try rfl)
  have ha_h : ow_ad (gz Z 0 ads14) 0 = h := by rw [hads14]; exact (gz_lt Z 0 ads13 [q98] (by rw [hn13]; decide)).trans ha_h
  have hp14 : ∃ b, ads14 = ads0 ++ b := by obtain ⟨b0, hb0⟩ := hp13; exact ⟨b0 ++ [q98], by rw [hads14, ← List.append_assoc, ← hb0]⟩
  have ha_q98 : ow_ad (gz Z 0 ads14) 15 = q98 := by rw [hads14, show 15 = 0 + ads13.length by rw [hn13]]; exact gz_new Z 0 ads13 q98
  refine g_putR (k := 0) (ci := 8) (C := RX8) (T := TX8) (N := 15) hx hb hts hown hG.1 hW ha_h (by decide) (by rw [hn14]; decide) rfl (by decide) rfl hinX8 tyX8 tyX8_ok nmX8 9 (by decide) rfl (hts (.fieldLink RX8 63 "FiftyOneCards" "sheets" "[LFiftyOneCards$Sheet;") (by decide +kernel)) (Or.inr ⟨rfl, hin, rfl⟩) 15 (by rw [hn14]; decide) ha_q98 rfl rfl dX8_init_101 (fun H locs hW => ?_)
  have hW : gW Z (gA Z 0 ads0 ow_0 sz) 0 ads14 s8_10 s H locs := hW
  refine W.widen (k := 15) (n := 740) (by omega) (by omega) ?_
  refine lv_aload_n hx hb dX8_init_104 rfl (lv_at hl 0 rfl) ?_
  refine g_new (ci := 1) (C := RX1) (T := TX1) (N := 6) (n := 16) hx hb hts (by decide +kernel) tyX1 tyX1_ok hown (hts (.classLink RX8 67 RX1) (by decide +kernel)) (hts (.instantiable RX1 6) (by decide +kernel)) (hts (.initialized RX1) (by decide +kernel)) hG.1 hW hA rfl (by decide) (by rw [hn14]) rfl (gd8_10 16 (by decide) (by decide)) (fun j hj => by rcases (show j = 0 ∨ j = 1 ∨ j = 2 ∨ j = 3 ∨ j = 4 ∨ j = 5 by omega) with rfl | rfl | rfl | rfl | rfl | rfl <;> rfl) (Nat.le_of_ble_eq_true rfl) (Nat.le_of_ble_eq_true rfl) dX8_init_105 (fun q105 H hW => ?_)
  obtain ⟨ads15, hads15⟩ : ∃ z, z = ads14 ++ [q105] := ⟨_, rfl⟩
  rw [← hads15] at hW
  have hn15 : ads15.length = 17 := by rw [hads15, List.length_append, hn14]; (try rw [hlb]); (try rfl)
  have ha_h : ow_ad (gz Z 0 ads15) 0 = h := by rw [hads15]; exact (gz_lt Z 0 ads14 [q105] (by rw [hn14]; decide)).trans ha_h
  have hp15 : ∃ b, ads15 = ads0 ++ b := by obtain ⟨b0, hb0⟩ := hp14; exact ⟨b0 ++ [q105], by rw [hads15, ← List.append_assoc, ← hb0]⟩
  have ha_q105 : ow_ad (gz Z 0 ads15) 16 = q105 := by rw [hads15, show 16 = 0 + ads14.length by rw [hn14]]; exact gz_new Z 0 ads14 q105
  refine lv_dup hx hb dX8_init_108 rfl ?_
  refine g_call (va_runIN (As := []) (rest := [.ref q105, .ref h]) ⟨hx, hb, hml, hown, hts⟩ (k_X1 l Z ads15 s8_10 q105 H.size hn15 ha_q105 (fun c h1 h2 => gd8_10 c (by omega) h2)) ⟨va_cnB (host := "FiftyOneCards") 0 hts gX8_init_X1_init_n69 rfl rfl rfl (g_nwp hG (.methodLinkNest RX8 69 yX1_init "FiftyOneCards") (by decide +kernel)) (hts (.initialized RX1) (by decide +kernel)) (by decide +kernel) ⟨(Nat.le_of_ble_eq_true rfl), (Nat.le_of_ble_eq_true rfl)⟩, rfl, hts (.instanceMethod yX1_init) (by decide +kernel)⟩ (g_pre hG hW) rfl rfl hl.1 rfl (lv_room (Nat.le_of_ble_eq_true rfl)) dX8_init_109 ⟨(Nat.le_of_ble_eq_true rfl), (Nat.le_of_ble_eq_true rfl)⟩) hW hA (fun b H locs hlb hW => ?_)
  obtain ⟨ads16, hads16⟩ : ∃ z, z = ads15 ++ b := ⟨_, rfl⟩
  rw [← hads16] at hW
  have hn16 : ads16.length = 25 := by rw [hads16, List.length_append, hn15]; (try rw [hlb]); (try rfl)
  have ha_h : ow_ad (gz Z 0 ads16) 0 = h := by rw [hads16]; exact (gz_lt Z 0 ads15 b (by rw [hn15]; decide)).trans ha_h
  have ha_q105 : ow_ad (gz Z 0 ads16) 16 = q105 := by rw [hads16]; exact (gz_lt Z 0 ads15 b (by rw [hn15]; decide)).trans ha_q105
  have hp16 : ∃ b, ads16 = ads0 ++ b := by obtain ⟨b0, hb0⟩ := hp15; exact ⟨b0 ++ b, by rw [hads16, ← List.append_assoc, ← hb0]⟩
  refine g_putR (k := 0) (ci := 8) (C := RX8) (T := TX8) (N := 15) hx hb hts hown hG.1 hW ha_h (by decide) (by rw [hn16]; decide) rfl (by decide) rfl hinX8 tyX8 tyX8_ok nmX8 10 (by decide) rfl (hts (.fieldLink RX8 70 "FiftyOneCards" "kept" "LFiftyOneCards$Image;") (by decide +kernel)) (Or.inr ⟨rfl, hin, rfl⟩) 16 (by rw [hn16]; decide) ha_q105 rfl rfl dX8_init_112 (fun H locs hW => ?_)
  have hW : gW Z (gA Z 0 ads0 ow_0 sz) 0 ads16 s8_11 s H locs := hW
  refine W.widen (k := 24) (n := 838) (by omega) (by omega) ?_
  refine lv_aload_n hx hb dX8_init_115 rfl (lv_at hl 0 rfl) ?_
  refine lv_bipush (v := 10) hx hb dX8_init_116 (by decide) ?_
  refine g_putI (k := 0) (ci := 8) (C := RX8) (T := TX8) (N := 15) hx hb hts hown hG.1 hW ha_h (by decide) (by rw [hn16]; decide) rfl (by decide) rfl hinX8 tyX8 tyX8_ok nmX8 11 (by decide) rfl (hts (.fieldLink RX8 74 "FiftyOneCards" "pack" "I") (by decide +kernel)) rfl rfl rfl dX8_init_118 (fun H locs hW => ?_)
  have hW : gW Z (gA Z 0 ads0 ow_0 sz) 0 ads16 s8_12 s H locs := hW
  refine lv_aload_n hx hb dX8_init_121 rfl (lv_at hl 0 rfl) ?_
  refine lv_iconst (v := 0) hx hb dX8_init_122 (by decide) ?_
  refine g_putI (k := 0) (ci := 8) (C := RX8) (T := TX8) (N := 15) hx hb hts hown hG.1 hW ha_h (by decide) (by rw [hn16]; decide) rfl (by decide) rfl hinX8 tyX8 tyX8_ok nmX8 12 (by decide) rfl (hts (.fieldLink RX8 78 "FiftyOneCards" "headCount" "I") (by decide +kernel)) rfl rfl rfl dX8_init_123 (fun H locs hW => ?_)
  have hW : gW Z (gA Z 0 ads0 ow_0 sz) 0 ads16 s8_13 s H locs := hW
  refine lv_aload_n hx hb dX8_init_126 rfl (lv_at hl 0 rfl) ?_
  refine lv_iconst (v := 0) hx hb dX8_init_127 (by decide) ?_
  refine g_putI (k := 0) (ci := 8) (C := RX8) (T := TX8) (N := 15) hx hb hts hown hG.1 hW ha_h (by decide) (by rw [hn16]; decide) rfl (by decide) rfl hinX8 tyX8 tyX8_ok nmX8 13 (by decide) rfl (hts (.fieldLink RX8 81 "FiftyOneCards" "textCount" "I") (by decide +kernel)) rfl rfl rfl dX8_init_128 (fun H locs hW => ?_)
  have hW : gW Z (gA Z 0 ads0 ow_0 sz) 0 ads16 s8_14 s H locs := hW
  refine lv_aload_n hx hb dX8_init_131 rfl (lv_at hl 0 rfl) ?_
  refine lv_iconst (v := 0) hx hb dX8_init_132 (by decide) ?_
  refine g_putI (k := 0) (ci := 8) (C := RX8) (T := TX8) (N := 15) hx hb hts hown hG.1 hW ha_h (by decide) (by rw [hn16]; decide) rfl (by decide) rfl hinX8 tyX8 tyX8_ok nmX8 14 (by decide) rfl (hts (.fieldLink RX8 84 "FiftyOneCards" "law" "I") (by decide +kernel)) rfl rfl rfl dX8_init_133 (fun H locs hW => ?_)
  have hW : gW Z (gA Z 0 ads0 ow_0 sz) 0 ads16 s8_15 s H locs := hW
  refine lv_iconst (v := 0) hx hb dX8_init_136 (by decide) ?_
  refine lv_istore_n (lv' := [(1, .int (nI 0)), (0, .ref h)]) hx hb dX8_init_137 rfl hl (by decide) rfl (fun ls hl => ?_)
  refine hJ138 5 0 ads16 s8_15 _ _ _ _ _ (by omega) (by rw [hn16]) (by decide) (by decide) (fun c h1 h2 => gd8_15 c (by omega) h2) (by decide +kernel) ha_h hW (lv_sub hl [1, 0] rfl) (fun b H locs ls hlb hW hl => ?_)
  obtain ⟨ads17, hads17⟩ : ∃ z, z = ads16 ++ b := ⟨_, rfl⟩
  rw [← hads17] at hW
  have hn17 : ads17.length = 30 := by rw [hads17, List.length_append, hn16]; (try rw [hlb]); (try rfl)
  have ha_h : ow_ad (gz Z 0 ads17) 0 = h := by rw [hads17]; exact (gz_lt Z 0 ads16 b (by rw [hn16]; decide)).trans ha_h
  have hp17 : ∃ b, ads17 = ads0 ++ b := by obtain ⟨b0, hb0⟩ := hp16; exact ⟨b0 ++ b, by rw [hads17, ← List.append_assoc, ← hb0]⟩
  have hW : gW Z (gA Z 0 ads0 ow_0 sz) 0 ads17 s8_16 s H locs := hW
  refine lv_iconst (v := 0) hx hb dX8_init_162 (by decide) ?_
  refine lv_istore_n (lv' := [(1, .int (nI 0)), (0, .ref h)]) hx hb dX8_init_163 rfl hl (by decide) rfl (fun ls hl => ?_)
  refine hJ164 6 0 ads17 s8_16 _ _ _ _ _ (by omega) (by rw [hn17]) (by decide) (by decide) (fun c h1 h2 => gd8_16 c (by omega) h2) (by decide +kernel) ha_h hW (lv_sub hl [1, 0] rfl) (fun b H locs ls hlb hW hl => ?_)
  obtain ⟨ads18, hads18⟩ : ∃ z, z = ads17 ++ b := ⟨_, rfl⟩
  rw [← hads18] at hW
  have hn18 : ads18.length = 48 := by rw [hads18, List.length_append, hn17]; (try rw [hlb]); (try rfl)
  have ha_h : ow_ad (gz Z 0 ads18) 0 = h := by rw [hads18]; exact (gz_lt Z 0 ads17 b (by rw [hn17]; decide)).trans ha_h
  have hp18 : ∃ b, ads18 = ads0 ++ b := by obtain ⟨b0, hb0⟩ := hp17; exact ⟨b0 ++ b, by rw [hads18, ← List.append_assoc, ← hb0]⟩
  have hW : gW Z (gA Z 0 ads0 ow_0 sz) 0 ads18 s8_17 s H locs := hW
  refine lv_iconst (v := 0) hx hb dX8_init_189 (by decide) ?_
  refine lv_istore_n (lv' := [(1, .int (nI 0)), (0, .ref h)]) hx hb dX8_init_190 rfl hl (by decide) rfl (fun ls hl => ?_)
  refine hJ191 4 0 ads18 s8_17 _ _ _ _ _ (by omega) (by rw [hn18]) (by decide) (by decide) (fun c h1 h2 => gd8_17 c (by omega) h2) (by decide +kernel) ha_h hW (lv_sub hl [1, 0] rfl) (fun b H locs ls hlb hW hl => ?_)
  obtain ⟨ads19, hads19⟩ : ∃ z, z = ads18 ++ b := ⟨_, rfl⟩
  rw [← hads19] at hW
  have hn19 : ads19.length = 56 := by rw [hads19, List.length_append, hn18]; (try rw [hlb]); (try rfl)
  have ha_h : ow_ad (gz Z 0 ads19) 0 = h := by rw [hads19]; exact (gz_lt Z 0 ads18 b (by rw [hn18]; decide)).trans ha_h
  have hp19 : ∃ b, ads19 = ads0 ++ b := by obtain ⟨b0, hb0⟩ := hp18; exact ⟨b0 ++ b, by rw [hads19, ← List.append_assoc, ← hb0]⟩
  have hW : gW Z (gA Z 0 ads0 ow_0 sz) 0 ads19 s8_18 s H locs := hW
  have hO : oW (gz Z 0 ads19) (gA Z 0 ads0 ow_0 sz) 0 56 i_X8 s H locs := gW_oW hW hn19 ok8
  have hl : lv_has ls 2 [(0, .ref (ow_ad (gz Z 0 ads19) 0)), (1, .int (nI 4))] := by rw [ha_h]; exact hl
  refine lv_iconst (v := 0) hx hb dX8_init_215 (by decide) ?_
  refine lv_istore_n (lv' := [(1, .int (0 : Int32)), (0, .ref (ow_ad (gz Z 0 ads19) 0))]) hx hb dX8_init_216 rfl hl (by decide) rfl (fun ls hl => ?_)
  exact hT ads19 hn19 hp19 fu 0 i_X8 _ _ _ hf hO (lv_sub hl [1, 0] rfl)

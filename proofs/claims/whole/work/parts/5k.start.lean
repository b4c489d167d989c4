/-! the law's loop, and its start -/
section LWL
variable {p : Program} {e : Env} {s : State} {m : MethodId} {below : List Frame} {meth : Method} {c : Code} {H : Heap} {locs : List Loc} {Q : State → Prop} {ls : Array Slot} {rest : List Value} {b L I : Nat} {xs : Nat → Int32} {Z : ow_Z} {X M : ow_S}
theorem lw_disp (l : Launch) (C : lw_C p s m c b L xs Z) (hI : I + 7 ≤ L) (hl : lv_has ls 4 (lw_lv Z b I)) (hW : lw_W Z X M s H locs) (kk : ∀ (X M : ow_S) (H : Heap) (locs : List Loc), lw_W Z X M s H locs → W p l e room_1 s m #[Value.ref b] below meth c H locs 76 4667 Q (F0 m 1656 ls [])) : W p l e room_1 s m #[Value.ref b] below meth c H locs 76 4667 Q (F0 m 33 ls [.int (xs I &&& 63)]) := by
  obtain ⟨k, hk, e⟩ := pk_andE (xs I) (m := 63) 6 (by decide)
  rw [e]
  have hk : k < 64 := hk
  have hx := C.1
  have hb := C.2.1
  rcases Nat.lt_or_ge k 42 with h | h
  · have hk : k = 0 ∨ k = 1 ∨ k = 2 ∨ k = 3 ∨ k = 4 ∨ k = 5 ∨ k = 6 ∨ k = 7 ∨ k = 8 ∨ k = 9 ∨ k = 10 ∨ k = 11 ∨ k = 12 ∨ k = 13 ∨ k = 14 ∨ k = 15 ∨ k = 16 ∨ k = 17 ∨ k = 18 ∨ k = 19 ∨ k = 20 ∨ k = 21 ∨ k = 22 ∨ k = 23 ∨ k = 24 ∨ k = 25 ∨ k = 26 ∨ k = 27 ∨ k = 28 ∨ k = 29 ∨ k = 30 ∨ k = 31 ∨ k = 32 ∨ k = 33 ∨ k = 34 ∨ k = 35 ∨ k = 36 ∨ k = 37 ∨ k = 38 ∨ k = 39 ∨ k = 40 ∨ k = 41 := by omega
    rcases hk with rfl | rfl | rfl | rfl | rfl | rfl | rfl | rfl | rfl | rfl | rfl | rfl | rfl | rfl | rfl | rfl | rfl | rfl | rfl | rfl | rfl | rfl | rfl | rfl | rfl | rfl | rfl | rfl | rfl | rfl | rfl | rfl | rfl | rfl | rfl | rfl | rfl | rfl | rfl | rfl | rfl | rfl
    · exact lv_tableIn (off := 183) (tgt := 216) hx hb dL_law_33 (by decide) (by decide) (by decide +kernel) (by decide) (lw_c0 l C hI hl hW kk)
    · exact lv_tableIn (off := 206) (tgt := 239) hx hb dL_law_33 (by decide) (by decide) (by decide +kernel) (by decide) (lw_c1 l C hI hl hW kk)
    · exact lv_tableIn (off := 229) (tgt := 262) hx hb dL_law_33 (by decide) (by decide) (by decide +kernel) (by decide) (lw_c2 l C hI hl hW kk)
    · exact lv_tableIn (off := 252) (tgt := 285) hx hb dL_law_33 (by decide) (by decide) (by decide +kernel) (by decide) (lw_c3 l C hI hl hW kk)
    · exact lv_tableIn (off := 285) (tgt := 318) hx hb dL_law_33 (by decide) (by decide) (by decide +kernel) (by decide) (lw_c4 l C hI hl hW kk)
    · exact lv_tableIn (off := 308) (tgt := 341) hx hb dL_law_33 (by decide) (by decide) (by decide +kernel) (by decide) (lw_c5 l C hI hl hW kk)
    · exact lv_tableIn (off := 331) (tgt := 364) hx hb dL_law_33 (by decide) (by decide) (by decide +kernel) (by decide) (lw_c6 l C hI hl hW kk)
    · exact lv_tableIn (off := 354) (tgt := 387) hx hb dL_law_33 (by decide) (by decide) (by decide +kernel) (by decide) (lw_c7 l C hI hl hW kk)
    · exact lv_tableIn (off := 377) (tgt := 410) hx hb dL_law_33 (by decide) (by decide) (by decide +kernel) (by decide) (lw_c8 l C hI hl hW kk)
    · exact lv_tableIn (off := 400) (tgt := 433) hx hb dL_law_33 (by decide) (by decide) (by decide +kernel) (by decide) (lw_c9 l C hI hl hW kk)
    · exact lv_tableIn (off := 475) (tgt := 508) hx hb dL_law_33 (by decide) (by decide) (by decide +kernel) (by decide) (lw_c10 l C hI hl hW kk)
    · exact lv_tableIn (off := 488) (tgt := 521) hx hb dL_law_33 (by decide) (by decide) (by decide +kernel) (by decide) (lw_c11 l C hI hl hW kk)
    · exact lv_tableIn (off := 511) (tgt := 544) hx hb dL_law_33 (by decide) (by decide) (by decide +kernel) (by decide) (lw_c12 l C hI hl hW kk)
    · exact lv_tableIn (off := 564) (tgt := 597) hx hb dL_law_33 (by decide) (by decide) (by decide +kernel) (by decide) (lw_c13 l C hI hl hW kk)
    · exact lv_tableIn (off := 607) (tgt := 640) hx hb dL_law_33 (by decide) (by decide) (by decide +kernel) (by decide) (lw_c14 l C hI hl hW kk)
    · exact lv_tableIn (off := 650) (tgt := 683) hx hb dL_law_33 (by decide) (by decide) (by decide +kernel) (by decide) (lw_c15 l C hI hl hW kk)
    · exact lv_tableIn (off := 683) (tgt := 716) hx hb dL_law_33 (by decide) (by decide) (by decide +kernel) (by decide) (lw_c16 l C hI hl hW kk)
    · exact lv_tableIn (off := 706) (tgt := 739) hx hb dL_law_33 (by decide) (by decide) (by decide +kernel) (by decide) (lw_c17 l C hI hl hW kk)
    · exact lv_tableIn (off := 749) (tgt := 782) hx hb dL_law_33 (by decide) (by decide) (by decide +kernel) (by decide) (lw_c18 l C hI hl hW kk)
    · exact lv_tableIn (off := 783) (tgt := 816) hx hb dL_law_33 (by decide) (by decide) (by decide +kernel) (by decide) (lw_c19 l C hI hl hW kk)
    · exact lv_tableIn (off := 806) (tgt := 839) hx hb dL_law_33 (by decide) (by decide) (by decide +kernel) (by decide) (lw_c20 l C hI hl hW kk)
    · exact lv_tableIn (off := 839) (tgt := 872) hx hb dL_law_33 (by decide) (by decide) (by decide +kernel) (by decide) (lw_c21 l C hI hl hW kk)
    · exact lv_tableIn (off := 872) (tgt := 905) hx hb dL_law_33 (by decide) (by decide) (by decide +kernel) (by decide) (lw_c22 l C hI hl hW kk)
    · exact lv_tableIn (off := 905) (tgt := 938) hx hb dL_law_33 (by decide) (by decide) (by decide +kernel) (by decide) (lw_c23 l C hI hl hW kk)
    · exact lv_tableIn (off := 948) (tgt := 981) hx hb dL_law_33 (by decide) (by decide) (by decide +kernel) (by decide) (lw_c24 l C hI hl hW kk)
    · exact lv_tableIn (off := 981) (tgt := 1014) hx hb dL_law_33 (by decide) (by decide) (by decide +kernel) (by decide) (lw_c25 l C hI hl hW kk)
    · exact lv_tableIn (off := 1024) (tgt := 1057) hx hb dL_law_33 (by decide) (by decide) (by decide +kernel) (by decide) (lw_c26 l C hI hl hW kk)
    · exact lv_tableIn (off := 1047) (tgt := 1080) hx hb dL_law_33 (by decide) (by decide) (by decide +kernel) (by decide) (lw_c27 l C hI hl hW kk)
    · exact lv_tableIn (off := 1080) (tgt := 1113) hx hb dL_law_33 (by decide) (by decide) (by decide +kernel) (by decide) (lw_c28 l C hI hl hW kk)
    · exact lv_tableIn (off := 1123) (tgt := 1156) hx hb dL_law_33 (by decide) (by decide) (by decide +kernel) (by decide) (lw_c29 l C hI hl hW kk)
    · exact lv_tableIn (off := 1166) (tgt := 1199) hx hb dL_law_33 (by decide) (by decide) (by decide +kernel) (by decide) (lw_c30 l C hI hl hW kk)
    · exact lv_tableIn (off := 1199) (tgt := 1232) hx hb dL_law_33 (by decide) (by decide) (by decide +kernel) (by decide) (lw_c31 l C hI hl hW kk)
    · exact lv_tableIn (off := 1222) (tgt := 1255) hx hb dL_law_33 (by decide) (by decide) (by decide +kernel) (by decide) (lw_c32 l C hI hl hW kk)
    · exact lv_tableIn (off := 1265) (tgt := 1298) hx hb dL_law_33 (by decide) (by decide) (by decide +kernel) (by decide) (lw_c33 l C hI hl hW kk)
    · exact lv_tableIn (off := 1308) (tgt := 1341) hx hb dL_law_33 (by decide) (by decide) (by decide +kernel) (by decide) (lw_c34 l C hI hl hW kk)
    · exact lv_tableIn (off := 1362) (tgt := 1395) hx hb dL_law_33 (by decide) (by decide) (by decide +kernel) (by decide) (lw_c35 l C hI hl hW kk)
    · exact lv_tableIn (off := 1375) (tgt := 1408) hx hb dL_law_33 (by decide) (by decide) (by decide +kernel) (by decide) (lw_c36 l C hI hl hW kk)
    · exact lv_tableIn (off := 1388) (tgt := 1421) hx hb dL_law_33 (by decide) (by decide) (by decide +kernel) (by decide) (lw_c37 l C hI hl hW kk)
    · exact lv_tableIn (off := 1431) (tgt := 1464) hx hb dL_law_33 (by decide) (by decide) (by decide +kernel) (by decide) (lw_c38 l C hI hl hW kk)
    · exact lv_tableIn (off := 1474) (tgt := 1507) hx hb dL_law_33 (by decide) (by decide) (by decide +kernel) (by decide) (lw_c39 l C hI hl hW kk)
    · exact lv_tableIn (off := 1537) (tgt := 1570) hx hb dL_law_33 (by decide) (by decide) (by decide +kernel) (by decide) (lw_c40 l C hI hl hW kk)
    · exact lv_tableIn (off := 1590) (tgt := 1623) hx hb dL_law_33 (by decide) (by decide) (by decide +kernel) (by decide) (lw_c41 l C hI hl hW kk)
  · exact lv_tableOut (tgt := 1656) hx hb dL_law_33 (Or.inr (by rw [nI_toInt (by omega)]; omega)) (by decide) (kk X M H locs hW)
theorem lw_bd (hI : I ≤ 3584) (hL : L ≤ 3584) (h : ¬ Int32.ofNat L - 7 < nI I) : I + 7 ≤ L := by
  by_cases h7 : 7 ≤ L
  · rw [show (7 : Int32) = nI 7 from rfl, show Int32.ofNat L = nI L from rfl, n_sub h7, n_lt (by omega) (by omega)] at h
    omega
  · exfalso
    have a : (nI L - 7).toInt < 0 := (by decide +kernel : ∀ L, L < 7 → (nI L - 7).toInt < 0) L (by omega)
    exact h (Int32.lt_iff_toInt_lt.mpr (by rw [nI_toInt (show I < 2 ^ 31 by omega)]; exact Int.lt_of_lt_of_le a (Int.natCast_nonneg I)))
theorem lw_step (l : Launch) (C : lw_C p s m c b L xs Z) (hr : meth.sig.returnType = ret) (hlocks : meth.locks = false) (hI : I ≤ 3584) (hl : lv_has ls 4 (lw_lv Z b I)) (hW : lw_W Z X M s H locs) (next : I + 7 ≤ L → ∀ (ls : Array Slot) (X M : ow_S) (H : Heap) (locs : List Loc), lv_has ls 4 (lw_lv Z b (I + 7)) → lw_W Z X M s H locs → W p l e room_1 s m #[Value.ref b] below meth c H locs 76 4667 (lw_Z below #[Value.ref b] s) (F0 m 18 ls [])) : W p l e room_1 s m #[Value.ref b] below meth c H locs 76 4667 (lw_Z below #[Value.ref b] s) (F0 m 18 ls []) := by
  have C' := C
  obtain ⟨hx, hb, hml, hown, hts, hX, hbl, hG, hd, hL⟩ := C'
  have hS := hW.1.2.2.1
  refine lv_iload_n hx hb dL_law_18 rfl (lv_at hl 0 rfl) ?_
  refine lv_aload_n hx hb dL_law_19 rfl (lv_at hl 3 rfl) ?_
  refine va_slen hx hb hX hbl (fun h => by omega) hS dL_law_20 ?_
  refine lv_bipush (v := 7) hx hb dL_law_21 (by decide) ?_
  refine lv_isub hx hb dL_law_23 ?_
  refine lv_icmp_gt (tgt := 1662) hx hb dL_law_24 (by decide) (fun _ => ?_) (fun c => ?_)
  · refine va_forget (fun q h => hS.2.2 q h) ?_
    refine W.widen (k := 600000) (n := 7302250) (by decide) (by decide) ?_
    refine lv_iconst (v := 1) hx hb dL_law_1662 (by decide) ?_
    exact lw_ret hx hb hr hlocks dL_law_1663
  have hI7 := lw_bd hI hL c
  refine lv_aload_n hx hb dL_law_27 rfl (lv_at hl 3 rfl) ?_
  refine lv_iload_n hx hb dL_law_28 rfl (lv_at hl 0 rfl) ?_
  refine va_sld hx hb hX hbl (fun h => by omega) hS (vp_in_nI (by omega) (by omega)) dL_law_29 ?_
  rw [n_cl (by omega)]
  refine lv_bipush (v := 63) hx hb dL_law_30 (by decide) ?_
  refine lv_iand hx hb dL_law_32 ?_
  refine lw_disp l C hI7 hl hW (fun X M H locs hW => ?_)
  refine lv_iinc (v := nI (I + 7)) (lv' := lw_lv Z b (I + 7)) hx hb dL_law_1656 hl (k := 0) rfl (by rw [show Int32.ofInt 7 = nI 7 by decide, n_add]) (by decide) rfl (fun ls hl => ?_)
  refine lv_goto (tgt := 18) hx hb dL_law_1659 (by decide) ?_
  exact next hI7 ls X M H locs hl hW
theorem lw_loop (l : Launch) (C : lw_C p s m c b L xs Z) (hr : meth.sig.returnType = ret) (hlocks : meth.locks = false) : ∀ (q I : Nat) (ls : Array Slot) (X M : ow_S) (H : Heap) (locs : List Loc), I ≤ 3584 → L ≤ I + q → lv_has ls 4 (lw_lv Z b I) → lw_W Z X M s H locs → W p l e room_1 s m #[Value.ref b] below meth c H locs 76 4667 (lw_Z below #[Value.ref b] s) (F0 m 18 ls []) := by
  have hL : L ≤ 3584 := C.2.2.2.2.2.2.2.2.2
  intro q
  induction q with
  | zero => intro I ls X M H locs hI hq hl hW; exact lw_step l C hr hlocks hI hl hW (fun h => by omega)
  | succ q ih => intro I ls X M H locs hI hq hl hW; exact lw_step l C hr hlocks hI hl hW (fun h ls X M H locs hl hW => ih (I + 7) ls X M H locs (by omega) (by omega) hl hW)
end LWL
theorem whole_start {p : Program} {e : Env} {s : State} {m : MethodId} {below : List Frame} {meth : Method} {c : Code} (l : Launch) (hflags : l.flags = flags0) {b L : Nat} {xs : Nat → Int32} (hL : L ≤ 3584) (C0 : lw_At p s m meth c b L xs) : W p l e room_1 s m #[Value.ref b] below meth c s.heap [] 0 0 (lw_Z below #[Value.ref b] s) (entryFrame m ([Value.ref b] : List Value).toArray 4) := by
  obtain ⟨hx, hb, hr, hml, hown, hts, hX, hbl, hlocks, hgv⟩ := C0
  obtain ⟨Z, hG, hGs⟩ := gl_all hts hgv
  obtain ⟨X1, r, M1, f8, f9, hR, hrX⟩ := s_ini 1000 (Nat.le_refl _)
  have hl := lv_entry ([.ref b]) (n := 4) (Nat.le_of_ble_eq_true rfl)
  refine W.eq (g2 := F0 m 0 ((lg_sl ([.ref b]) ++ List.replicate (4 - (lg_sl ([.ref b])).length) Slot.unset).toArray) []) (lg_entry_eq _ _ _) ?_
  generalize (lg_sl ([.ref b]) ++ List.replicate (4 - (lg_sl ([.ref b])).length) Slot.unset).toArray = ls at hl ⊢
  have hl : lv_has ls 4 [(0, .ref b)] := hl
  refine lw_mk8 l hx hb hml hts hown hG hGs f8 ⟨Nat.le_refl _, fun _ _ _ => rfl, fun _ h => absurd h List.not_mem_nil⟩ hl.1 (fun q1 ads H2 locs2 hn hA1 hS2 h8 ha1 => ?_)
  refine lv_astore_n (lv' := [(1, .ref q1), (0, .ref b)]) hx hb dL_law_7 rfl hl (by decide) rfl (fun ls hl => ?_)
  refine va_forget (fun x h => h8.2.2.1.2.2 x h) ?_
  have hS3 : va_S (fun q => s.heap.size ≤ q) s.heap H2 [] := ⟨h8.2.2.1.1, h8.2.2.1.2.1, fun _ h => absurd h List.not_mem_nil⟩
  refine lw_mk9 (Z := gz Z 0 ads) l hx hb hml hts hown hG hGs f9 hS3 hl.1 (fun q2 ads2 H3 locs3 hn2 hA2 hS4 h9 ha2 => ?_)
  refine lv_astore_n (lv' := [(2, .ref q2), (1, .ref q1), (0, .ref b)]) hx hb dL_law_15 rfl hl (by decide) rfl (fun ls hl => ?_)
  refine lv_iconst (v := nI 0) hx hb dL_law_16 (by decide) ?_
  refine lv_istore_n (lv' := [(3, .int (nI 0)), (2, .ref q2), (1, .ref q1), (0, .ref b)]) hx hb dL_law_17 rfl hl (by decide) rfl (fun ls hl => ?_)
  have hg : gr 56 X1 := by
    intro k j t hk h
    by_cases hkj : k = 7 ∧ j = 6
    · obtain ⟨rfl, rfl⟩ := hkj
      exact (h8.2.2.2.1.2 7 t (Or.inl rfl) h).2
    · rw [hrX k j hkj] at h; exact gr_8 k j t hk h
  have hlt : ∀ (k : Nat) (q : Nat × va_E), (ow_W (gz Z 0 ads) 0 56 X1)[k]? = some q → q.1 < H2.size := fun k q hq => (h8.1 k q hq).lt
  have h8b : oW (gz Z 0 ads) (fun q => s.heap.size ≤ q) 0 56 X1 s H3 locs3 := ⟨h8.1.kept (fun k q hq => hS4.2.1 q.1 (hlt k q hq) (fun h => absurd (hlt k q hq) (by omega))), h8.2.1, h9.2.2.1, h8.2.2.2⟩
  have h8c := h8b.on ads2 hg
  have hd : ∀ q, ow_A (gz (gz Z 0 ads) 56 ads2) 0 56 q → ¬ ow_A (gz (gz Z 0 ads) 56 ads2) 56 20 q := by
    intro q h1 h2
    obtain ⟨k, k1, k2, rfl⟩ := (ow_A_gz (gz Z 0 ads) ads2).mp h1
    have a := hA2 _ h2
    have a2 := hlt _ _ (ow_W_at (gz Z 0 ads) X1 k1 k2)
    omega
  have e1 : ow_ad (gz (gz Z 0 ads) 56 ads2) 0 = q1 := (ow_ad_gz (gz Z 0 ads) ads2 (by decide)).trans ha1
  have hl : lv_has ls 4 (lw_lv (gz (gz Z 0 ads) 56 ads2) b 0) := by
    show lv_has ls 4 [(3, .int (nI 0)), (2, .ref (ow_ad (gz (gz Z 0 ads) 56 ads2) 56)), (1, .ref (ow_ad (gz (gz Z 0 ads) 56 ads2) 0)), (0, .ref b)]
    rw [ha2, e1]; exact hl
  exact lw_loop (Z := gz (gz Z 0 ads) 56 ads2) l ⟨hx, hb, hml, hown, hts, hX, hbl, ⟨hG, hGs⟩, hd, hL⟩ hr hlocks L 0 ls X1 M1 H3 locs3 (by omega) (by omega) hl ⟨h8c, h9, hR⟩
